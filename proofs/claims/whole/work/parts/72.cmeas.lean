/-! LAYER 4. The class's Strain: measure, who SAGS -/
/-- all of Strain stands for the row w in the evening E -/
def SV (h : Hp) (n m : Nat) (w : Row) (E : Int32) : Prop := ∀ i, i < 8 → h 6 i = prW n w i ∧ h 7 i = (if upB n w i then brW n w i else 0) ∧ h 8 i = (if upB n w i then stW n m w E i else 0) ∧ h 9 i = (if upB n w i then sgW n m w E 0 i else 0) ∧ h 10 i = (if upB n w i then smW n m w E 2 i else 0)
theorem sg_0 {n m i : Nat} {w : Row} {E : Int32} : sgW n m w E 0 i = brW n w i - stW n m w E i := by
  unfold sgW; rw [tb_0, tff, Int32.add_zero]
section CM
variable {c r : Nat} {h : Hp} {n m : Nat} {w : Row}
theorem upB_lt {i : Nat} (h : upB n w i = true) : i < n := by
  unfold upB at h
  rw [Bool.and_eq_true, decide_eq_true_eq] at h
  exact h.1
theorem c_m104 {i : Nat} {E t0 : Int32} {u : Hp} (hc : 100 ≤ c) (hcr : c + 10 < r ∨ r + 10 < c) (hr : 500 ≤ r) (g : Gd n m w) (hu : upB n w i = true) (H : CV0 c u n m w) (L : LV r u w) (hh : u 13 i = hpW m w E i)
    (hf : ∀ k, k < 9 → u 14 k = fcW n m w E i k) (ht : t0 = if psW n w i = 0 then wtR w i else 0) :
    ∃ u', (∀ q14 : Int32 → Hp → Option Hp, F_X9_measure_104 q14 c r E (nI i) t0 (prW n w i) (nI i) u = q14 (nI (i + 1)) u') ∧
      u' 7 = upd (u 7) i (brW n w i) ∧ u' 8 = upd (u 8) i (stW n m w E i) ∧ u' 9 = upd (u 9) i (sgW n m w E 0 i) ∧ u' 10 = upd (u 10) i (smW n m w E 2 i) ∧ ∀ k, k ≠ 7 → k ≠ 8 → k ≠ 9 → k ≠ 10 → k ≠ r + 7 → u' k = u k := by
  have hi := upB_lt hu
  have h8 := g.1.2.1
  obtain ⟨a1, a2, a3, a4⟩ := H.1 i (by omega)
  have eb : prW n w i + t0 = brW n w i := by unfold brW; rw [ht]
  obtain ⟨v1, s1⟩ := c_sumOf (r := r) (h := up1 u 7 i (prW n w i + t0)) (k := 0) hr g.1 (LV_fr L fun k a b => up1_ob (by omega)) (fun k hk => by rw [up1_ob (by decide)]; exact hf k hk)
  obtain ⟨v2, s2⟩ := c_sumOf (r := r) (h := upA (up1 u 7 i (prW n w i + t0)) (r + 7) v1) (k := 1) hr g.1 (LV_fr L fun k a b => by rw [upA_ob (by omega), up1_ob (by omega)]) (fun k hk => by rw [upA_ob (by omega), up1_ob (by decide)]; exact hf k hk)
  rw [upA_upA] at s2
  generalize hX : up1 (up1 (upA (up1 u 7 i (prW n w i + t0)) (r + 7) v2) 8 i (stW n m w E i)) 9 i (sgW n m w E 0 i) = X
  have Xo : ∀ k, k ≠ 7 → k ≠ 8 → k ≠ 9 → k ≠ r + 7 → X k = u k := fun k a b d e => by
    rw [← hX, up1_ob d, up1_ob b, upA_ob e, up1_ob a]
  obtain ⟨v3, s3⟩ := c_sumOf (r := r) (h := X) (k := 2) hr g.1 (LV_fr L fun k a b => Xo k (by omega) (by omega) (by omega) (by omega)) (fun k hk => by rw [Xo 14 (by decide) (by decide) (by decide) (by omega)]; exact hf k hk)
  refine ⟨up1 (upA X (r + 7) v3) 10 i (smW n m w E 2 i), fun q14 => ?_, ?_, ?_, ?_, ?_, fun k a b d e f => ?_⟩
  · unfold F_X9_measure_104
    have e2 : (up1 u 7 i (prW n w i + t0)) (c + 2) i = fmR w i := by rw [up1_ob (by omega)]; exact a2
    have e3 : (up1 u 7 i (prW n w i + t0)) (c + 3) i = ivR w i := by rw [up1_ob (by omega)]; exact a3
    have e13 : (up1 u 7 i (prW n w i + t0)) 13 i = hpW m w E i := by rw [up1_ob (by decide)]; exact hh
    have s1' : f_X4_sumOf r 0 (up1 u 7 i (prW n w i + t0)) = some (smW n m w E 0 i, upA (up1 u 7 i (prW n w i + t0)) (r + 7) v1) := s1
    have s2' : f_X4_sumOf r 1 (upA (up1 u 7 i (prW n w i + t0)) (r + 7) v1) = some (smW n m w E 1 i, upA (up1 u 7 i (prW n w i + t0)) (r + 7) v2) := s2
    simp (disch := omega) only [reduceIte, ↓zbn, zgd, zcl, zlt, zeq, zn0, zp0, ze0, zem, zsuc, zob, ztl, zfl, ztle, zfle, zte, zfe, zft, toB0, toB1, i10, i01, s1', s2', e2, e3, e13]
    rw [show imax 0 (fmR w i + ivR w i + hpW m w E i + smW n m w E 0 i - smW n m w E 1 i) = stW n m w E i from rfl]
    have r7 : (up1 (upA (up1 u 7 i (prW n w i + t0)) (r + 7) v2) 8 i (stW n m w E i)) 7 i = brW n w i := by
      rw [up1_ob (by decide), upA_ob (by omega), up1_same, eb]
    have r8 : (up1 (upA (up1 u 7 i (prW n w i + t0)) (r + 7) v2) 8 i (stW n m w E i)) 8 i = stW n m w E i := up1_same
    rw [r7, r8, ← sg_0 (n := n) (m := m) (w := w) (E := E) (i := i), hX]
    have s3' : f_X4_sumOf r 2 X = some (smW n m w E 2 i, upA X (r + 7) v3) := s3
    rw [s3', obS]
  · rw [up1_ob (by decide), upA_ob (by omega), ← hX, up1_ob (by decide), up1_ob (by decide), upA_ob (by omega), up1_at, eb]
  · rw [up1_ob (by decide), upA_ob (by omega), ← hX, up1_ob (by decide), up1_at, upA_ob (by omega), up1_ob (by decide)]
  · rw [up1_ob (by decide), upA_ob (by omega), ← hX, up1_at, up1_ob (by decide), upA_ob (by omega), up1_ob (by decide)]
  · rw [up1_at, upA_ob (by omega), Xo 10 (by decide) (by decide) (by decide) (by omega)]
  · rw [up1_ob e, upA_ob f, Xo k a b d f]
theorem c_measure {e : Nat} (hc : 100 ≤ c) (hcr : c + 10 < r ∨ r + 10 < c) (hr : 500 ≤ r) (g : Gd n m w) (H : CV0 c h n m w) (L : LV r h w) (he : e < 7) :
    ∃ h', f_X9_measure c r (nI e) h = some h' ∧ SV h' n m w (nI e) ∧ PV h' n w ∧ ∀ k, (k < 5 ∨ 14 < k) → k ≠ r + 7 → h' k = h k := by
  have h8 := g.1.2.1
  obtain ⟨h1, e1, p1, f1⟩ := c_measurePress H hc g
  obtain ⟨h2, e2, v13, v5, o5, f2⟩ := c_countHelp (h := h1) (e := e) (CV0_fr H fun k a b => f1 k (by omega) (by omega) (by omega) (by omega)) hc g he
  have V2 : HV h2 m w (nI e) := ⟨v13, v5⟩
  have P2 : PV h2 n w := by
    refine ⟨fun i hi => ?_, fun i hi => ?_, fun k hk => ?_⟩
    · rw [f2 6 (by decide) (by decide)]; exact p1.1 i hi
    · rw [f2 12 (by decide) (by decide)]; exact p1.2.1 i hi
    · rw [o5 9 (by decide)]; exact p1.2.2 k hk
  have F2 : ∀ k, (k < 5 ∨ 14 < k) → h2 k = h k := fun k hk => by
    rw [f2 k (by omega) (by omega), f1 k (by omega) (by omega) (by omega) (by omega)]
  have Q : ∃ h', F_X9_measure_14 c r (nI e) FU 0 h2 = some h' ∧ SV h' n m w (nI e) ∧ PV h' n w ∧ ∀ k, (k < 5 ∨ 14 < k) → k ≠ r + 7 → h' k = h k := by
    refine loopW (S_X9_measure_14 c r (nI e)) (fun _ _ => none) (fun q (s : Nat × Hp) => q (nI s.1) s.2) 8
      (fun j s => s.1 = j ∧ (∀ i, i < j → s.2 7 i = (if upB n w i then brW n w i else 0) ∧ s.2 8 i = (if upB n w i then stW n m w (nI e) i else 0) ∧ s.2 9 i = (if upB n w i then sgW n m w (nI e) 0 i else 0) ∧ s.2 10 i = (if upB n w i then smW n m w (nI e) 2 i else 0)) ∧
        ∀ k, k ≠ 7 → k ≠ 8 → k ≠ 9 → k ≠ 10 → k ≠ 14 → k ≠ r + 7 → s.2 k = h2 k)
      (fun x => ∃ h', x = some h' ∧ SV h' n m w (nI e) ∧ PV h' n w ∧ ∀ k, (k < 5 ∨ 14 < k) → k ≠ r + 7 → h' k = h k) (by omega) (fun j s hj hs => ?_) (fun s hs => ?_) (0, h2) ⟨rfl, fun i hi => absurd hi (Nat.not_lt_zero i), fun _ _ _ _ _ _ _ => rfl⟩
    · obtain ⟨j', u⟩ := s
      dsimp only at hs
      obtain ⟨hj', av, af⟩ := hs
      obtain rfl : j' = j := hj'
      generalize hz : up1 (up1 (up1 (up1 u 7 j' 0) 8 j' 0) 9 j' 0) 10 j' 0 = z
      have zo : ∀ k, k ≠ 7 → k ≠ 8 → k ≠ 9 → k ≠ 10 → z k = u k := fun k a b d f => by
        rw [← hz, up1_ob f, up1_ob d, up1_ob b, up1_ob a]
      have z7 : z 7 = upd (u 7) j' 0 := by rw [← hz, up1_ob (by decide), up1_ob (by decide), up1_ob (by decide), up1_at]
      have z8 : z 8 = upd (u 8) j' 0 := by rw [← hz, up1_ob (by decide), up1_ob (by decide), up1_at, up1_ob (by decide)]
      have z9 : z 9 = upd (u 9) j' 0 := by rw [← hz, up1_ob (by decide), up1_at, up1_ob (by decide), up1_ob (by decide)]
      have z10 : z 10 = upd (u 10) j' 0 := by rw [← hz, up1_at, up1_ob (by decide), up1_ob (by decide), up1_ob (by decide)]
      have zh : ∀ k, (k < 5 ∨ 14 < k) → k ≠ r + 7 → z k = h k := fun k a b => by
        rw [zo k (by omega) (by omega) (by omega) (by omega), af k (by omega) (by omega) (by omega) (by omega) (by omega) b, F2 k a]
      have Hz : CV0 c z n m w := CV0_fr H fun k a b => zh k (by omega) (by omega)
      have pre : ∀ q, S_X9_measure_14 c r (nI e) q (nI j') u = if upB n w j' = true then
          Option.bind (f_X9_noteFacts c (nI j') (nI e) z) fun r_15 =>
            (if (r_15 12 j') = 0 then F_X9_measure_104 q c r (nI e) (nI j') (r_15 (c + 1) j') (r_15 6 j') (nI j') r_15
             else F_X9_measure_104 q c r (nI e) (nI j') 0 (r_15 6 j') (nI j') r_15)
          else q (nI (j' + 1)) z := by
        intro q
        unfold S_X9_measure_14
        simp (disch := omega) only [reduceIte, ↓zbn, zgd, zcl, zlt, zeq, zn0, zp0, ze0, zem, zsuc, zob, ztl, zfl, ztle, zfle, zte, zfe, zft, toB0, toB1, i10, i01, zl8, hz, c_isUp Hz h8]
      have upds : ∀ {k : Nat} {X : Nat → Int32} {y : Int32} {zk uk : Row}, zk = upd uk j' y → (∀ i, i < j' → uk i = X i) → y = X j' → ∀ i, i < j' + 1 → zk i = X i := by
        intro k X y zk uk e1 e2 e3 i hi
        rw [e1]
        unfold upd
        by_cases d : i = j'
        · rw [if_pos d, e3, d]
        · rw [if_neg d]; exact e2 i (by omega)
      cases hb : upB n w j'
      · refine ⟨(j' + 1, z), ⟨rfl, fun i hi => ⟨?_, ?_, ?_, ?_⟩, fun k a b d f x y => ?_⟩, fun q => ?_⟩
        · exact upds (k := 7) z7 (fun i hi => (av i hi).1) (by rw [hb]; rfl) i hi
        · exact upds (k := 8) z8 (fun i hi => (av i hi).2.1) (by rw [hb]; rfl) i hi
        · exact upds (k := 9) z9 (fun i hi => (av i hi).2.2.1) (by rw [hb]; rfl) i hi
        · exact upds (k := 10) z10 (fun i hi => (av i hi).2.2.2) (by rw [hb]; rfl) i hi
        · show z k = h2 k
          rw [zo k a b d f, af k a b d f x y]
        · show S_X9_measure_14 c r (nI e) q (nI j') u = q (nI (j' + 1)) z
          rw [pre q, hb, tff]
      · have hjn := upB_lt hb
        have Pz : PV z n w := by
          refine ⟨fun i hi => ?_, fun i hi => ?_, fun k hk => ?_⟩
          · rw [zo 6 (by decide) (by decide) (by decide) (by decide), af 6 (by decide) (by decide) (by decide) (by decide) (by decide) (by omega)]; exact P2.1 i hi
          · rw [zo 12 (by decide) (by decide) (by decide) (by decide), af 12 (by decide) (by decide) (by decide) (by decide) (by decide) (by omega)]; exact P2.2.1 i hi
          · rw [zo 5 (by decide) (by decide) (by decide) (by decide), af 5 (by decide) (by decide) (by decide) (by decide) (by decide) (by omega)]; exact P2.2.2 k hk
        have Vz : HV z m w (nI e) := by
          refine ⟨fun i hi => ?_, fun k hk => ?_⟩
          · rw [zo 13 (by decide) (by decide) (by decide) (by decide), af 13 (by decide) (by decide) (by decide) (by decide) (by decide) (by omega)]; exact V2.1 i hi
          · rw [zo 5 (by decide) (by decide) (by decide) (by decide), af 5 (by decide) (by decide) (by decide) (by decide) (by decide) (by omega)]; exact V2.2 k hk
        obtain ⟨y, ey, fy, oy⟩ := c_noteFacts (i := j') (E := nI e) Hz hc g hjn Pz Vz
        have Hy : CV0 c y n m w := CV0_fr Hz fun k a b => oy k (by omega)
        obtain ⟨u', eu, u7, u8, u9, u10, uo⟩ := c_m104 (t0 := if psW n w j' = 0 then wtR w j' else 0) (E := nI e) (u := y) hc hcr hr g hb Hy (LV_fr L fun k a b => by rw [oy k (by omega)]; exact zh k (by omega) (by omega)) (by rw [oy 13 (by decide)]; exact Vz.1 j' hj) fy rfl
        refine ⟨(j' + 1, u'), ⟨rfl, fun i hi => ⟨?_, ?_, ?_, ?_⟩, fun k a b d f x x2 => ?_⟩, fun q => ?_⟩
        · refine upds (k := 7) (uk := u 7) (y := brW n w j') ?_ (fun i hi => (av i hi).1) (by rw [hb]; rfl) i hi
          dsimp only
          rw [u7, oy 7 (by decide), z7]
          funext a; unfold upd; split <;> rfl
        · refine upds (k := 8) (uk := u 8) (y := stW n m w (nI e) j') ?_ (fun i hi => (av i hi).2.1) (by rw [hb]; rfl) i hi
          dsimp only
          rw [u8, oy 8 (by decide), z8]
          funext a; unfold upd; split <;> rfl
        · refine upds (k := 9) (uk := u 9) (y := sgW n m w (nI e) 0 j') ?_ (fun i hi => (av i hi).2.2.1) (by rw [hb]; rfl) i hi
          dsimp only
          rw [u9, oy 9 (by decide), z9]
          funext a; unfold upd; split <;> rfl
        · refine upds (k := 10) (uk := u 10) (y := smW n m w (nI e) 2 j') ?_ (fun i hi => (av i hi).2.2.2) (by rw [hb]; rfl) i hi
          dsimp only
          rw [u10, oy 10 (by decide), z10]
          funext a; unfold upd; split <;> rfl
        · show u' k = h2 k
          rw [uo k a b d f x2, oy k x, zo k a b d f, af k a b d f x x2]
        · show S_X9_measure_14 c r (nI e) q (nI j') u = q (nI (j' + 1)) u'
          rw [pre q, hb, ttt, ey, obS]
          have y12 : y 12 j' = psW n w j' := by rw [oy 12 (by decide)]; exact Pz.2.1 j' hj
          have y6 : y 6 j' = prW n w j' := by rw [oy 6 (by decide)]; exact Pz.1 j' hj
          have y1 : y (c + 1) j' = wtR w j' := (Hy.1 j' hj).1
          rw [y12, y6, y1, ← eu q]
          by_cases d : psW n w j' = 0
          · rw [if_pos d, if_pos d]
          · rw [if_neg d, if_neg d]
    · obtain ⟨j', u⟩ := s
      dsimp only at hs
      obtain ⟨hj', av, af⟩ := hs
      obtain rfl : j' = 8 := hj'
      refine ⟨_, ⟨u, rfl, fun i hi => ⟨?_, av i hi⟩, ⟨fun i hi => ?_, fun i hi => ?_, fun k hk => ?_⟩, fun k a b => ?_⟩, fun q => ?_⟩
      · rw [af 6 (by decide) (by decide) (by decide) (by decide) (by decide) (by omega)]; exact P2.1 i hi
      · rw [af 6 (by decide) (by decide) (by decide) (by decide) (by decide) (by omega)]; exact P2.1 i hi
      · rw [af 12 (by decide) (by decide) (by decide) (by decide) (by decide) (by omega)]; exact P2.2.1 i hi
      · rw [af 5 (by decide) (by decide) (by decide) (by decide) (by decide) (by omega)]; exact P2.2.2 k hk
      · rw [af k (by omega) (by omega) (by omega) (by omega) (by omega) b, F2 k a]
      · show S_X9_measure_14 c r (nI e) q (nI 8) u = _
        unfold S_X9_measure_14
        simp (disch := omega) only [reduceIte, ↓zbn, zgd, zcl, zlt, zeq, zn0, zp0, ze0, zem, zsuc, zob, ztl, zfl, ztle, zfle, zte, zfe, zft, toB0, toB1, i10, i01, zl8]
  obtain ⟨h', e3, s, p, f⟩ := Q
  refine ⟨h', ?_, s, p, f⟩
  unfold f_X9_measure
  rw [e1, obS, e2, obS, e3]
theorem c_saggingSet {E : Int32} (g : Gd n m w) (S : SV h n m w E) : f_X9_saggingSet h = some (sgS n m w E 0) := by
  have h8 := g.1.2.1
  have Q := loop0 (S_X9_saggingSet_4 h) (fun _ _ => none) (fun j q => q (orTo (fun i => decide (0 < h 9 i)) j) (nI j)) 8 (some (sgS n m w E 0)) (by omega) (fun j hj q => ?_) (fun q => ?_)
  · exact Q
  · show S_X9_saggingSet_4 h q (orTo (fun i => decide (0 < h 9 i)) j) (nI j) = q (orTo (fun i => decide (0 < h 9 i)) j ||| (if decide (0 < h 9 j) = true then shl 1 (nI j) else 0)) (nI (j + 1))
    unfold S_X9_saggingSet_4 F_X9_saggingSet_27
    simp (disch := omega) only [reduceIte, ↓zbn, zgd, zcl, zlt, zeq, zn0, zp0, ze0, zem, zsuc, zob, ztl, zfl, ztle, zfle, zte, zfe, zft, toB0, toB1, i10, i01, zl8]
    by_cases d : 0 < h 9 j
    · rw [if_pos d, decide_eq_true d]; rfl
    · rw [if_neg d, decide_eq_false d]; rfl
  · show S_X9_saggingSet_4 h q _ (nI 8) = _
    unfold S_X9_saggingSet_4
    simp (disch := omega) only [reduceIte, ↓zbn, zgd, zcl, zlt, zeq, zn0, zp0, ze0, zem, zsuc, zob, ztl, zfl, ztle, zfle, zte, zfe, zft, toB0, toB1, i10, i01, zl8]
    congr 1
    unfold sgS
    rw [orTo_8 (n := n) h8]
    refine orTo_congr 8 fun i hi => ?_
    rw [(S i hi).2.2.2.1]
    unfold sgB
    cases hu : upB n w i
    · unfold upB at hu
      simp only [tff, zft, tF]
      cases hd : decide (i < n)
      · rfl
      · rw [hd] at hu
        cases hf : falB w i
        · rw [hf] at hu; cases hu
        · rfl
    · unfold upB at hu
      rw [Bool.and_eq_true] at hu
      rw [hu.1, hu.2, ttt]; rfl
end CM
