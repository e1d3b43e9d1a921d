/-! LAYER 4. The class's Strain: who holds, facts, all of it -/
theorem shr_bI {x : Int32} {i : Nat} (hi : i < 32) : shr x (nI i) &&& 1 = bI (tb x i) := by
  cases b : tb x i
  · have := shr_tb0 (x := x) hi
    rw [b] at this
    exact of_eq_true (this.trans (eq_self false))
  · have := shr_tb (x := x) hi
    rw [b] at this
    exact of_eq_true (this.trans (eq_self true))
section CT
variable {c : Nat} {h : Hp} {n m : Nat} {w : Row}
theorem c_ch28 {e : Nat} (H : CV0 c h n m w) (hc : 100 ≤ c) (g : Gd n m w) (he : e < 7) (h13 : ∀ i, i < 8 → h 13 i = 0) (h5 : h 5 10 = 0) :
    ∃ h', F_X9_countHelp_28 c (nI e) FU 0 h = some h' ∧ (∀ i, i < 8 → h' 13 i = hpW m w (nI e) i) ∧ (∀ k, k < 8 → tb (h' 5 10) k = anyTo (thB w (nI e) k) m) ∧ (∀ i, i ≠ 10 → h' 5 i = h 5 i) ∧ ∀ k, k ≠ 5 → k ≠ 13 → h' k = h k := by
  have h8 := g.1.2.1
  have h6 := g.1.2.2.2.1
  let F : Nat → Nat → Int32 := fun i p => if (decide (p < m) && thB w (nI e) i p) = true then hdR w p else 0
  let B : Nat → Nat → Bool := fun k p => decide (p < m) && thB w (nI e) k p
  refine loopW (S_X9_countHelp_28 c (nI e)) (fun _ _ => none) (fun q (s : Nat × Hp) => q (nI s.1) s.2) 6
    (fun j s => s.1 = j ∧ (∀ i, i < 8 → s.2 13 i = sumTo (F i) j) ∧ (∀ k, k < 8 → tb (s.2 5 10) k = anyTo (B k) j) ∧ (∀ i, i ≠ 10 → s.2 5 i = h 5 i) ∧ ∀ k, k ≠ 5 → k ≠ 13 → s.2 k = h k)
    (fun r => ∃ h', r = some h' ∧ (∀ i, i < 8 → h' 13 i = hpW m w (nI e) i) ∧ (∀ k, k < 8 → tb (h' 5 10) k = anyTo (thB w (nI e) k) m) ∧ (∀ i, i ≠ 10 → h' 5 i = h 5 i) ∧ ∀ k, k ≠ 5 → k ≠ 13 → h' k = h k)
    (by omega) (fun j s hj hs => ?_) (fun s hs => ?_) (0, h) ⟨rfl, fun i hi => h13 i hi, fun k hk => by show tb (h 5 10) k = false; rw [h5, tb_0], fun _ _ => rfl, fun _ _ _ => rfl⟩
  · obtain ⟨j', u⟩ := s
    dsimp only at hs
    obtain ⟨hj', a13, a5, a5o, af⟩ := hs
    obtain rfl : j' = j := hj'
    have HU : CV0 c u n m w := CV0_fr H fun k a b => af k (by omega) (by omega)
    have skip : (∀ i, i < 8 → B i j' = false) → (∀ q, S_X9_countHelp_28 c (nI e) q (nI j') u = q (nI (j' + 1)) u) →
        ∃ s' : Nat × Hp, (s'.1 = j' + 1 ∧ (∀ i, i < 8 → s'.2 13 i = sumTo (F i) (j' + 1)) ∧ (∀ k, k < 8 → tb (s'.2 5 10) k = anyTo (B k) (j' + 1)) ∧ (∀ i, i ≠ 10 → s'.2 5 i = h 5 i) ∧ ∀ k, k ≠ 5 → k ≠ 13 → s'.2 k = h k) ∧ ∀ q, S_X9_countHelp_28 c (nI e) q (nI j') u = q (nI s'.1) s'.2 := by
      intro hb hq
      refine ⟨(j' + 1, u), ⟨rfl, fun i hi => ?_, fun k hk => ?_, a5o, af⟩, hq⟩
      · show u 13 i = sumTo (F i) j' + F i j'
        rw [show F i j' = 0 from by show (if B i j' = true then _ else _) = _; rw [hb i hi, tff], Int32.add_zero]; exact a13 i hi
      · show tb (u 5 10) k = (anyTo (B k) j' || B k j')
        rw [hb k hk, Bool.or_false]; exact a5 k hk
    have sk1 : ∀ x : Int32, (x < 0) → f_X1_placeOf c (nI j') u = some x → ∀ q, S_X9_countHelp_28 c (nI e) q (nI j') u = q (nI (j' + 1)) u := by
      intro x hx ep q
      unfold S_X9_countHelp_28
      simp (disch := omega) only [reduceIte, ↓zbn, zgd, zcl, zlt, zeq, zn0, zp0, ze0, zem, zsuc, zob, ztl, zfl, ztle, zfle, zte, zfe, zft, toB0, toB1, i10, i01, zl6, ep, c_isUpX HU h8 (Or.inl hx)]
    by_cases hm : j' < m
    · obtain ⟨hat, _⟩ := g.2.2.2.1 j' hm
      rcases hat with hat | ⟨a, ha, hfa, hat⟩
      · refine skip (fun i hi => ?_) (sk1 (-1) (by decide) (by rw [c_placeOf HU h6 (by omega), if_pos hm]; unfold atR; rw [hat]))
        show (decide (j' < m) && thB w (nI e) i j') = false
        unfold thB thereB atR
        rw [hat, show decide ((-1 : Int32) = nI i) = false from decide_eq_false (fun q => by rw [zme (by omega)] at q; exact q), Bool.false_and, Bool.and_false]
      · have ep : f_X1_placeOf c (nI j') u = some (nI a) := by rw [c_placeOf HU h6 (by omega), if_pos hm]; unfold atR; rw [hat]
        have eup : f_X1_isUp c (nI a) u = true := by
          rw [c_isUp HU h8 (by omega)]; unfold upB; rw [decide_eq_true ha, hfa]; rfl
        have eth := c_isThere (p := j') (e := e) HU h6 (by omega) he
        rw [decide_eq_true hm, Bool.true_and] at eth
        have eB : ∀ i, i < 8 → B i j' = (decide (a = i) && tb (cmR w j') e) := by
          intro i hi
          show (decide (j' < m) && thB w (nI e) i j') = _
          unfold thB thereB atR
          rw [hat, decide_eq_true hm, Bool.true_and, hasB_tb (by omega)]
          congr 1
          exact decide_eq_decide.mpr (nI_eq (by omega) (by omega))
        cases tc : tb (cmR w j') e
        · rw [tc] at eth
          refine skip (fun i hi => by rw [eB i hi, tc, Bool.and_false]) (fun q => ?_)
          unfold S_X9_countHelp_28
          simp (disch := omega) only [reduceIte, ↓zbn, zgd, zcl, zlt, zeq, zn0, zp0, ze0, zem, zsuc, zob, ztl, zfl, ztle, zfle, zte, zfe, zft, toB0, toB1, i10, i01, zl6, ep, eup, eth]
        · rw [tc] at eth
          have eh : f_X1_holdOf c (nI j') u = some (hdR w j') := by rw [c_holdOf HU h6 (by omega), if_pos hm]
          refine ⟨(j' + 1, up1 (up1 u 13 a (u 13 a + hdR w j')) 5 10 (u 5 10 ||| shl 1 (nI a))), ⟨rfl, fun i hi => ?_, fun k hk => ?_, fun i hi => ?_, fun k x y => ?_⟩, fun q => ?_⟩
          · show up1 (up1 u 13 a (u 13 a + hdR w j')) 5 10 (u 5 10 ||| shl 1 (nI a)) 13 i = sumTo (F i) j' + F i j'
            rw [up1_ob (by decide), up1_at, show F i j' = if (decide (a = i) && true) = true then hdR w j' else 0 from by
              show (if B i j' = true then _ else _) = _; rw [eB i hi, tc]]
            unfold upd
            by_cases z : i = a
            · subst z
              rw [if_pos rfl, decide_eq_true rfl, a13 i hi]; rfl
            · rw [if_neg z, decide_eq_false (fun q => z q.symm), a13 i hi]
              show _ = _ + 0
              rw [Int32.add_zero]
          · show tb (up1 (up1 u 13 a (u 13 a + hdR w j')) 5 10 (u 5 10 ||| shl 1 (nI a)) 5 10) k = (anyTo (B k) j' || B k j')
            rw [up1_same, tb_or, a5 k hk, eB k hk, tc, Bool.and_true, tb_s1 (by omega) (by omega)]
            congr 1
            exact decide_eq_decide.mpr ⟨fun q => q.symm, fun q => q.symm⟩
          · show up1 (up1 u 13 a (u 13 a + hdR w j')) 5 10 (u 5 10 ||| shl 1 (nI a)) 5 i = _
            rw [up1_at, upd_ob hi, up1_ob (by decide)]; exact a5o i hi
          · show up1 (up1 u 13 a (u 13 a + hdR w j')) 5 10 (u 5 10 ||| shl 1 (nI a)) k = _
            rw [up1_ob x, up1_ob y]; exact af k x y
          · show S_X9_countHelp_28 c (nI e) q (nI j') u = q (nI (j' + 1)) _
            unfold S_X9_countHelp_28
            simp (disch := omega) only [reduceIte, ↓zbn, zgd, zcl, zlt, zeq, zn0, zp0, ze0, zem, zsuc, zob, ztl, zfl, ztle, zfle, zte, zfe, zft, toB0, toB1, i10, i01, zl6, ep, eup, eth, eh, eq_self]
            rw [show (up1 u 13 a (u 13 a + hdR w j')) 5 10 = u 5 10 from by rw [up1_ob (by decide)]]
    · refine skip (fun i hi => ?_) (sk1 (-1) (by decide) (by rw [c_placeOf HU h6 (by omega), if_neg hm]))
      show (decide (j' < m) && thB w (nI e) i j') = false
      rw [decide_eq_false hm]; rfl
  · obtain ⟨j', u⟩ := s
    dsimp only at hs
    obtain ⟨hj', a13, a5, a5o, af⟩ := hs
    obtain rfl : j' = 6 := hj'
    refine ⟨_, ⟨u, rfl, fun i hi => ?_, fun k hk => ?_, a5o, af⟩, fun q => ?_⟩
    · rw [a13 i hi, sumTo_ext (n := m) 6 h6 (fun j x y => by
        show (if (decide (j < m) && thB w (nI e) i j) = true then hdR w j else 0) = 0
        rw [decide_eq_false (by omega)]; rfl)]
      exact sumTo_congr m fun p hp => by
        show (if (decide (p < m) && thB w (nI e) i p) = true then hdR w p else 0) = _
        rw [decide_eq_true hp, Bool.true_and]
    · rw [a5 k hk, anyTo_ext (n := m) 6 h6 (fun j x y => by
        show (decide (j < m) && thB w (nI e) k j) = false
        rw [decide_eq_false (by omega)]; rfl)]
      exact anyTo_congr m fun p hp => by
        show (decide (p < m) && thB w (nI e) k p) = _
        rw [decide_eq_true hp, Bool.true_and]
    · show S_X9_countHelp_28 c (nI e) q (nI 6) u = _
      unfold S_X9_countHelp_28
      simp (disch := omega) only [reduceIte, ↓zbn, zgd, zcl, zlt, zeq, zn0, zp0, ze0, zem, zsuc, zob, ztl, zfl, ztle, zfle, zte, zfe, zft, toB0, toB1, i10, i01, zl6]
theorem c_countHelp {e : Nat} (H : CV0 c h n m w) (hc : 100 ≤ c) (g : Gd n m w) (he : e < 7) :
    ∃ h', f_X9_countHelp c (nI e) h = some h' ∧ (∀ i, i < 8 → h' 13 i = hpW m w (nI e) i) ∧ (∀ k, k < 8 → tb (h' 5 10) k = anyTo (thB w (nI e) k) m) ∧ (∀ i, i ≠ 10 → h' 5 i = h 5 i) ∧ ∀ k, k ≠ 5 → k ≠ 13 → h' k = h k := by
  unfold f_X9_countHelp
  rw [bnd_eq]
  generalize hu : up1 h 5 10 0 = u
  have u5 : ∀ k, k ≠ 5 → u k = h k := fun k hk => by rw [← hu]; exact up1_ob hk
  have u50 : u 5 = upd (h 5) 10 0 := by rw [← hu]; exact up1_at
  obtain ⟨h', e1, a, b, b2, d⟩ := c_ch28 (e := e) (h := upA u 13 (fun i => if i < 8 then 0 else u 13 i)) (CV0_fr H (fun k a b => by rw [upA_ob (by omega)]; exact u5 k (by omega))) hc g he (fun i hi => by rw [upA_at]; exact if_pos hi) (by rw [upA_ob (by decide), u50, upd_at])
  refine ⟨h', ?_, a, b, fun i hi => ?_, fun k x y => ?_⟩
  · rw [← e1]
    have Q := loop0 (S_X9_countHelp_7 c (nI e)) (fun _ _ => none) (fun j q => q (nI j) (upA u 13 (fun o => if o < j then 0 else u 13 o))) 8
      (F_X9_countHelp_28 c (nI e) FU 0 (upA u 13 (fun i => if i < 8 then 0 else u 13 i))) (by omega) (fun j hj q => ?_) (fun q => ?_)
    · rw [ite_0, upA_self] at Q
      exact Q
    · show S_X9_countHelp_7 c (nI e) q (nI j) _ = q (nI (j + 1)) _
      unfold S_X9_countHelp_7
      simp (disch := omega) only [reduceIte, ↓zbn, zgd, zcl, zlt, zeq, zn0, zp0, ze0, zem, zsuc, zob, ztl, zfl, ztle, zfle, zte, zfe, zft, toB0, toB1, i10, i01, zl8, up1_upA]
      rw [← upd_ite (fun _ => 0) (u 13) j]
    · show S_X9_countHelp_7 c (nI e) q (nI 8) _ = _
      unfold S_X9_countHelp_7
      simp (disch := omega) only [reduceIte, ↓zbn, zgd, zcl, zlt, zeq, zn0, zp0, ze0, zem, zsuc, zob, ztl, zfl, ztle, zfle, zte, zfe, zft, toB0, toB1, i10, i01, zl8]
  · rw [b2 i hi, upA_ob (by decide), u50, upd_ob hi]
  · rw [d k x y, upA_ob y, u5 k x]
/-- Strain's rows ahead of the facts -/
def HV (h : Hp) (m : Nat) (w : Row) (E : Int32) : Prop := (∀ i, i < 8 → h 13 i = hpW m w E i) ∧ ∀ k, k < 8 → tb (h 5 10) k = anyTo (thB w E k) m
theorem c_noteFacts {i : Nat} {E : Int32} (H : CV0 c h n m w) (hc : 100 ≤ c) (g : Gd n m w) (hi : i < n) (P : PV h n w) (V : HV h m w E) :
    ∃ h', f_X9_noteFacts c (nI i) E h = some h' ∧ (∀ k, k < 9 → h' 14 k = fcW n m w E i k) ∧ ∀ k, k ≠ 14 → h' k = h k := by
  have h8 := g.1.2.1
  obtain ⟨a1, a2, a3, a4⟩ := H.1 i (by omega)
  have b6 := P.1 i (by omega)
  have b12 := P.2.1 i (by omega)
  have b5 := P.2.2 i (by omega)
  have v5 := V.2 i (by omega)
  unfold f_X9_noteFacts F_X9_noteFacts_91
  rw [c_isHouse H.2.2.2.1.1 h8 (by omega), decide_eq_true hi, ttt]
  simp (disch := omega) only [reduceIte, ↓zbn, zgd, zcl, zlt, zeq, zn0, zp0, ze0, zem, zsuc, zob, ztl, zfl, ztle, zfle, zte, zfe, zft, toB0, toB1, i10, i01, up1_ob, a1, a3, a4, b6, b12, zgl6]
  have mk : ∀ t : Int32, t = bI (decide (0 < psW n w i)) → ∃ h', some (up1 (up1 (up1 (up1 (up1 (up1 (up1 (up1 (up1 h 14 0 (nI i)) 14 1 (wtR w i)) 14 2 (ivR w i)) 14 3 (agR w i)) 14 4 E) 14 5 (prW n w i)) 14 6 t) 14 7 (shr (h 5 9) (nI i) &&& 1)) 14 8 (shr (h 5 10) (nI i) &&& 1)) = some h' ∧ (∀ k, k < 9 → h' 14 k = fcW n m w E i k) ∧ ∀ k, k ≠ 14 → h' k = h k := by
    intro t ht
    refine ⟨_, rfl, fun k hk => ?_, fun k hk => ?_⟩
    · rw [shr_bI (by omega), shr_bI (by omega), b5, v5, ht]
      simp only [up1_at]
      have kk : k = 0 ∨ k = 1 ∨ k = 2 ∨ k = 3 ∨ k = 4 ∨ k = 5 ∨ k = 6 ∨ k = 7 ∨ k = 8 := by omega
      rcases kk with rfl | rfl | rfl | rfl | rfl | rfl | rfl | rfl | rfl
      all_goals simp (disch := omega) only [upd_ob, upd_at]
      all_goals rfl
    · rw [up1_ob hk, up1_ob hk, up1_ob hk, up1_ob hk, up1_ob hk, up1_ob hk, up1_ob hk, up1_ob hk, up1_ob hk]
  by_cases z : 0 < psW n w i
  · rw [if_pos z]
    exact mk 1 (by rw [decide_eq_true z]; rfl)
  · rw [if_neg z]
    exact mk 0 (by rw [decide_eq_false z]; rfl)
end CT
