/-! LAYER 4. The class's evening more: ivy and age, who wanders, all of it -/
section CP
variable {c : Nat} {h : Hp} {n m : Nat} {w : Row}
theorem CV0_age {i : Nat} {E : Int32} {h' : Hp} (H : CV0 c h n m w) (h6 : m ≤ 6) (h3 : h' (c + 3) = upd (h (c + 3)) i (ivR (ageW n m E i w) i)) (h4 : h' (c + 4) = upd (h (c + 4)) i (agR (ageW n m E i w) i))
    (ho : ∀ k, k ≠ c + 3 → k ≠ c + 4 → h' k = h k) (hi : i < 8) : CV0 c h' n m (ageW n m E i w) := by
  have o : ∀ k, k ≠ 74 + 5 * i + 2 → k ≠ 74 + 5 * i + 3 → ageW n m E i w k = w k := fun k a b => age_ob ⟨a, b⟩
  obtain ⟨a1, a2, a3, a4, a5⟩ := H
  refine ⟨fun j hj => ?_, fun k hk => ?_, fun p hp => ?_, ⟨?_, ?_, ?_⟩, ?_⟩
  · obtain ⟨b1, b2, b3, b4⟩ := a1 j hj
    rw [ho (c + 1) (by omega) (by omega), ho (c + 2) (by omega) (by omega), h3, h4]
    refine ⟨?_, ?_, ?_, ?_⟩
    · unfold wtR; rw [o _ (by omega) (by omega)]; exact b1
    · unfold fmR; rw [o _ (by omega) (by omega)]; exact b2
    · by_cases z : j = i
      · rw [z, upd_at]
      · rw [upd_ob z]; unfold ivR; rw [o _ (by omega) (by omega)]; exact b3
    · by_cases z : j = i
      · rw [z, upd_at]
      · rw [upd_ob z]; unfold agR; rw [o _ (by omega) (by omega)]; exact b4
  · rw [ho _ (by omega) (by omega), o _ (by omega) (by omega)]; exact a2 k hk
  · rw [ho (c + 6) (by omega) (by omega), ho (c + 7) (by omega) (by omega), ho (c + 8) (by omega) (by omega)]
    unfold atR hdR cmR
    rw [o _ (by omega) (by omega), o _ (by omega) (by omega), o _ (by omega) (by omega)]
    exact a3 p hp
  · rw [ho c (by omega) (by omega)]; exact a4.1
  · rw [ho c (by omega) (by omega)]; exact a4.2.1
  · rw [ho c (by omega) (by omega), a4.2.2]
    refine orTo_congr 8 fun j hj => ?_
    unfold upB falB; rw [o _ (by omega) (by omega)]
  · rw [ho c (by omega) (by omega), o 4 (by omega) (by omega), o 5 (by omega) (by omega), o 6 (by omega) (by omega), o 7 (by omega) (by omega), o 2 (by omega) (by omega), o 9 (by omega) (by omega)]
    exact a5
theorem upd_self {f : Row} {i : Nat} {v : Int32} (h : f i = v) : upd f i v = f := by
  funext k; unfold upd
  by_cases c : k = i
  · rw [if_pos c, c, h]
  · rw [if_neg c]
theorem c_growAll {e : Nat} (hc : 100 ≤ c) (g : Gd n m w) (H : CV0 c h n m w) (S : SV h n m w (nI e)) (he : w 4 = nI e) (he7 : e < 7) :
    ∃ h', f_X3_growAll c h = some h' ∧ CV0 c h' n m (agW n m (nI e) w) ∧ ∀ k, k ≠ c + 3 → k ≠ c + 4 → h' k = h k := by
  have h8 := g.1.2.1
  have h6 := g.1.2.2.2.1
  have Q := loopW (S_X3_growAll_2 c) (fun _ _ => none) (fun q (s : Nat × Hp) => q (nI s.1) s.2) 8
    (fun j s => s.1 = j ∧ CV0 c s.2 n m (fldN (ageW n m (nI e)) w (min j n)) ∧ ∀ k, k ≠ c + 3 → k ≠ c + 4 → s.2 k = h k)
    (fun r => ∃ h', r = some h' ∧ CV0 c h' n m (agW n m (nI e) w) ∧ ∀ k, k ≠ c + 3 → k ≠ c + 4 → h' k = h k) (by omega) (fun j s hj hs => ?_) (fun s hs => ?_) (0, h) ⟨rfl, by rw [Nat.zero_min]; exact H, fun _ _ _ => rfl⟩
  · exact Q
  · obtain ⟨j', u⟩ := s
    dsimp only at hs
    obtain ⟨hj', a, f⟩ := hs
    obtain rfl : j' = j := hj'
    obtain ⟨v, hv⟩ : ∃ v, fldN (ageW n m (nI e)) w (min j' n) = v := ⟨_, rfl⟩
    rw [hv] at a
    have vo : ∀ k, (k < 76 ∨ 114 ≤ k ∨ ((k - 74) % 5 ≠ 2 ∧ (k - 74) % 5 ≠ 3)) → v k = w k := fun k hk => by rw [← hv]; exact ag_ob (by omega) hk
    have vj : ivR v j' = ivR w j' ∧ agR v j' = agR w j' := by
      rw [← hv]
      exact fldN_ind (fun _ (x : Row) => ivR x j' = ivR w j' ∧ agR x j' = agR w j') ⟨rfl, rfl⟩ (min j' n) fun i x hi q => by
        unfold ivR agR at q ⊢
        rw [age_ob (by omega), age_ob (by omega)]; exact q
    have ub : upB n v j' = upB n w j' := by unfold upB falB; rw [vo _ (by omega)]
    have eu : f_X1_isUp c (nI j') u = upB n w j' := by rw [c_isUp a h8 (by omega), ub]
    cases hb : upB n w j'
    · have ev : fldN (ageW n m (nI e)) w (min (j' + 1) n) = v := by
        by_cases z : j' < n
        · rw [show min (j' + 1) n = min j' n + 1 from by omega, fldN_s, hv, show min j' n = j' from by omega]
          unfold ageW
          have : falB v j' = true := by
            rw [← ub] at hb
            unfold upB at hb
            rw [decide_eq_true z] at hb
            simpa using hb
          rw [if_pos this]
        · rw [show min (j' + 1) n = min j' n from by omega, hv]
      refine ⟨(j' + 1, u), ⟨rfl, by rw [ev]; exact a, f⟩, fun q => ?_⟩
      show S_X3_growAll_2 c q (nI j') u = q (nI (j' + 1)) u
      unfold S_X3_growAll_2
      rw [hb] at eu
      simp (disch := omega) only [reduceIte, ↓zbn, zgd, zcl, zlt, zeq, zn0, zp0, ze0, zem, zsuc, zob, ztl, zfl, ztle, zfle, zte, zfe, zft, toB0, toB1, i10, i01, zl8, eu]
    · have jn := upB_lt hb
      have hfal : falB v j' = false := by
        rw [← ub] at hb
        unfold upB at hb
        rw [decide_eq_true jn] at hb
        simpa using hb
      have ev : fldN (ageW n m (nI e)) w (min (j' + 1) n) = ageW n m (nI e) j' v := by
        rw [show min (j' + 1) n = min j' n + 1 from by omega, fldN_s, hv, show min j' n = j' from by omega]
      have sm : smW n m v (nI e) 2 j' = smW n m w (nI e) 2 j' :=
        sm_congr h8 h6 hj (fun k hk => vo k (by omega)) (fun i hi => vo _ (by omega)) vj.1 vj.2
      have u10 : u 10 j' = smW n m w (nI e) 2 j' := by
        rw [f 10 (by omega) (by omega), (S j' hj).2.2.2.2, hb, ttt]
      have u3 : u (c + 3) j' = ivR v j' := (a.1 j' hj).2.2.1
      have u4 : u (c + 4) j' = agR v j' := (a.1 j' hj).2.2.2
      have u12 : u c 12 = v 4 := a.2.2.2.2.1
      have v4 : v 4 = nI e := by rw [vo 4 (by omega), he]
      rw [hb] at eu
      by_cases z : e = 0
      · subst z
        have v40 : v 4 = 0 := v4
        have ea : ageW n m (nI 0) j' v = upd (upd v (74 + 5 * j' + 2) (imin 9 (ivR v j' + smW n m v (nI 0) 2 j'))) (74 + 5 * j' + 3) (imin 99 (agR v j' + 1)) := by
          unfold ageW; rw [hfal, tff, if_pos v40]
        refine ⟨(j' + 1, up1 (up1 u (c + 3) j' (imin 9 (ivR v j' + smW n m w (nI 0) 2 j'))) (c + 4) j' (imin 99 (agR v j' + 1))), ⟨rfl, ?_, fun k x y => ?_⟩, fun q => ?_⟩
        · rw [ev]
          refine CV0_age a h6 ?_ ?_ (fun k x y => by dsimp only; rw [up1_ob y, up1_ob x]) hj
          · dsimp only
            rw [up1_ob (by omega), up1_at, ea]
            unfold ivR
            rw [upd_ob (by omega), upd_at, sm]
          · dsimp only
            rw [up1_at, up1_ob (by omega), ea]
            unfold agR
            rw [upd_at]
        · dsimp only
          rw [up1_ob y, up1_ob x]; exact f k x y
        · show S_X3_growAll_2 c q (nI j') u = q (nI (j' + 1)) _
          unfold S_X3_growAll_2
          have r12 : (up1 u (c + 3) j' (imin 9 (ivR v j' + smW n m w (nI 0) 2 j'))) c 12 = 0 := by rw [up1_ob (by omega), u12, v40]
          have r4 : (up1 u (c + 3) j' (imin 9 (ivR v j' + smW n m w (nI 0) 2 j'))) (c + 4) j' = agR v j' := by rw [up1_ob (by omega), u4]
          simp (disch := omega) only [reduceIte, ↓zbn, zgd, zcl, zlt, zeq, zn0, zp0, ze0, zem, zsuc, zob, ztl, zfl, ztle, zfle, zte, zfe, zft, toB0, toB1, i10, i01, zl8, eu, u3, u10, r12, r4, eq_self]
      · have ea : ageW n m (nI e) j' v = upd v (74 + 5 * j' + 2) (imin 9 (ivR v j' + smW n m v (nI e) 2 j')) := by
          unfold ageW
          rw [hfal, tff, if_neg (by rw [v4]; intro q; rw [ze0 (by omega)] at q; exact z q)]
        refine ⟨(j' + 1, up1 u (c + 3) j' (imin 9 (ivR v j' + smW n m w (nI e) 2 j'))), ⟨rfl, ?_, fun k x y => ?_⟩, fun q => ?_⟩
        · rw [ev]
          refine CV0_age a h6 ?_ ?_ (fun k x y => by dsimp only; rw [up1_ob x]) hj
          · dsimp only
            rw [up1_at, ea]
            unfold ivR
            rw [upd_at, sm]
          · dsimp only
            rw [up1_ob (by omega), ea]
            unfold agR
            rw [upd_ob (by omega)]
            exact (upd_self u4).symm
        · dsimp only
          rw [up1_ob x]; exact f k x y
        · show S_X3_growAll_2 c q (nI j') u = q (nI (j' + 1)) _
          unfold S_X3_growAll_2
          have r12 : (up1 u (c + 3) j' (imin 9 (ivR v j' + smW n m w (nI e) 2 j'))) c 12 = nI e := by rw [up1_ob (by omega), u12, v4]
          simp (disch := omega) only [reduceIte, ↓zbn, zgd, zcl, zlt, zeq, zn0, zp0, ze0, zem, zsuc, zob, ztl, zfl, ztle, zfle, zte, zfe, zft, toB0, toB1, i10, i01, zl8, eu, u3, u10, r12, eq_self]
  · obtain ⟨j', u⟩ := s
    dsimp only at hs
    obtain ⟨hj', a, f⟩ := hs
    obtain rfl : j' = 8 := hj'
    rw [show min 8 n = n from by omega] at a
    refine ⟨_, ⟨u, rfl, a, f⟩, fun q => ?_⟩
    show S_X3_growAll_2 c q (nI 8) u = _
    unfold S_X3_growAll_2
    simp (disch := omega) only [reduceIte, ↓zbn, zgd, zcl, zlt, zeq, zn0, zp0, ze0, zem, zsuc, zob, ztl, zfl, ztle, zfle, zte, zfe, zft, toB0, toB1, i10, i01, zl8]
theorem ushr_shr (s : Int32) : ushr s 16 &&& 32767 = drV s := by
  unfold drV
  apply tb_ext
  intro k hk
  rw [tb_and, tb_and]
  by_cases z : k < 15
  · congr 1
    have e1 : (shr s 16).toBitVec = s.toBitVec.sshiftRight 16 := by
      unfold shr
      rw [Int32.toBitVec_shiftRight]
      show s.toBitVec.sshiftRight ((((16 : Int32) &&& 31).toBitVec.smod 32).toNat) = _
      rw [show (((16 : Int32) &&& 31).toBitVec.smod 32).toNat = 16 from by decide]
    have e2 : (ushr s 16).toBitVec = s.toBitVec >>> 16 := by
      unfold ushr
      show (s.toBitVec >>> ((((16 : Int32).toUInt32 &&& Int32.toUInt32 31).toBitVec % 32))) = _
      rw [show (((16 : Int32).toUInt32 &&& Int32.toUInt32 31).toBitVec % 32) = 16#32 from by decide]
      rfl
    unfold tb
    rw [e1, e2, BitVec.getLsbD_sshiftRight, BitVec.getLsbD_ushiftRight, if_pos (by omega), decide_eq_false (by omega)]
    rfl
  · have : tb 32767 k = false :=
      (show ∀ k, k < 32 → ¬ k < 15 → tb 32767 k = false by decide +kernel) k hk z
    rw [this, Bool.and_false, Bool.and_false]
theorem c_draw : f_X1_draw c h = some (drV (drS (h c 17)), up1 h c 17 (drS (h c 17))) := by
  unfold f_X1_draw
  rw [bnd_eq, up1_same, ushr_shr]
  rfl
theorem c_upAt {x : Nat} (H : CV0 c h n m w) (h8 : n ≤ 8) (hx : x < cnt (upS w) n) : f_X1_upAt c (nI x) h = some (nI (nthT (upS w) n x)) := by
  obtain ⟨T1, T2, T3⟩ := nthT_ok hx
  have le := cnt_le (upS w) n
  generalize nthT (upS w) n x = T at T1 T2 T3
  have ub : ∀ j, j < n → upB n w j = upS w j := fun j hj => by unfold upB upS; rw [decide_eq_true hj, Bool.true_and]
  have Q := loop0 (S_X1_upAt_4 h c) (fun _ _ => none) (fun j q => q (nI (x - cnt (upS w) j)) (nI j)) T (some (nI T)) (by omega) (fun j hj q => ?_) (fun q => ?_)
  · exact Q
  · have mono : cnt (upS w) (j + 1) ≤ cnt (upS w) T := cnt_mono hj
    rw [show cnt (upS w) (j + 1) = cnt (upS w) j + (if upS w j then 1 else 0) from rfl] at mono
    show S_X1_upAt_4 h c q (nI (x - cnt (upS w) j)) (nI j) = q (nI (x - (cnt (upS w) j + (if upS w j then 1 else 0)))) (nI (j + 1))
    unfold S_X1_upAt_4
    rw [c_isUp H h8 (by omega), ub j (by omega)]
    cases u : upS w j
    · simp (disch := omega) only [reduceIte, ↓zbn, zgd, zcl, zlt, zeq, zn0, zp0, ze0, zem, zsuc, zob, ztl, zfl, ztle, zfle, zte, zfe, zft, toB0, toB1, i10, i01, zl8, Nat.add_zero]
    · rw [u, ttt] at mono
      simp (disch := omega) only [reduceIte, ↓zbn, zgd, zcl, zlt, zeq, zn0, zp0, ze0, zem, zsuc, zob, ztl, zfl, ztle, zfle, zte, zfe, zft, toB0, toB1, i10, i01, zl8, zprd, Nat.sub_sub]
  · show S_X1_upAt_4 h c q (nI (x - cnt (upS w) T)) (nI T) = _
    unfold S_X1_upAt_4
    rw [c_isUp H h8 (by omega), ub T T1, T2, T3, Nat.sub_self]
    simp (disch := omega) only [reduceIte, ↓zbn, zgd, zcl, zlt, zeq, zn0, zp0, ze0, zem, zsuc, zob, ztl, zfl, ztle, zfle, zte, zfe, zft, toB0, toB1, i10, i01, zl8]
theorem CV0_put {p : Nat} {x : Int32} {h' : Hp} (H : CV0 c h n m w) (h6 : m ≤ 6) (hp : p < m) (h3 : h' (c + 6) = upd (h (c + 6)) p x) (ho : ∀ k, k ≠ c + 6 → h' k = h k) : CV0 c h' n m (upd w (114 + 3 * p) x) := by
  have o : ∀ k, k ≠ 114 + 3 * p → upd w (114 + 3 * p) x k = w k := fun k a => upd_ob a
  obtain ⟨a1, a2, a3, a4, a5⟩ := H
  refine ⟨fun j hj => ?_, fun k hk => ?_, fun q hq => ?_, ⟨?_, ?_, ?_⟩, ?_⟩
  · rw [ho (c + 1) (by omega), ho (c + 2) (by omega), ho (c + 3) (by omega), ho (c + 4) (by omega)]
    unfold wtR fmR ivR agR
    rw [o _ (by omega), o _ (by omega), o _ (by omega), o _ (by omega)]
    exact a1 j hj
  · rw [ho _ (by omega), o _ (by omega)]; exact a2 k hk
  · obtain ⟨b1, b2, b3⟩ := a3 q hq
    rw [h3, ho (c + 7) (by omega), ho (c + 8) (by omega)]
    refine ⟨?_, by unfold hdR; rw [o _ (by omega)]; exact b2, by unfold cmR; rw [o _ (by omega)]; exact b3⟩
    unfold atR
    by_cases z : q = p
    · rw [z, upd_at, upd_at]
    · rw [upd_ob z, o _ (by omega)]; exact b1
  · rw [ho c (by omega)]; exact a4.1
  · rw [ho c (by omega)]; exact a4.2.1
  · rw [ho c (by omega), a4.2.2]
    exact orTo_congr 8 fun j hj => by unfold upB falB; rw [o _ (by omega)]
  · rw [ho c (by omega), o 4 (by omega), o 5 (by omega), o 6 (by omega), o 7 (by omega), o 2 (by omega), o 9 (by omega)]
    exact a5
theorem CV0_seed {x : Int32} {h' : Hp} (H : CV0 c h n m w) (h6 : m ≤ 6) (h3 : h' c = upd (h c) 17 x) (ho : ∀ k, k ≠ c → h' k = h k) : CV0 c h' n m (upd w 9 x) := by
  have o : ∀ k, k ≠ 9 → upd w 9 x k = w k := fun k a => upd_ob a
  obtain ⟨a1, a2, a3, a4, a5⟩ := H
  refine ⟨fun j hj => ?_, fun k hk => ?_, fun q hq => ?_, ⟨?_, ?_, ?_⟩, ?_⟩
  · rw [ho (c + 1) (by omega), ho (c + 2) (by omega), ho (c + 3) (by omega), ho (c + 4) (by omega)]
    unfold wtR fmR ivR agR
    rw [o _ (by omega), o _ (by omega), o _ (by omega), o _ (by omega)]
    exact a1 j hj
  · rw [ho _ (by omega), o _ (by omega)]; exact a2 k hk
  · rw [ho (c + 6) (by omega), ho (c + 7) (by omega), ho (c + 8) (by omega)]
    unfold atR hdR cmR
    rw [o _ (by omega), o _ (by omega), o _ (by omega)]
    exact a3 q hq
  · rw [h3, upd_ob (by decide)]; exact a4.1
  · rw [h3, upd_ob (by decide)]; exact a4.2.1
  · rw [h3, upd_ob (by decide), a4.2.2]
    exact orTo_congr 8 fun j hj => by unfold upB falB; rw [o _ (by omega)]
  · obtain ⟨b1, b2, b3, b4, b5, b6⟩ := a5
    rw [h3]
    refine ⟨?_, ?_, ?_, ?_, ?_, ?_⟩
    · rw [upd_ob (by decide), o _ (by omega)]; exact b1
    · rw [upd_ob (by decide), o _ (by omega)]; exact b2
    · rw [upd_ob (by decide), o _ (by omega)]; exact b3
    · rw [upd_ob (by decide), o _ (by omega)]; exact b4
    · rw [upd_ob (by decide), o _ (by omega)]; exact b5
    · rw [upd_at, upd_at]
theorem cnt_up (h8 : n ≤ 8) : cnt (upB n w) 8 = cnt (upS w) n := by
  have : ∀ N, n ≤ N → cnt (upB n w) N = cnt (upS w) n := by
    intro N
    induction N with
    | zero => intro hN; rw [show n = 0 from by omega]; rfl
    | succ N ih =>
      intro hN
      by_cases x : n = N + 1
      · subst x
        exact cnt_congr _ fun k hk => by unfold upB upS; rw [decide_eq_true hk, Bool.true_and]
      · show cnt _ N + (if upB n w N = true then 1 else 0) = _
        rw [ih (by omega)]
        unfold upB
        rw [decide_eq_false (by omega), Bool.false_and, tff]; rfl
  exact this 8 h8
theorem c_wanderAll (hc : 100 ≤ c) (g : Gd n m w) (H : CV0 c h n m w) :
    ∃ h', f_X3_wanderAll c h = some h' ∧ CV0 c h' n m (fldN (wanW n) w m) ∧ ∀ k, k ≠ c → k ≠ c + 6 → h' k = h k := by
  have h8 := g.1.2.1
  have h6 := g.1.2.2.2.1
  unfold f_X3_wanderAll
  rw [bnd_eq, H.2.2.2.1.2.2, bcount8, cnt_up h8]
  have Q := loopW (S_X3_wanderAll_10 c (nI (cnt (upS w) n))) (fun _ _ => none) (fun q (s : Nat × Hp) => q (nI s.1) s.2) 6
    (fun j s => s.1 = j ∧ CV0 c s.2 n m (fldN (wanW n) w (min j m)) ∧ ∀ k, k ≠ c → k ≠ c + 6 → s.2 k = h k)
    (fun r => ∃ h', r = some h' ∧ CV0 c h' n m (fldN (wanW n) w m) ∧ ∀ k, k ≠ c → k ≠ c + 6 → h' k = h k) (by omega) (fun j s hj hs => ?_) (fun s hs => ?_) (0, h) ⟨rfl, by rw [Nat.zero_min]; exact H, fun _ _ _ => rfl⟩
  · exact Q
  · obtain ⟨j', u⟩ := s
    dsimp only at hs
    obtain ⟨hj', a, f⟩ := hs
    obtain rfl : j' = j := hj'
    obtain ⟨v, hv⟩ : ∃ v, fldN (wanW n) w (min j' m) = v := ⟨_, rfl⟩
    rw [hv] at a
    have gv : Gd n m v := by
      rw [← hv]
      exact fldN_ind (fun _ (v : Row) => Gd n m v) g _ fun i v hi h => wan_Gd (by omega) h
    have vo : ∀ k, (k < 9 ∨ (9 < k ∧ k < 114) ∨ 132 ≤ k) → v k = w k := fun k hk => by rw [← hv]; exact wans_ob (by omega) hk
    have us : upS v = upS w ∨ True := Or.inr trivial
    have uf : ∀ j, j < 8 → upS v j = upS w j := fun j hj => by unfold upS falB; rw [vo _ (by omega)]
    have cn : cnt (upS v) n = cnt (upS w) n := cnt_congr n fun k hk => uf k (by omega)
    have e17 : u c 17 = v 9 := a.2.2.2.2.2.2.2.2.2
    have e14 : u c 14 = v 6 := a.2.2.2.2.2.2.1
    have ep := c_placeOf (p := j') a h6 (by omega)
    have cle := cnt_le (upS w) n
    by_cases jm : j' < m
    · rw [if_pos jm] at ep
      have mv : min (j' + 1) m = min j' m + 1 := by omega
      have mj : min j' m = j' := by omega
      have ev : fldN (wanW n) w (min (j' + 1) m) = wanW n j' v := by rw [mv, fldN_s, hv, mj]
      have skip : wanW n j' v = v → (∀ q, S_X3_wanderAll_10 c (nI (cnt (upS w) n)) q (nI j') u = q (nI (j' + 1)) u) →
          ∃ s' : Nat × Hp, (s'.1 = j' + 1 ∧ CV0 c s'.2 n m (fldN (wanW n) w (min (j' + 1) m)) ∧ ∀ k, k ≠ c → k ≠ c + 6 → s'.2 k = h k) ∧ ∀ q, S_X3_wanderAll_10 c (nI (cnt (upS w) n)) q (nI j') u = q (nI s'.1) s'.2 := by
        intro e hq
        exact ⟨(j' + 1, u), ⟨rfl, by rw [ev, e]; exact a, f⟩, hq⟩
      by_cases z : cnt (upS w) n = 0
      · refine skip ?_ (fun q => ?_)
        · unfold wanW
          have : atR v j' = -1 := by
            rcases (gv.2.2.2.1 j' jm).1 with x | ⟨i, x1, x2, x3⟩
            · exact x
            · exfalso
              have : cnt (upS v) (i + 1) ≤ cnt (upS v) n := cnt_mono x1
              rw [show cnt (upS v) (i + 1) = cnt (upS v) i + (if upS v i then 1 else 0) from rfl, show upS v i = true from by unfold upS; rw [x2]; rfl, ttt] at this
              omega
          rw [if_pos this]
        · unfold S_X3_wanderAll_10
          rw [z]
          simp (disch := omega) only [reduceIte, ↓zbn, zgd, zcl, zlt, zeq, zn0, zp0, ze0, zem, zsuc, zob, ztl, zfl, ztle, zfle, zte, zfe, zft, toB0, toB1, i10, i01, zl6]
      · by_cases y : atR v j' = -1
        · refine skip (by unfold wanW; rw [if_pos y]) (fun q => ?_)
          unfold S_X3_wanderAll_10
          rw [y] at ep
          simp (disch := omega) only [reduceIte, ↓zbn, zgd, zcl, zlt, zeq, zn0, zp0, ze0, zem, zsuc, zob, ztl, zfl, ztle, zfle, zte, zfe, zft, toB0, toB1, i10, i01, zl6, ep, eq_self]
        · have ed := c_draw (c := c) (h := u)
          rw [e17] at ed
          have r14 : (up1 u c 17 (drS (v 9))) c 14 = v 6 := by rw [up1_at, upd_ob (by decide), e14]
          by_cases d : rem (drV (drS (v 9))) 100 < v 6
          · have ed2 := c_draw (c := c) (h := up1 u c 17 (drS (v 9)))
            rw [up1_same] at ed2
            have H2 : CV0 c (up1 (up1 u c 17 (drS (v 9))) c 17 (drS (drS (v 9)))) n m (upd v 9 (drS (drS (v 9)))) := by
              refine CV0_seed a h6 ?_ (fun k hk => by rw [up1_ob hk, up1_ob hk])
              rw [up1_at, up1_at]
              funext k; unfold upd; split <;> rfl
            obtain ⟨k0, hk0, ek⟩ := drV_nI (drS (drS (v 9)))
            have uf2 : ∀ j, j < n → upS (upd v 9 (drS (drS (v 9)))) j = upS v j := fun j hj => by unfold upS falB; rw [upd_ob (by omega)]
            have cn2 : cnt (upS (upd v 9 (drS (drS (v 9))))) n = cnt (upS v) n := cnt_congr n uf2
            have eu := c_upAt (x := k0 % cnt (upS w) n) H2 h8 (by rw [cn2, cn]; exact Nat.mod_lt _ (by omega))
            have nt : ∀ N, N ≤ n → ∀ x, nthT (upS (upd v 9 (drS (drS (v 9))))) N x = nthT (upS v) N x := by
              intro N
              induction N with
              | zero => intro _ x; rfl
              | succ N ih =>
                intro hN x
                rw [nthT, nthT, uf2 N (by omega), cnt_congr N (fun k hk => uf2 k (by omega)), ih (by omega)]
            rw [nt n (Nat.le_refl n)] at eu
            have hper : f_X1_isPerson c (nI j') (up1 (up1 u c 17 (drS (v 9))) c 17 (drS (drS (v 9)))) = true := by
              rw [c_isPerson H2.2.2.2.1.2.1 h6 (by omega), decide_eq_true jm]
            have ew : wanW n j' v = upd (upd v 9 (drS (drS (v 9)))) (114 + 3 * j') (nI (nthT (upS v) n (k0 % cnt (upS w) n))) := by
              unfold wanW
              rw [if_neg y, if_pos d, if_neg (by rw [cn]; exact z), ek, nI_clamp (by omega), cn]
            refine ⟨(j' + 1, up1 (up1 (up1 u c 17 (drS (v 9))) c 17 (drS (drS (v 9)))) (c + 6) j' (nI (nthT (upS v) n (k0 % cnt (upS w) n)))), ⟨rfl, ?_, fun k x y => ?_⟩, fun q => ?_⟩
            · rw [ev, ew]
              exact CV0_put H2 h6 jm up1_at (fun k hk => up1_ob hk)
            · dsimp only
              rw [up1_ob y, up1_ob x, up1_ob x]; exact f k x y
            · show S_X3_wanderAll_10 c (nI (cnt (upS w) n)) q (nI j') u = q (nI (j' + 1)) _
              unfold S_X3_wanderAll_10
              have l0 : (0 < nI (cnt (upS w) n)) = True := by rw [zp0 (by omega)]; exact eq_true (by omega)
              have n0 : ¬ nI (cnt (upS w) n) = 0 := by rw [ze0 (by omega)]; exact z
              have rk : rem (drV (drS (drS (v 9)))) (nI (cnt (upS w) n)) = nI (k0 % cnt (upS w) n) := by rw [ek, zrm (by omega) (by omega) (by omega)]
              simp (disch := omega) only [reduceIte, ↓zbn, zgd, zcl, zlt, zeq, zn0, zp0, ze0, zem, zsuc, zob, ztl, zfl, ztle, zfle, zte, zfe, zft, toB0, toB1, i10, i01, zl6, l0, ep, y, ed, r14, d, ed2, zgF, n0, rk, eu]
              unfold f_X1_put
              rw [hper]
              simp (disch := omega) only [reduceIte, ↓zbn, zgd, zcl, zlt, zeq, zn0, zp0, ze0, zem, zsuc, zob, ztl, zfl, ztle, zfle, zte, zfe, zft, toB0, toB1, i10, i01, eq_self]
          · have ew : wanW n j' v = upd v 9 (drS (v 9)) := by
              unfold wanW
              rw [if_neg y, if_neg d]
            refine ⟨(j' + 1, up1 u c 17 (drS (v 9))), ⟨rfl, ?_, fun k x y => ?_⟩, fun q => ?_⟩
            · rw [ev, ew]
              exact CV0_seed a h6 up1_at (fun k hk => up1_ob hk)
            · dsimp only
              rw [up1_ob x]; exact f k x y
            · show S_X3_wanderAll_10 c (nI (cnt (upS w) n)) q (nI j') u = q (nI (j' + 1)) _
              unfold S_X3_wanderAll_10
              have l0 : (0 < nI (cnt (upS w) n)) = True := by rw [zp0 (by omega)]; exact eq_true (by omega)
              simp (disch := omega) only [reduceIte, ↓zbn, zgd, zcl, zlt, zeq, zn0, zp0, ze0, zem, zsuc, zob, ztl, zfl, ztle, zfle, zte, zfe, zft, toB0, toB1, i10, i01, zl6, l0, ep, y, ed, r14, d]
    · rw [if_neg jm] at ep
      refine ⟨(j' + 1, u), ⟨rfl, by rw [show min (j' + 1) m = min j' m from by omega, hv]; exact a, f⟩, fun q => ?_⟩
      show S_X3_wanderAll_10 c (nI (cnt (upS w) n)) q (nI j') u = q (nI (j' + 1)) u
      unfold S_X3_wanderAll_10
      simp (disch := omega) only [reduceIte, ↓zbn, zgd, zcl, zlt, zeq, zn0, zp0, ze0, zem, zsuc, zob, ztl, zfl, ztle, zfle, zte, zfe, zft, toB0, toB1, i10, i01, zl6, ep, eq_self, ite_self]
  · obtain ⟨j', u⟩ := s
    dsimp only at hs
    obtain ⟨hj', a, f⟩ := hs
    obtain rfl : j' = 6 := hj'
    rw [show min 6 m = m from by omega] at a
    refine ⟨_, ⟨u, rfl, a, f⟩, fun q => ?_⟩
    show S_X3_wanderAll_10 c (nI (cnt (upS w) n)) q (nI 6) u = _
    unfold S_X3_wanderAll_10
    simp (disch := omega) only [reduceIte, ↓zbn, zgd, zcl, zlt, zeq, zn0, zp0, ze0, zem, zsuc, zob, ztl, zfl, ztle, zfle, zte, zfe, zft, toB0, toB1, i10, i01, zl6]
theorem c_pass24 : ∃ h', F_X3_pass_24 c h = some h' ∧ (∀ k, k ≠ c → h' k = h k) ∧ (∀ x, x ≠ 12 → x ≠ 13 → h' c x = h c x) ∧
    (∀ e, h c 12 = nI e → e < 7 → h' c 12 = tickW (fun k => if k = 4 then h c 12 else h c 13) 4 ∧ h' c 13 = tickW (fun k => if k = 4 then h c 12 else h c 13) 5) := by
  unfold F_X3_pass_24
  rw [bnd_eq, up1_same]
  by_cases d : h c 12 + 1 < 7
  · rw [if_pos d]
    refine ⟨_, rfl, fun k hk => up1_ob hk, fun x a b => by rw [up1_at, upd_ob a], fun e he h7 => ?_⟩
    have d' : ¬ h c 12 + 1 = 7 := fun q => by rw [q] at d; exact absurd d (by decide)
    unfold tickW
    simp only [if_true]
    rw [if_neg d', up1_same, upd_at, up1_at, upd_ob (by decide), upd_ob (by decide), if_neg (by decide)]
    exact ⟨rfl, rfl⟩
  · rw [if_neg d, bnd_eq, bnd_eq]
    refine ⟨_, rfl, fun k hk => by rw [up1_ob hk, up1_ob hk, up1_ob hk], fun x a b => by rw [up1_at, upd_ob b, up1_at, upd_ob a, up1_at, upd_ob a], fun e he h7 => ?_⟩
    have d' : h c 12 + 1 = 7 := by
      rw [he, nI_1] at d ⊢
      rw [zl7 (by omega)] at d
      rw [show e + 1 = 7 from by omega]; rfl
    unfold tickW
    simp only [if_true]
    rw [if_pos d']
    refine ⟨?_, ?_⟩
    · rw [up1_at, upd_ob (by decide), up1_same, upd_ob (by decide), upd_at]
    · rw [up1_same, upd_at, up1_at, upd_ob (by decide), up1_at, upd_ob (by decide), if_neg (by decide)]
theorem CV0_tick {h' : Hp} (H : CV0 c h n m w) (g : Gd n m w) (e : F_X3_pass_24 c h = some h') : CV0 c h' n m (tickW w) ∧ ∀ k, k ≠ c → h' k = h k := by
  have o : ∀ k, k ≠ 4 → k ≠ 5 → tickW w k = w k := fun k a b => tick_ob a b
  obtain ⟨h2, e2, f, x, y⟩ := c_pass24 (c := c) (h := h)
  rw [e] at e2; cases e2
  obtain ⟨a1, a2, a3, a4, a5⟩ := H
  obtain ⟨E, hE, eE⟩ := g.2.2.2.2.1
  have y' := y E (by rw [a5.1, eE]) (by omega)
  have t4 : ∀ (a b : Row), a 4 = b 4 → a 5 = b 5 → tickW a 4 = tickW b 4 ∧ tickW a 5 = tickW b 5 := by
    intro a b p q
    unfold tickW
    rw [p, q]
    split
    · exact ⟨by rw [upd_ob (show 4 ≠ 5 by decide), upd_at, upd_ob (show 4 ≠ 5 by decide), upd_at], by rw [upd_at, upd_at]⟩
    · exact ⟨by rw [upd_at, upd_at], by rw [upd_ob (show 5 ≠ 4 by decide), upd_ob (show 5 ≠ 4 by decide), q]⟩
  have tt := t4 (fun k => if k = 4 then h c 12 else h c 13) w a5.1 a5.2.1
  refine ⟨⟨fun j hj => ?_, fun k hk => ?_, fun q hq => ?_, ⟨?_, ?_, ?_⟩, ?_⟩, f⟩
  · rw [f (c + 1) (by omega), f (c + 2) (by omega), f (c + 3) (by omega), f (c + 4) (by omega)]
    unfold wtR fmR ivR agR
    rw [o _ (by omega) (by omega), o _ (by omega) (by omega), o _ (by omega) (by omega), o _ (by omega) (by omega)]
    exact a1 j hj
  · rw [f _ (by omega), o _ (by omega) (by omega)]; exact a2 k hk
  · rw [f (c + 6) (by omega), f (c + 7) (by omega), f (c + 8) (by omega)]
    unfold atR hdR cmR
    rw [o _ (by omega) (by omega), o _ (by omega) (by omega), o _ (by omega) (by omega)]
    exact a3 q hq
  · rw [x 9 (by decide) (by decide)]; exact a4.1
  · rw [x 10 (by decide) (by decide)]; exact a4.2.1
  · rw [x 11 (by decide) (by decide), a4.2.2]
    exact orTo_congr 8 fun j hj => by unfold upB falB; rw [o _ (by omega) (by omega)]
  · rw [y'.1, y'.2, tt.1, tt.2, x 14 (by decide) (by decide), x 15 (by decide) (by decide), x 16 (by decide) (by decide), x 17 (by decide) (by decide), o 6 (by omega) (by omega), o 7 (by omega) (by omega), o 2 (by omega) (by omega), o 9 (by omega) (by omega)]
    exact ⟨rfl, rfl, a5.2.2.1, a5.2.2.2.1, a5.2.2.2.2.1, a5.2.2.2.2.2⟩
theorem LG_sp {h' : Hp} {v : Row} (H : LG c h w) (e8 : v 8 = w 8) (eo : ∀ k, 132 ≤ k → k < 492 → v k = w k) (f : ∀ k, c + 9 ≤ k → k ≤ c + 10 → h' k = h k) : LG c h' v := by
  obtain ⟨L, a, b, d, e⟩ := LG_fr H f
  exact ⟨L, a, by rw [e8]; exact b, d, fun k x p q => by rw [eo _ (by omega) (by omega)]; exact e k x p q⟩
theorem c_pass {r : Nat} {b : Bool} (hc : 100 ≤ c) (hcr : c + 10 < r ∨ r + 10 < c) (hr : 500 ≤ r) (g : Gd n m w) (H : CV0 c h n m w) (W : LW c h) (L : LV r h w) :
    ∃ h', f_X3_pass c r (bI b) h = some h' ∧ CV0 c h' n m (evW (!b) n m w) ∧ LW c h' ∧ (LG c h w → LG c h' (evW (!b) n m w)) ∧ ∀ k, (k < c ∨ c + 10 < k) → (k < 4 ∨ 14 < k) → k ≠ r + 7 → h' k = h k := by
  obtain ⟨e, he, ee⟩ := g.2.2.2.2.1
  obtain ⟨h1, e1, H1, W1, L1, t1, S1, f1⟩ := c_fall (e := e) hc hcr hr g H W L (by omega)
  have g1 : Gd n m (fallW n m (nI e) 0 w).2.2 := fl_Gd 9 0 w g
  have w14 : (fallW n m (nI e) 0 w).2.2 4 = nI e := by
    rw [← ee]; exact fl_ob g.1.2.1 g.1.2.2.2.1 (by omega) 9 0 w
  obtain ⟨h2, e2, H2, f2⟩ := c_growAll hc g1 H1 S1 w14 (by omega)
  have g2 : Gd n m (agW n m (nI e) (fallW n m (nI e) 0 w).2.2) := fldN_ind (fun _ (v : Row) => Gd n m v) g1 n fun i v hi h => age_Gd (by have := g.1.2.1; omega) h
  have a8 : ∀ k, (k = 8 ∨ 132 ≤ k) → agW n m (nI e) (fallW n m (nI e) 0 w).2.2 k = (fallW n m (nI e) 0 w).2.2 k := fun k hk => ag_ob g.1.2.1 (by omega)
  have w8' : ∀ k, (k = 8 ∨ 132 ≤ k) → fldN (wanW n) (agW n m (nI e) (fallW n m (nI e) 0 w).2.2) m k = agW n m (nI e) (fallW n m (nI e) 0 w).2.2 k := fun k hk => wans_ob g.1.2.2.2.1 (by omega)
  unfold f_X3_pass
  rw [H.2.2.2.2.1, ee, e1, obS]
  dsimp only
  rw [e2, obS]
  unfold evW
  rw [ee]
  cases b
  · rw [if_pos (show bI false = 0 from rfl)]
    obtain ⟨h3, e3, _⟩ := c_pass24 (c := c) (h := h2)
    obtain ⟨H3, f3⟩ := CV0_tick H2 g2 e3
    rw [e3]
    refine ⟨h3, rfl, H3, ?_, fun q => ?_, fun k x y z => ?_⟩
    · obtain ⟨L', a, b⟩ := W1
      exact ⟨L', a, by rw [f3 _ (by omega), f2 _ (by omega) (by omega)]; exact b⟩
    · refine LG_sp (w := (fallW n m (nI e) 0 w).2.2) (h := h1) (L1 q ee.symm) ?_ (fun k x y => ?_) (fun k x y => ?_)
      · show tickW _ 8 = _
        rw [tick_ob (by decide) (by decide), Bool.not_false, ttt, a8 8 (Or.inl rfl)]
      · show tickW _ k = _
        rw [tick_ob (by omega) (by omega), Bool.not_false, ttt, a8 k (Or.inr x)]
      · rw [f3 _ (by omega), f2 _ (by omega) (by omega)]
    · rw [f3 _ (by omega), f2 _ (by omega) (by omega), f1 k x y z]
  · rw [if_neg (show ¬ bI true = 0 from by decide)]
    obtain ⟨h4, e4, H4, f4⟩ := c_wanderAll hc g2 H2
    have g4 : Gd n m (fldN (wanW n) (agW n m (nI e) (fallW n m (nI e) 0 w).2.2) m) := fldN_ind (fun _ (v : Row) => Gd n m v) g2 m fun i v hi h => wan_Gd (by have := g.1.2.2.2.1; omega) h
    obtain ⟨h3, e3, _⟩ := c_pass24 (c := c) (h := h4)
    obtain ⟨H3, f3⟩ := CV0_tick H4 g4 e3
    rw [e4, obS, e3]
    refine ⟨h3, rfl, H3, ?_, fun q => ?_, fun k x y z => ?_⟩
    · obtain ⟨L', a, b⟩ := W1
      exact ⟨L', a, by rw [f3 _ (by omega), f4 _ (by omega) (by omega), f2 _ (by omega) (by omega)]; exact b⟩
    · refine LG_sp (w := (fallW n m (nI e) 0 w).2.2) (h := h1) (L1 q ee.symm) ?_ (fun k x y => ?_) (fun k x y => ?_)
      · show tickW _ 8 = _
        rw [tick_ob (by decide) (by decide), Bool.not_true, tff, w8' 8 (Or.inl rfl), a8 8 (Or.inl rfl)]
      · show tickW _ k = _
        rw [tick_ob (by omega) (by omega), Bool.not_true, tff, w8' k (Or.inr x), a8 k (Or.inr x)]
      · rw [f3 _ (by omega), f4 _ (by omega) (by omega), f2 _ (by omega) (by omega)]
    · rw [f3 _ (by omega), f4 _ (by omega) (by omega), f2 _ (by omega) (by omega), f1 k x y z]
theorem fl_law {k : Nat} (g : Gd n m w) {e : Int32} (hk : k = 3 ∨ 492 ≤ k) : (fallW n m e 0 w).2.2 k = w k := fl_ob g.1.2.1 g.1.2.2.2.1 (by omega) 9 0 w
theorem ev_law {k : Nat} {calm : Bool} (g : Gd n m w) (hk : k = 3 ∨ 492 ≤ k) : evW calm n m w k = w k := by
  unfold evW
  rw [tick_ob (by omega) (by omega)]
  cases calm
  · rw [tff, wans_ob g.1.2.2.2.1 (by omega)]
    show fldN (ageW n m (w 4)) _ n k = _
    rw [ag_ob g.1.2.1 (by omega), fl_law g hk]
  · rw [ttt]
    show fldN (ageW n m (w 4)) _ n k = _
    rw [ag_ob g.1.2.1 (by omega), fl_law g hk]
theorem c_run {r N : Nat} {b : Bool} (hc : 100 ≤ c) (hcr : c + 10 < r ∨ r + 10 < c) (hr : 500 ≤ r) (g : Gd n m w) (H : CV0 c h n m w) (W : LW c h) (L : LV r h w) (hN : N ≤ 70) :
    ∃ h', f_X3_run c r (nI N) (bI b) h = some h' ∧ CV0 c h' n m (goW (!b) n m w N) ∧ LW c h' ∧ (LG c h w → LG c h' (goW (!b) n m w N)) ∧ ∀ k, (k < c ∨ c + 10 < k) → (k < 4 ∨ 14 < k) → k ≠ r + 7 → h' k = h k := by
  have Q := loopW (S_X3_run_3 c r (nI N) (bI b)) (fun _ _ => none) (fun q (s : Nat × Hp) => q (nI s.1) s.2) N
    (fun j s => s.1 = j ∧ CV0 c s.2 n m (goW (!b) n m w j) ∧ LW c s.2 ∧ (LG c h w → LG c s.2 (goW (!b) n m w j)) ∧ ∀ k, (k < c ∨ c + 10 < k) → (k < 4 ∨ 14 < k) → k ≠ r + 7 → s.2 k = h k)
    (fun x => ∃ h', x = some h' ∧ CV0 c h' n m (goW (!b) n m w N) ∧ LW c h' ∧ (LG c h w → LG c h' (goW (!b) n m w N)) ∧ ∀ k, (k < c ∨ c + 10 < k) → (k < 4 ∨ 14 < k) → k ≠ r + 7 → h' k = h k) (by omega) (fun j s hj hs => ?_) (fun s hs => ?_) (0, h) ⟨rfl, H, W, fun q => q, fun _ _ _ _ => rfl⟩
  · exact Q
  · obtain ⟨j', u⟩ := s
    dsimp only at hs
    obtain ⟨hj', a1, a2, a3, a4⟩ := hs
    obtain rfl : j' = j := hj'
    have gl : ∀ j, ∀ k, (k = 3 ∨ 492 ≤ k) → goW (!b) n m w j k = w k := by
      intro j
      induction j with
      | zero => intro k _; rfl
      | succ j ih => intro k hk; exact (ev_law (go_Gd g j) hk).trans (ih k hk)
    obtain ⟨h2, e2, H2, W2, L2, f2⟩ := c_pass (b := b) hc hcr hr (go_Gd g j') a1 a2 (LV_congr (LV_fr L fun k x y => a4 k (by omega) (by omega) (by omega)) (gl j'))
    refine ⟨(j' + 1, h2), ⟨rfl, H2, W2, fun q => L2 (a3 q), fun k x y z => (f2 k x y z).trans (a4 k x y z)⟩, fun q => ?_⟩
    show S_X3_run_3 c r (nI N) (bI b) q (nI j') u = q (nI (j' + 1)) h2
    unfold S_X3_run_3
    simp (disch := omega) only [reduceIte, ↓zbn, zgd, zcl, zlt, zeq, zn0, zp0, ze0, zem, zsuc, zob, ztl, zfl, ztle, zfle, zte, zfe, zft, toB0, toB1, i10, i01, zl70, e2]
  · obtain ⟨j', u⟩ := s
    dsimp only at hs
    obtain ⟨hj', a1, a2, a3, a4⟩ := hs
    obtain rfl : N = j' := hj'.symm
    refine ⟨_, ⟨u, rfl, a1, a2, a3, a4⟩, fun q => ?_⟩
    show S_X3_run_3 c r (nI N) (bI b) q (nI N) u = _
    unfold S_X3_run_3
    simp (disch := omega) only [reduceIte, ↓zbn, zgd, zcl, zlt, zeq, zn0, zp0, ze0, zem, zsuc, zob, ztl, zfl, ztle, zfle, zte, zfe, zft, toB0, toB1, i10, i01]
end CP
