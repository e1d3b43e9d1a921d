/-! LAYER 4. leans, oldest, there, twins -/
theorem cnt_ext {p : Nat → Bool} {n : Nat} : ∀ N, n ≤ N → (∀ k, n ≤ k → k < N → p k = false) → cnt p N = cnt p n
  | 0, h, _ => by rw [Nat.le_zero.mp h]
  | N + 1, h, z => by
    by_cases c : n = N + 1
    · rw [c]
    · show cnt p N + (if p N then 1 else 0) = cnt p n
      rw [z N (by omega) (by omega), tff, cnt_ext N (by omega) (fun k a b => z k a (by omega))]; rfl
theorem sumN_ext {f : Nat → Nat} {n : Nat} : ∀ N, n ≤ N → (∀ k, n ≤ k → k < N → f k = 0) → sumN f N = sumN f n
  | 0, h, _ => by rw [Nat.le_zero.mp h]
  | N + 1, h, z => by
    by_cases c : n = N + 1
    · rw [c]
    · show sumN f N + f N = sumN f n
      rw [z N (by omega) (by omega), sumN_ext N (by omega) (fun k a b => z k a (by omega))]; rfl
theorem fldN_ext {A : Type} {f : Nat → A → A} {a : A} {n : Nat} : ∀ N, n ≤ N → (∀ k x, n ≤ k → k < N → f k x = x) → fldN f a N = fldN f a n
  | 0, h, _ => by rw [Nat.le_zero.mp h]
  | N + 1, h, z => by
    by_cases c : n = N + 1
    · rw [c]
    · show f N (fldN f a N) = fldN f a n
      rw [z N _ (by omega) (by omega), fldN_ext N (by omega) (fun k x a b => z k x a (by omega))]
theorem sp_42 {a : Nat → Int32} {h : Hp} (I : Inv h) : ∃ h' n, St_42 a h h' n ∧ n ≤ 1 ∧ Inv h' := by
  obtain ⟨⟨n, m, N⟩, _⟩ := id I
  have g := N.1
  have h8 := g.1.2.1
  have H := N.2.1
  obtain ⟨C, hC⟩ : ∃ C : Nat → Nat, C = fun i => cnt (lnS (h 31) i) 8 := ⟨_, rfl⟩
  have Ci : ∀ i, C i = cnt (lnS (h 31) i) 8 := fun i => by rw [hC]
  have C8 : ∀ i, C i ≤ 8 := fun i => by rw [Ci]; exact cnt_le _ _
  have cb : ∀ j, sumN C j ≤ 8 * j := fun j => sumN_le j fun i _ => C8 i
  have zi : ∀ i, n ≤ i → i < 8 → C i = 0 := fun i x y => by
    rw [Ci, cnt_ext (n := 0) 8 (by omega) (fun k _ hk => by unfold lnS; rw [pt_z g y hk (Or.inl x)]; rfl)]; rfl
  have cn : ∀ i, i < 8 → C i = cnt (lnS (h 31) i) n := fun i hi => by
    rw [Ci, cnt_ext (n := n) 8 h8 (fun k x hk => by unfold lnS; rw [pt_z g hi hk (Or.inr x)]; rfl)]
  refine qPu (c := f_X11_leans) (md := f_X12_leans) (v := nI (sumN C n)) I ?_ ?_
  · have Q := loop0 (S_X11_leans_4 h) (fun _ _ => none) (fun j q => q (nI (sumN C j)) (nI j)) 8 (some (nI (sumN C n))) (by omega) (fun j hj q => ?_) (fun q => ?_)
    · exact Q
    · show S_X11_leans_4 h q (nI (sumN C j)) (nI j) = q (nI (sumN C j + C j)) (nI (j + 1))
      unfold S_X11_leans_4
      rw [c_leansOn H g hj, obS, bcount8, ← Ci]
      simp (disch := omega) only [reduceIte, ↓zbn, zgd, zcl, zlt, zeq, zn0, zp0, ze0, zem, zsuc, zob, ztl, zfl, ztle, zfle, zte, zfe, zft, toB0, toB1, i10, i01, zl8, zadd]
    · show S_X11_leans_4 h q (nI (sumN C 8)) (nI 8) = _
      unfold S_X11_leans_4
      rw [sumN_ext 8 h8 zi]
      simp (disch := omega) only [reduceIte, ↓zbn, zgd, zcl, zlt, zeq, zn0, zp0, ze0, zem, zsuc, zob, ztl, zfl, ztle, zfle, zte, zfe, zft, toB0, toB1, i10, i01, zl8]
  · have w1 : (up1 h 30 0 0) 31 = h 31 := up1_ob (by decide)
    refine ⟨up1 h 30 0 0, ?_, KM_0⟩
    have Q := loop0 S_X12_leans_9 (fun _ _ _ => none) (fun j q => q (nI (sumN C j)) (nI j) (up1 h 30 0 0)) n (some (nI (sumN C n), up1 h 30 0 0)) (by omega) (fun j hj q => ?_) (fun q => ?_)
    · exact Q
    · show S_X12_leans_9 q (nI (sumN C j)) (nI j) (up1 h 30 0 0) = q (nI (sumN C j + C j)) (nI (j + 1)) (up1 h 30 0 0)
      unfold S_X12_leans_9
      rw [m_houses, w1, itP g.1.1 hj (by omega)]
      have Q2 := loop0 (S_X12_leans_19 q (nI j)) (fun _ _ _ => none) (fun o k => k (nI (sumN C j + cnt (lnS (h 31) j) o)) (nI o) (up1 h 30 0 0)) n (q (nI (sumN C j + C j)) (nI (j + 1)) (up1 h 30 0 0)) (by omega) (fun o ho k => ?_) (fun k => ?_)
      · exact Q2
      · show S_X12_leans_19 q (nI j) k (nI (sumN C j + cnt (lnS (h 31) j) o)) (nI o) (up1 h 30 0 0) = k (nI (sumN C j + (cnt (lnS (h 31) j) o + (if lnS (h 31) j o then 1 else 0)))) (nI (o + 1)) (up1 h 30 0 0)
        unfold S_X12_leans_19 F_X12_leans_42
        rw [m_houses, w1, itP g.1.1 ho (by omega), m_partOf (by omega) (by omega), obS, w1]
        by_cases z : 0 < h 31 (10 + 8 * j + o)
        · rw [if_pos z, show lnS (h 31) j o = true from decide_eq_true z, ttt, nI_1, nI_1, Nat.add_assoc]
        · rw [if_neg z, show lnS (h 31) j o = false from decide_eq_false z, tff, nI_1, Int32.add_zero]; rfl
      · show S_X12_leans_19 q (nI j) k (nI (sumN C j + cnt (lnS (h 31) j) n)) (nI n) (up1 h 30 0 0) = _
        unfold S_X12_leans_19
        rw [m_houses, w1, itN g.1.1 (by omega), nI_1, cn j (by omega)]
    · show S_X12_leans_9 q (nI (sumN C n)) (nI n) (up1 h 30 0 0) = _
      unfold S_X12_leans_9
      rw [m_houses, w1, itN g.1.1 (by omega)]
/-! oldest -/
def olF (n : Nat) (w : Row) (j : Nat) (s : Int32 × Int32) : Int32 × Int32 := if upB n w j then (if s.2 < agR w j then (nI j, agR w j) else s) else s
def olW (n : Nat) (w : Row) (N : Nat) : Int32 × Int32 := fldN (olF n w) (-1, -1) N
theorem ag_N {n m i : Nat} {w : Row} (g : Gd n m w) (hi : i < 8) : ∃ a, a ≤ 99 ∧ agR w i = nI a := (g.2.1 i hi).2.2.2.1
theorem ol_lo {n m : Nat} {w : Row} (g : Gd n m w) : ∀ j, j ≤ 8 → ((olW n w j).2 = -1 ∨ ∃ a, a ≤ 99 ∧ (olW n w j).2 = nI a)
  | 0, _ => Or.inl rfl
  | j + 1, hj => by
    have ih := ol_lo g j (by omega)
    show ((olF n w j (olW n w j)).2 = -1 ∨ ∃ a, a ≤ 99 ∧ (olF n w j (olW n w j)).2 = nI a)
    unfold olF
    split
    · split
      · exact Or.inr (ag_N g (by omega))
      · exact ih
    · exact ih
theorem sp_38 {a : Nat → Int32} {h : Hp} (I : Inv h) : ∃ h' n, St_38 a h h' n ∧ n ≤ 1 ∧ Inv h' := by
  obtain ⟨⟨n, m, N⟩, _⟩ := id I
  have g := N.1
  have h8 := g.1.2.1
  have H := N.2.1
  refine qPu (c := f_X11_oldest) (md := f_X12_oldest) (v := (olW n (h 31) n).1) I ?_ ?_
  · have Q := loop0 (S_X11_oldest_6 h) (fun _ _ _ => none) (fun j q => q (olW n (h 31) j).1 (olW n (h 31) j).2 (nI j)) 8 (some (olW n (h 31) n).1) (by omega) (fun j hj q => ?_) (fun q => ?_)
    · exact Q
    · show S_X11_oldest_6 h q (olW n (h 31) j).1 (olW n (h 31) j).2 (nI j) = q (olF n (h 31) j (olW n (h 31) j)).1 (olF n (h 31) j (olW n (h 31) j)).2 (nI (j + 1))
      have e4 : h 104 j = agR (h 31) j := (H.1 j hj).2.2.2
      unfold S_X11_oldest_6 olF
      rw [c_isUp H h8 (by omega)]
      cases upB n (h 31) j
      · rw [tff, tff]
        simp (disch := omega) only [reduceIte, ↓zbn, zgd, zcl, zlt, zeq, zn0, zp0, ze0, zem, zsuc, zob, ztl, zfl, ztle, zfle, zte, zfe, zft, toB0, toB1, i10, i01, zl8]
      · rw [ttt, ttt]
        by_cases z : (olW n (h 31) j).2 < agR (h 31) j
        · rw [if_pos z]
          simp (disch := omega) only [reduceIte, ↓zbn, zgd, zcl, zlt, zeq, zn0, zp0, ze0, zem, zsuc, zob, ztl, zfl, ztle, zfle, zte, zfe, zft, toB0, toB1, i10, i01, zl8, e4, z, if_true]
        · rw [if_neg z]
          simp (disch := omega) only [reduceIte, ↓zbn, zgd, zcl, zlt, zeq, zn0, zp0, ze0, zem, zsuc, zob, ztl, zfl, ztle, zfle, zte, zfe, zft, toB0, toB1, i10, i01, zl8, e4, z, if_false]
    · show S_X11_oldest_6 h q (olW n (h 31) 8).1 (olW n (h 31) 8).2 (nI 8) = _
      unfold S_X11_oldest_6
      simp (disch := omega) only [reduceIte, ↓zbn, zgd, zcl, zlt, zeq, zn0, zp0, ze0, zem, zsuc, zob, ztl, zfl, ztle, zfle, zte, zfe, zft, toB0, toB1, i10, i01, zl8]
      congr 2
      exact fldN_ext 8 h8 fun k x c _ => by unfold olF; rw [upB_hi c, tff]
  · have w1 : (up1 h 30 0 0) 31 = h 31 := up1_ob (by decide)
    refine ⟨up1 h 30 0 0, ?_, KM_0⟩
    have Q := loop0 S_X12_oldest_11 (fun _ _ _ _ => none) (fun j q => q (olW n (h 31) j).1 (olW n (h 31) j).2 (nI j) (up1 h 30 0 0)) n (some ((olW n (h 31) n).1, up1 h 30 0 0)) (by omega) (fun j hj q => ?_) (fun q => ?_)
    · exact Q
    · show S_X12_oldest_11 q (olW n (h 31) j).1 (olW n (h 31) j).2 (nI j) (up1 h 30 0 0) = q (olF n (h 31) j (olW n (h 31) j)).1 (olF n (h 31) j (olW n (h 31) j)).2 (nI (j + 1)) (up1 h 30 0 0)
      have lo := ol_lo g j (by omega)
      unfold S_X12_oldest_11 olF F_X12_oldest_37 F_X12_oldest_50
      rw [m_houses, w1, itP g.1.1 hj (by omega), m_isF (by omega), w1, obS, up_fal hj, show (3 : Int32) = nI 3 from rfl, m_of (by omega) (by omega), obS, w1]
      cases falB (h 31) j
      · rw [tff]
        show (if (olW n (h 31) j).2 < agR (h 31) j then _ else _) = _
        rw [show (!false) = true from rfl, ttt]
        by_cases z : (olW n (h 31) j).2 < agR (h 31) j
        · rw [if_pos z, if_pos z, bnd_eq, nI_1]
          unfold imax
          rw [show h 31 (74 + 5 * j + 3) = agR (h 31) j from rfl, if_pos z]
        · rw [if_neg z, if_neg z, bnd_eq, nI_1]
          unfold imax
          rw [show h 31 (74 + 5 * j + 3) = agR (h 31) j from rfl, if_neg z]
      · rw [ttt, show (!true) = false from rfl, tff]
        have z : ¬ (olW n (h 31) j).2 < -1 := by
          rcases lo with z | ⟨b, hb, z⟩
          · rw [z]; decide
          · rw [z, show (-1 : Int32) = 0 - 1 from rfl]
            intro q
            exact absurd (Int32.lt_trans q (by decide)) (nI_pos (show b < 2 ^ 31 by omega))
        rw [if_neg z, bnd_eq, nI_1]
        unfold imax
        rw [if_neg z]
    · show S_X12_oldest_11 q (olW n (h 31) n).1 (olW n (h 31) n).2 (nI n) (up1 h 30 0 0) = _
      unfold S_X12_oldest_11
      rw [m_houses, w1, itN g.1.1 (by omega)]
