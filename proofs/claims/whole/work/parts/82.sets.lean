/-! LAYER 4. ends, straight, leans, twins, oldest, there, log, led, seed -/
def lnS (w : Row) (i : Nat) : Nat → Bool := fun o => decide (0 < ptR w i o)
def ltS (w : Row) (i : Nat) : Nat → Bool := fun o => decide (0 < ptR w o i)
theorem sumN_0 {f : Nat → Nat} : ∀ n, sumN f n = 0 ↔ ∀ j, j < n → f j = 0
  | 0 => ⟨fun _ j hj => absurd hj (Nat.not_lt_zero j), fun _ => rfl⟩
  | n + 1 => by
    have ih := sumN_0 (f := f) n
    constructor
    · intro h j hj
      have h' : sumN f n + f n = 0 := h
      by_cases c : j = n
      · rw [c]; omega
      · exact ih.mp (by omega) j (by omega)
    · intro h
      show sumN f n + f n = 0
      rw [ih.mpr (fun j hj => h j (by omega)), h n (by omega)]
section ST
variable {n m : Nat} {w : Row} {h : Hp} {c : Nat}
theorem ps_0 {i : Nat} (g : Gd n m w) (hi : i < 8) : psW n w i = 0 ↔ ∀ o, o < 8 → lnS w i o = false := by
  have h8 := g.1.2.1
  obtain ⟨F, hF⟩ := pt_N g
  have e : psW n w i = nI (sumN (F i) n) := sumTo_N n fun o ho => (hF i o hi (by omega)).2
  have b : sumN (F i) n ≤ 9 * n := sumN_le n fun o ho => (hF i o hi (by omega)).1
  rw [e, show (nI (sumN (F i) n) = 0 ↔ sumN (F i) n = 0) from nI_eq (b := 0) (by omega) (by decide), sumN_0]
  have l : ∀ o, o < 8 → (lnS w i o = false ↔ F i o = 0) := by
    intro o ho
    have q := hF i o hi ho
    unfold lnS
    rw [q.2, decide_eq_false_iff_not, zp0 (by omega)]
    omega
  constructor
  · intro q o ho
    by_cases z : o < n
    · exact (l o ho).mpr (q o z)
    · unfold lnS; rw [pt_z g hi ho (Or.inr (by omega))]; rfl
  · intro q o ho
    exact (l o (by omega)).mp (q o (by omega))
theorem c_leansOn {i : Nat} (H : CV0 c h n m w) (g : Gd n m w) (hi : i < 8) : f_X1_leansOn c (nI i) h = some (orTo (lnS w i) 8) := by
  have Q := loop0 (S_X1_leansOn_4 h c (nI i)) (fun _ _ => none) (fun j q => q (orTo (lnS w i) j) (nI j)) 8 (some (orTo (lnS w i) 8)) (by omega) (fun j hj q => ?_) (fun q => ?_)
  · exact Q
  · show S_X1_leansOn_4 h c (nI i) q (orTo (lnS w i) j) (nI j) = q (orTo (lnS w i) j ||| (if decide (0 < ptR w i j) = true then shl 1 (nI j) else 0)) (nI (j + 1))
    unfold S_X1_leansOn_4
    rw [c_partOf H g hi hj, obS]
    by_cases z : 0 < ptR w i j
    · rw [if_pos z, decide_eq_true z, ttt]
      simp (disch := omega) only [reduceIte, ↓zbn, zgd, zcl, zlt, zeq, zn0, zp0, ze0, zem, zsuc, zob, ztl, zfl, ztle, zfle, zte, zfe, zft, toB0, toB1, i10, i01, zl8]
    · rw [if_neg z, decide_eq_false z, tff, Int32.or_zero]
      simp (disch := omega) only [reduceIte, ↓zbn, zgd, zcl, zlt, zeq, zn0, zp0, ze0, zem, zsuc, zob, ztl, zfl, ztle, zfle, zte, zfe, zft, toB0, toB1, i10, i01, zl8]
  · show S_X1_leansOn_4 h c (nI i) q (orTo (lnS w i) 8) (nI 8) = _
    unfold S_X1_leansOn_4
    simp (disch := omega) only [reduceIte, ↓zbn, zgd, zcl, zlt, zeq, zn0, zp0, ze0, zem, zsuc, zob, ztl, zfl, ztle, zfle, zte, zfe, zft, toB0, toB1, i10, i01, zl8]
theorem c_touching {i : Nat} (H : CV0 c h n m w) (g : Gd n m w) (hi : i < 8) : f_X1_touching c (nI i) h = some (orTo (fun o => lnS w i o || ltS w i o) 8) := by
  have Q := loop0 (S_X1_touching_8 h c (nI i)) (fun _ _ => none) (fun j q => q (orTo (lnS w i) 8 ||| orTo (ltS w i) j) (nI j)) 8 (some (orTo (fun o => lnS w i o || ltS w i o) 8)) (by omega) (fun j hj q => ?_) (fun q => ?_)
  · unfold f_X1_touching
    rw [c_leansOn H g hi, obS]
    rw [show orTo (ltS w i) 0 = 0 from rfl, Int32.or_zero] at Q
    exact Q
  · show S_X1_touching_8 h c (nI i) q (orTo (lnS w i) 8 ||| orTo (ltS w i) j) (nI j) = q (orTo (lnS w i) 8 ||| (orTo (ltS w i) j ||| (if decide (0 < ptR w j i) = true then shl 1 (nI j) else 0))) (nI (j + 1))
    unfold S_X1_touching_8
    rw [c_partOf H g hj hi, obS]
    by_cases z : 0 < ptR w j i
    · rw [if_pos z, decide_eq_true z, ttt]
      simp (disch := omega) only [reduceIte, ↓zbn, zgd, zcl, zlt, zeq, zn0, zp0, ze0, zem, zsuc, zob, ztl, zfl, ztle, zfle, zte, zfe, zft, toB0, toB1, i10, i01, zl8]
      rw [Int32.or_assoc]
    · rw [if_neg z, decide_eq_false z, tff, Int32.or_zero]
      simp (disch := omega) only [reduceIte, ↓zbn, zgd, zcl, zlt, zeq, zn0, zp0, ze0, zem, zsuc, zob, ztl, zfl, ztle, zfle, zte, zfe, zft, toB0, toB1, i10, i01, zl8]
  · show S_X1_touching_8 h c (nI i) q (orTo (lnS w i) 8 ||| orTo (ltS w i) 8) (nI 8) = _
    unfold S_X1_touching_8
    simp (disch := omega) only [reduceIte, ↓zbn, zgd, zcl, zlt, zeq, zn0, zp0, ze0, zem, zsuc, zob, ztl, zfl, ztle, zfle, zte, zfe, zft, toB0, toB1, i10, i01, zl8]
    congr 1
    apply tb_ext
    intro k hk
    rw [tb_or, orTo_tb _ _ (by omega) _ hk, orTo_tb _ _ (by omega) _ hk, orTo_tb _ _ (by omega) _ hk]
    cases decide (k < 8) <;> simp
def enS (n : Nat) (w : Row) (i : Nat) : Bool := !falB w i && decide (psW n w i = 0)
def srS (n : Nat) (w : Row) (i : Nat) : Bool := !falB w i && (decide (psW n w i = 0) && !anyTo (ltS w i) n)
theorem orTo_8' {p q : Nat → Bool} (h8 : n ≤ 8) (hq : ∀ i, i < n → q i = p i) (hz : ∀ i, n ≤ i → i < 8 → q i = false) : orTo q 8 = orTo p n :=
  orTo_eq (by omega) (by omega) fun k hk => by
    by_cases a : k < n
    · rw [decide_eq_true a, decide_eq_true (show k < 8 by omega), hq k a]
    · rw [decide_eq_false a, Bool.false_and]
      by_cases b : k < 8
      · rw [hz k (by omega) b, Bool.and_false]
      · rw [decide_eq_false b, Bool.false_and]
theorem or0_8 {p : Nat → Bool} : (orTo p 8 = 0) ↔ ∀ k, k < 8 → p k = false := orTo_0 (by omega)
theorem upB_hi {i : Nat} (hi : n ≤ i) : upB n w i = false := by unfold upB; rw [decide_eq_false (by omega)]; rfl
theorem anyTo_f {f : Nat → Bool} : ∀ N, anyTo f N = false ↔ ∀ j, j < N → f j = false
  | 0 => ⟨fun _ j hj => absurd hj (Nat.not_lt_zero j), fun _ => rfl⟩
  | N + 1 => by
    have ih := anyTo_f (f := f) N
    show (anyTo f N || f N) = false ↔ _
    rw [Bool.or_eq_false_iff, ih]
    constructor
    · intro q j hj
      by_cases c : j = N
      · rw [c]; exact q.2
      · exact q.1 j (by omega)
    · intro q
      exact ⟨fun j hj => q j (by omega), q N (by omega)⟩
theorem sp_31 {a : Nat → Int32} {h : Hp} (I : Inv h) : ∃ h' n, St_31 a h h' n ∧ n ≤ 1 ∧ Inv h' := by
  obtain ⟨⟨n, m, N⟩, _⟩ := id I
  have g := N.1
  have h8 := g.1.2.1
  have H := N.2.1
  have eq : ∀ i, i < 8 → (upB n (h 31) i && decide (orTo (lnS (h 31) i) 8 = 0)) = (upB n (h 31) i && decide (psW n (h 31) i = 0)) := fun i hi => by
    congr 1
    exact decide_eq_decide.mpr (or0_8.trans (ps_0 g hi).symm)
  refine qPu (c := f_X11_ends) (md := f_X12_ends) (v := orTo (enS n (h 31)) n) I ?_ ?_
  · have Q := loop0 (S_X11_ends_4 h) (fun _ _ => none) (fun j q => q (orTo (fun i => upB n (h 31) i && decide (psW n (h 31) i = 0)) j) (nI j)) 8 (some (orTo (enS n (h 31)) n)) (by omega) (fun j hj q => ?_) (fun q => ?_)
    · exact Q
    · show S_X11_ends_4 h q (orTo (fun i => upB n (h 31) i && decide (psW n (h 31) i = 0)) j) (nI j) = q (orTo (fun i => upB n (h 31) i && decide (psW n (h 31) i = 0)) j ||| (if (upB n (h 31) j && decide (psW n (h 31) j = 0)) = true then shl 1 (nI j) else 0)) (nI (j + 1))
      unfold S_X11_ends_4
      rw [c_isUp H h8 (by omega), c_leansOn H g hj, obS, ← eq j hj]
      cases hu : upB n (h 31) j
      · rw [Bool.false_and, tff, tff, Int32.or_zero]
        simp (disch := omega) only [reduceIte, ↓zbn, zgd, zcl, zlt, zeq, zn0, zp0, ze0, zem, zsuc, zob, ztl, zfl, ztle, zfle, zte, zfe, zft, toB0, toB1, i10, i01, zl8]
      · rw [Bool.true_and, ttt]
        by_cases z : orTo (lnS (h 31) j) 8 = 0
        · rw [if_pos z, decide_eq_true z, ttt]
          simp (disch := omega) only [reduceIte, ↓zbn, zgd, zcl, zlt, zeq, zn0, zp0, ze0, zem, zsuc, zob, ztl, zfl, ztle, zfle, zte, zfe, zft, toB0, toB1, i10, i01, zl8]
        · rw [if_neg z, decide_eq_false z, tff, Int32.or_zero]
          simp (disch := omega) only [reduceIte, ↓zbn, zgd, zcl, zlt, zeq, zn0, zp0, ze0, zem, zsuc, zob, ztl, zfl, ztle, zfle, zte, zfe, zft, toB0, toB1, i10, i01, zl8]
    · show S_X11_ends_4 h q (orTo (fun i => upB n (h 31) i && decide (psW n (h 31) i = 0)) 8) (nI 8) = _
      unfold S_X11_ends_4
      simp (disch := omega) only [reduceIte, ↓zbn, zgd, zcl, zlt, zeq, zn0, zp0, ze0, zem, zsuc, zob, ztl, zfl, ztle, zfle, zte, zfe, zft, toB0, toB1, i10, i01, zl8]
      congr 1
      exact orTo_8' h8 (fun i hi => by unfold enS; rw [up_fal hi]) (fun i a b => by rw [upB_hi a]; rfl)
  · have w1 : (up1 h 30 0 0) 31 = h 31 := up1_ob (by decide)
    refine ⟨up1 h 30 0 0, ?_, KM_0⟩
    have Q := loop0 S_X12_ends_9 (fun _ _ _ => none) (fun j q => q (orTo (enS n (h 31)) j) (nI j) (up1 h 30 0 0)) n (some (orTo (enS n (h 31)) n, up1 h 30 0 0)) (by omega) (fun j hj q => ?_) (fun q => ?_)
    · exact Q
    · show S_X12_ends_9 q (orTo (enS n (h 31)) j) (nI j) (up1 h 30 0 0) = q (orTo (enS n (h 31)) j ||| (if (!falB (h 31) j && decide (psW n (h 31) j = 0)) = true then shl 1 (nI j) else 0)) (nI (j + 1)) (up1 h 30 0 0)
      unfold S_X12_ends_9 F_X12_ends_41
      rw [m_houses, w1, itP g.1.1 hj (by omega), m_isF (by omega), w1, obS, m_partsOf (n := n) (by rw [w1]; exact g.1.1) h8 (by omega), obS, w1]
      show (if falB (h 31) j = true then _ else if psW n (h 31) j = 0 then _ else _) = _
      cases falB (h 31) j
      · rw [tff]
        by_cases z : psW n (h 31) j = 0
        · rw [if_pos z, decide_eq_true z, bnd_eq, nI_1]; rfl
        · rw [if_neg z, decide_eq_false z, bnd_eq, nI_1]; rfl
      · rw [ttt, bnd_eq, nI_1]; rfl
    · show S_X12_ends_9 q (orTo (enS n (h 31)) n) (nI n) (up1 h 30 0 0) = _
      unfold S_X12_ends_9
      rw [m_houses, w1, itN g.1.1 (by omega)]
theorem sp_39 {a : Nat → Int32} {h : Hp} (I : Inv h) : ∃ h' n, St_39 a h h' n ∧ n ≤ 1 ∧ Inv h' := by
  obtain ⟨⟨n, m, N⟩, _⟩ := id I
  have g := N.1
  have h8 := g.1.2.1
  have H := N.2.1
  have eq : ∀ i, i < 8 → decide (orTo (fun o => lnS (h 31) i o || ltS (h 31) i o) 8 = 0) = (decide (psW n (h 31) i = 0) && !anyTo (ltS (h 31) i) n) := fun i hi => by
    have z : anyTo (ltS (h 31) i) 8 = anyTo (ltS (h 31) i) n := anyTo_ext 8 h8 fun j x y => by unfold ltS; rw [pt_z g y hi (Or.inl x)]; rfl
    rw [Bool.eq_iff_iff, decide_eq_true_iff, Bool.and_eq_true, decide_eq_true_iff, or0_8, ps_0 g hi, Bool.not_eq_true', ← z, anyTo_f]
    constructor
    · intro q
      exact ⟨fun o ho => (Bool.or_eq_false_iff.mp (q o ho)).1, fun o ho => (Bool.or_eq_false_iff.mp (q o ho)).2⟩
    · intro q o ho
      exact Bool.or_eq_false_iff.mpr ⟨q.1 o ho, q.2 o ho⟩
  refine qPu (c := f_X11_straight) (md := f_X12_straight) (v := orTo (srS n (h 31)) n) I ?_ ?_
  · have Q := loop0 (S_X11_straight_4 h) (fun _ _ => none) (fun j q => q (orTo (fun i => upB n (h 31) i && (decide (psW n (h 31) i = 0) && !anyTo (ltS (h 31) i) n)) j) (nI j)) 8 (some (orTo (srS n (h 31)) n)) (by omega) (fun j hj q => ?_) (fun q => ?_)
    · exact Q
    · show S_X11_straight_4 h q (orTo (fun i => upB n (h 31) i && (decide (psW n (h 31) i = 0) && !anyTo (ltS (h 31) i) n)) j) (nI j) = q (orTo (fun i => upB n (h 31) i && (decide (psW n (h 31) i = 0) && !anyTo (ltS (h 31) i) n)) j ||| (if (upB n (h 31) j && (decide (psW n (h 31) j = 0) && !anyTo (ltS (h 31) j) n)) = true then shl 1 (nI j) else 0)) (nI (j + 1))
      unfold S_X11_straight_4
      rw [c_isUp H h8 (by omega), c_touching H g hj, obS, ← eq j hj]
      cases hu : upB n (h 31) j
      · rw [Bool.false_and, tff, tff, Int32.or_zero]
        simp (disch := omega) only [reduceIte, ↓zbn, zgd, zcl, zlt, zeq, zn0, zp0, ze0, zem, zsuc, zob, ztl, zfl, ztle, zfle, zte, zfe, zft, toB0, toB1, i10, i01, zl8]
      · rw [Bool.true_and, ttt]
        by_cases z : orTo (fun o => lnS (h 31) j o || ltS (h 31) j o) 8 = 0
        · rw [if_pos z, decide_eq_true z, ttt]
          simp (disch := omega) only [reduceIte, ↓zbn, zgd, zcl, zlt, zeq, zn0, zp0, ze0, zem, zsuc, zob, ztl, zfl, ztle, zfle, zte, zfe, zft, toB0, toB1, i10, i01, zl8]
        · rw [if_neg z, decide_eq_false z, tff, Int32.or_zero]
          simp (disch := omega) only [reduceIte, ↓zbn, zgd, zcl, zlt, zeq, zn0, zp0, ze0, zem, zsuc, zob, ztl, zfl, ztle, zfle, zte, zfe, zft, toB0, toB1, i10, i01, zl8]
    · show S_X11_straight_4 h q (orTo (fun i => upB n (h 31) i && (decide (psW n (h 31) i = 0) && !anyTo (ltS (h 31) i) n)) 8) (nI 8) = _
      unfold S_X11_straight_4
      simp (disch := omega) only [reduceIte, ↓zbn, zgd, zcl, zlt, zeq, zn0, zp0, ze0, zem, zsuc, zob, ztl, zfl, ztle, zfle, zte, zfe, zft, toB0, toB1, i10, i01, zl8]
      congr 1
      exact orTo_8' h8 (fun i hi => by unfold srS; rw [up_fal hi]) (fun i a b => by rw [upB_hi a]; rfl)
  · have w1 : (up1 h 30 0 0) 31 = h 31 := up1_ob (by decide)
    refine ⟨up1 h 30 0 0, ?_, KM_0⟩
    have Q := loop0 S_X12_straight_9 (fun _ _ _ => none) (fun j q => q (orTo (srS n (h 31)) j) (nI j) (up1 h 30 0 0)) n (some (orTo (srS n (h 31)) n, up1 h 30 0 0)) (by omega) (fun j hj q => ?_) (fun q => ?_)
    · exact Q
    · show S_X12_straight_9 q (orTo (srS n (h 31)) j) (nI j) (up1 h 30 0 0) = q (orTo (srS n (h 31)) j ||| (if (!falB (h 31) j && (decide (psW n (h 31) j = 0) && !anyTo (ltS (h 31) j) n)) = true then shl 1 (nI j) else 0)) (nI (j + 1)) (up1 h 30 0 0)
      unfold S_X12_straight_9 F_X12_straight_49
      rw [m_houses, w1, itP g.1.1 hj (by omega), m_isF (by omega), w1, obS, m_partsOf (n := n) (by rw [w1]; exact g.1.1) h8 (by omega), obS, m_isLeant (n := n) (by rw [w1]; exact g.1.1) h8 (by omega), obS, w1]
      show (if falB (h 31) j = true then _ else if psW n (h 31) j = 0 then (if anyTo (ltS (h 31) j) n = true then _ else _) else _) = _
      cases falB (h 31) j
      · rw [tff]
        by_cases z : psW n (h 31) j = 0
        · rw [if_pos z, decide_eq_true z]
          cases anyTo (ltS (h 31) j) n
          · rw [tff, bnd_eq, nI_1]; rfl
          · rw [ttt, bnd_eq, nI_1]; rfl
        · rw [if_neg z, decide_eq_false z, bnd_eq, nI_1]; rfl
      · rw [ttt, bnd_eq, nI_1]; rfl
    · show S_X12_straight_9 q (orTo (srS n (h 31)) n) (nI n) (up1 h 30 0 0) = _
      unfold S_X12_straight_9
      rw [m_houses, w1, itN g.1.1 (by omega)]
end ST
