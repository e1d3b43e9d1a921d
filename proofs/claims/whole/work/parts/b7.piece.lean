/-! LAYER 4. pieces: of one piece by a relation, among some -/
def tA (T : Nat → Nat → Bool) (A : Nat → Bool) (a b : Nat) : Bool := T a b && A b
def p0 (A : Nat → Bool) (i : Nat) : Nat → Bool := fun k => decide (k = i) && A k
def pc (T : Nat → Nat → Bool) (A : Nat → Bool) (i : Nat) : Nat → Bool := onR (tA T A) (p0 A i) 8
section PC
variable {T : Nat → Nat → Bool} {A B Q : Nat → Bool} {i j k : Nat}
theorem pc_c : clo (tA T A) (pc T A i) := fix8 (F := onT (tA T A)) onT_a onT_b onT_d (p0 A i)
theorem pc_s (h : A i = true) : pc T A i i = true := fixI (F := onT (tA T A)) onT_a (p0 A i) i (by unfold p0; rw [decide_eq_true rfl, h]; rfl) 8
theorem pc_l (c : clo (tA T A) Q) (h : i < 8 → A i = true → Q i = true) : ∀ o, o < 8 → pc T A i o = true → Q o = true :=
  fixL (F := onT (tA T A)) onT_d c (fun o ho x => by
    have ⟨y1, y2⟩ := Bool.and_eq_true_iff.mp x
    rw [decide_eq_true_iff] at y1
    rw [y1] at ho y2 ⊢
    exact h ho y2) 8
theorem pc_in (hj : j < 8) (h : pc T A i j = true) : A j = true ∧ A i = true := by
  have := pc_l (T := T) (A := A) (i := i) (Q := fun b => A b && A i) (fun a b _ _ x y => by
    have ⟨x1, x2⟩ := Bool.and_eq_true_iff.mp x
    have ⟨y1, y2⟩ := Bool.and_eq_true_iff.mp y
    exact Bool.and_eq_true_iff.mpr ⟨y2, x2⟩) (fun _ x => by rw [x]; rfl) j hj h
  exact Bool.and_eq_true_iff.mp this
theorem pc_step {a b : Nat} (ha : a < 8) (hb : b < 8) (h : pc T A i a = true) (t : T a b = true) (x : A b = true) : pc T A i b = true := pc_c a b ha hb h (Bool.and_eq_true_iff.mpr ⟨t, x⟩)
theorem pc_tr (hj : j < 8) (h : pc T A i j = true) : ∀ o, o < 8 → pc T A j o = true → pc T A i o = true := pc_l pc_c (fun _ _ => h)
theorem pc_sy (ts : ∀ a b, T a b = T b a) (hj : j < 8) (hi : i < 8) (h : pc T A i j = true) : pc T A j i = true := by
  have ai := (pc_in hj h).2
  have := pc_l (T := T) (A := A) (i := i) (Q := fun b => A b && pc T A b i) (fun a b ha hb x y => by
    have ⟨x1, x2⟩ := Bool.and_eq_true_iff.mp x
    have ⟨y1, y2⟩ := Bool.and_eq_true_iff.mp y
    refine Bool.and_eq_true_iff.mpr ⟨y2, ?_⟩
    exact pc_tr ha (pc_step hb ha (pc_s y2) (by rw [ts]; exact y1) x1) i hi x2) (fun _ x => Bool.and_eq_true_iff.mpr ⟨x, pc_s x⟩) j hj h
  exact (Bool.and_eq_true_iff.mp this).2
theorem pc_eq (ts : ∀ a b, T a b = T b a) (hi : i < 8) (hj : j < 8) (h : pc T A i j = true) (o : Nat) (ho : o < 8) : pc T A j o = pc T A i o := by
  rw [Bool.eq_iff_iff]
  exact ⟨pc_tr hj h o ho, pc_tr hi (pc_sy ts hj hi h) o ho⟩
theorem pc_mo (s : ∀ o, o < 8 → A o = true → B o = true) : ∀ o, o < 8 → pc T A i o = true → pc T B i o = true :=
  pc_l (fun a b ha hb x y => by
    have ⟨y1, y2⟩ := Bool.and_eq_true_iff.mp y
    exact pc_step ha hb x y1 (s b hb y2)) (fun hi x => pc_s (s i hi x))
theorem pc_re (s : ∀ o, o < 8 → A o = true → B o = true) (r : ∀ o, o < 8 → pc T B i o = true → A o = true) : ∀ o, o < 8 → pc T B i o = true → pc T A i o = true :=
  pc_l (fun a b ha hb x y => by
    have ⟨y1, y2⟩ := Bool.and_eq_true_iff.mp y
    have : pc T B i b = true := pc_step ha hb (pc_mo s a ha x) y1 y2
    exact pc_step ha hb x y1 (r b hb this)) (fun hi x => pc_s (r i hi (pc_s x)))
end PC
def tS (w : Row) (a b : Nat) : Bool := lnS w a b || lnS w b a
theorem tS_sy {w : Row} (a b : Nat) : tS w a b = tS w b a := Bool.or_comm _ _
section PO
variable {n m : Nat} {w : Row} {h : Hp} {c : Nat}
theorem p0_or {A : Nat → Bool} {i : Nat} (hi : i < 8) : shl 1 (nI i) &&& orTo A 8 = orTo (p0 A i) 8 := by rw [shl_8 hi, orTo_an (by omega)]; rfl
theorem c_pieceOf {i : Nat} {A : Nat → Bool} (H : CV0 c h n m w) (g : Gd n m w) (hi : i < 8) : f_X1_pieceOf c (nI i) (orTo A 8) h = some (orTo (pc (tS w) A i) 8) := by
  have tj : ∀ j, orTo (tA (tS w) A j) 8 = orTo (fun o => lnS w j o || ltS w j o) 8 &&& orTo A 8 := fun j => by rw [orTo_an (by omega)]; rfl
  have Q := loop0 (S_X1_pieceOf_9 h c (orTo A 8)) (fun _ _ => none) (fun j q => q (orTo (onR (tA (tS w) A) (p0 A i) j) 8) (nI j)) 8 (some (orTo (pc (tS w) A i) 8)) (by omega) (fun j hj q => ?_) (fun q => ?_)
  · unfold f_X1_pieceOf
    rw [bnd_eq, p0_or hi]
    exact Q
  · show S_X1_pieceOf_9 h c (orTo A 8) q (orTo (onR (tA (tS w) A) (p0 A i) j) 8) (nI j) = q (orTo (onT (tA (tS w) A) (onR (tA (tS w) A) (p0 A i) j)) 8) (nI (j + 1))
    generalize onR (tA (tS w) A) (p0 A i) j = P
    have Q2 := loop0 (S_X1_pieceOf_19 q h c (orTo A 8) (nI j)) (fun _ _ => none) (fun k r => r (orTo (fldN (onS (tA (tS w) A)) P k) 8) (nI k)) 8 (q (orTo (onT (tA (tS w) A) P) 8) (nI (j + 1))) (by omega) (fun k hk r => ?_) (fun r => ?_)
    · unfold S_X1_pieceOf_9
      rw [show (8 : Int32) = nI 8 from rfl, if_pos ((nI_ltI (by omega) (by omega)).mpr hj)]
      exact Q2
    · show S_X1_pieceOf_19 q h c (orTo A 8) (nI j) r (orTo (fldN (onS (tA (tS w) A)) P k) 8) (nI k) = r (orTo (onS (tA (tS w) A) k (fldN (onS (tA (tS w) A)) P k)) 8) (nI (k + 1))
      generalize fldN (onS (tA (tS w) A)) P k = X
      unfold S_X1_pieceOf_19
      rw [show (8 : Int32) = nI 8 from rfl, if_pos ((nI_ltI (by omega) (by omega)).mpr hk), c_touching H g hk, obS, bnd_eq, nI_1, onS_or, tj]
      by_cases d : X k = true
      · rw [if_pos d, if_pos (by rw [shr_tb (by omega), tb8 hk]; exact d)]
      · rw [if_neg d, if_neg (by rw [shr_tb (by omega), tb8 hk]; exact d)]
    · show S_X1_pieceOf_19 q h c (orTo A 8) (nI j) r (orTo (fldN (onS (tA (tS w) A)) P 8) 8) (nI 8) = _
      unfold S_X1_pieceOf_19
      rw [show (8 : Int32) = nI 8 from rfl, if_neg (by decide), nI_1]
      rfl
  · show S_X1_pieceOf_9 h c (orTo A 8) q (orTo (onR (tA (tS w) A) (p0 A i) 8) 8) (nI 8) = _
    unfold S_X1_pieceOf_9
    rw [show (8 : Int32) = nI 8 from rfl, if_neg (by decide)]
    rfl
theorem ts_z {a b : Nat} (g : Gd n m w) (ha : a < 8) (hb : b < 8) (hz : n ≤ a ∨ n ≤ b) : tS w a b = false := by
  unfold tS; rw [ln_z g ha hb hz, ln_z g hb ha hz.symm]; rfl
theorem on_n {A P : Nat → Bool} (g : Gd n m w) : orTo (fldN (onS (tA (tS w) A)) P n) 8 = orTo (onT (tA (tS w) A) P) 8 := by
  have h8 := g.1.2.1
  refine orTo_congr 8 fun o ho => ?_
  have K : ∀ k, n ≤ k → k ≤ 8 → fldN (onS (tA (tS w) A)) P k o = fldN (onS (tA (tS w) A)) P n o := by
    intro k
    induction k with
    | zero => intro a _; obtain rfl : n = 0 := by omega
              rfl
    | succ k ih =>
      intro a b
      by_cases c : n = k + 1
      · rw [c]
      · rw [← ih (by omega) (by omega), fldN_s]
        generalize fldN (onS (tA (tS w) A)) P k = X
        unfold onS tA
        rw [ts_z g (by omega) ho (Or.inl (by omega)), Bool.false_and, Bool.and_false, Bool.or_false]
  exact (K 8 h8 (by omega)).symm
theorem m_po31 {q9 q19 : Int32 → Int32 → Option Int32} {A X : Nat → Bool} {x4 : Int32} {a : Nat} (g : Gd n m (h 31)) (ha : a < n) :
    F_X12_pieceOf_31 q9 q19 h (orTo A 8) x4 (nI a) FU (orTo X 8) 0 = q19 (orTo (onS (tA (tS (h 31)) A) a X) 8) (nI (a + 1)) := by
  have h8 := g.1.2.1
  have e2 : orTo X 8 ||| orTo (fun o => X a && tA (tS (h 31)) A a o) n = orTo (onS (tA (tS (h 31)) A) a X) 8 := by
    rw [← orTo_8' (p := fun o => X a && tA (tS (h 31)) A a o) (q := fun o => X a && tA (tS (h 31)) A a o) h8 (fun _ _ => rfl) (fun o x y => by unfold tA; rw [ts_z g (by omega) y (Or.inr x), Bool.false_and, Bool.and_false]), orTo_or (by omega)]
    rfl
  have Q2 := loop0 (S_X12_pieceOf_31 q9 q19 h (orTo A 8) x4 (nI a)) (fun _ _ => none) (fun k r => r (orTo X 8 ||| orTo (fun o => X a && tA (tS (h 31)) A a o) k) (nI k)) n (q19 (orTo (onS (tA (tS (h 31)) A) a X) 8) (nI (a + 1))) (by omega) (fun k hk r => ?_) (fun r => ?_)
  · rw [show orTo (fun o => X a && tA (tS (h 31)) A a o) 0 = 0 from rfl, Int32.or_zero] at Q2
    exact Q2
  · show S_X12_pieceOf_31 q9 q19 h (orTo A 8) x4 (nI a) r (orTo X 8 ||| orTo (fun o => X a && tA (tS (h 31)) A a o) k) (nI k) = r (orTo X 8 ||| (orTo (fun o => X a && tA (tS (h 31)) A a o) k ||| (if (X a && tA (tS (h 31)) A a k) = true then shl 1 (nI k) else 0))) (nI (k + 1))
    have ea : tb (orTo X 8 ||| orTo (fun o => X a && tA (tS (h 31)) A a o) k) a = X a := by
      rw [tb_or, tb8 (by omega), orTo_tb _ _ (by omega) _ (by omega)]
      cases X a
      · rw [Bool.false_and, Bool.and_false]; rfl
      · rfl
    rw [← Int32.or_assoc]
    generalize hB : orTo X 8 ||| orTo (fun o => X a && tA (tS (h 31)) A a o) k = B at ea ⊢
    have e0 : B ||| 0 = B := Int32.or_zero
    unfold S_X12_pieceOf_31 F_X12_pieceOf_80
    rw [m_houses, itP g.1.1 hk (by omega), m_has, hasB_tb (by omega), ea, m_has, hasB_tb (by omega), tb8 (by omega), m_partOf (by omega) (by omega), obS, m_partOf (by omega) (by omega), obS, bnd_eq, nI_1]
    unfold tA
    cases X a
    · rw [tff, Bool.false_and, tff, e0]
    · rw [ttt, Bool.true_and]
      cases A k
      · rw [tff, Bool.and_false, tff, e0]
      · rw [ttt, Bool.and_true]
        show (if 0 < ptR (h 31) a k then _ else if 0 < ptR (h 31) k a then _ else _) = _
        unfold tS lnS
        by_cases d : 0 < ptR (h 31) a k
        · rw [if_pos d, decide_eq_true d, Bool.true_or, ttt]
        · rw [if_neg d, decide_eq_false d, Bool.false_or]
          by_cases f : 0 < ptR (h 31) k a
          · rw [if_pos f, decide_eq_true f, ttt]
          · rw [if_neg f, decide_eq_false f, tff, e0]
  · show S_X12_pieceOf_31 q9 q19 h (orTo A 8) x4 (nI a) r (orTo X 8 ||| orTo (fun o => X a && tA (tS (h 31)) A a o) n) (nI n) = _
    unfold S_X12_pieceOf_31
    rw [m_houses, itN g.1.1 (by omega), nI_1, e2]
theorem m_pieceOf {i : Nat} {A : Nat → Bool} (g : Gd n m (h 31)) (hi : i < 8) : f_X12_pieceOf (nI i) (orTo A 8) h = some (orTo (pc (tS (h 31)) A i) 8) := by
  have h8 := g.1.2.1
  have Q := loop0 (S_X12_pieceOf_9 h (orTo A 8)) (fun _ _ => none) (fun j q => q (orTo (onR (tA (tS (h 31)) A) (p0 A i) j) 8) (nI j)) 8 (some (orTo (pc (tS (h 31)) A i) 8)) (by omega) (fun j hj q => ?_) (fun q => ?_)
  · unfold f_X12_pieceOf
    rw [bnd_eq, p0_or hi]
    exact Q
  · show S_X12_pieceOf_9 h (orTo A 8) q (orTo (onR (tA (tS (h 31)) A) (p0 A i) j) 8) (nI j) = q (orTo (onT (tA (tS (h 31)) A) (onR (tA (tS (h 31)) A) (p0 A i) j)) 8) (nI (j + 1))
    generalize onR (tA (tS (h 31)) A) (p0 A i) j = P
    have Q2 := loop0 (S_X12_pieceOf_19 q h (orTo A 8) (nI j)) (fun _ _ => none) (fun k r => r (orTo (fldN (onS (tA (tS (h 31)) A)) P k) 8) (nI k)) n (q (orTo (onT (tA (tS (h 31)) A) P) 8) (nI (j + 1))) (by omega) (fun k hk r => ?_) (fun r => ?_)
    · unfold S_X12_pieceOf_9
      rw [show (8 : Int32) = nI 8 from rfl, if_pos ((nI_ltI (by omega) (by omega)).mpr hj)]
      exact Q2
    · show S_X12_pieceOf_19 q h (orTo A 8) (nI j) r (orTo (fldN (onS (tA (tS (h 31)) A)) P k) 8) (nI k) = r (orTo (onS (tA (tS (h 31)) A) k (fldN (onS (tA (tS (h 31)) A)) P k)) 8) (nI (k + 1))
      unfold S_X12_pieceOf_19
      rw [m_houses, itP g.1.1 hk (by omega)]
      exact m_po31 g hk
    · show S_X12_pieceOf_19 q h (orTo A 8) (nI j) r (orTo (fldN (onS (tA (tS (h 31)) A)) P n) 8) (nI n) = _
      unfold S_X12_pieceOf_19
      rw [m_houses, itN g.1.1 (by omega), nI_1, on_n g]
  · show S_X12_pieceOf_9 h (orTo A 8) q (orTo (onR (tA (tS (h 31)) A) (p0 A i) 8) 8) (nI 8) = _
    unfold S_X12_pieceOf_9
    rw [show (8 : Int32) = nI 8 from rfl, if_neg (by decide)]
    rfl
end PO
