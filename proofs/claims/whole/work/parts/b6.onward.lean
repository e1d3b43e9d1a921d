/-! LAYER 4. ring, held: sets that grow by a relation to their end -/
def onS (T : Nat → Nat → Bool) (j : Nat) (P : Nat → Bool) : Nat → Bool := fun o => P o || (P j && T j o)
def onT (T : Nat → Nat → Bool) (P : Nat → Bool) : Nat → Bool := fldN (onS T) P 8
def onR (T : Nat → Nat → Bool) (P : Nat → Bool) (N : Nat) : Nat → Bool := fldN (fun _ => onT T) P N
def mT (T : Nat → Nat → Bool) (P : Nat → Bool) : Nat → Bool := fun o => P o || anyTo (fun k => P k && T k o) 8
def mR (T : Nat → Nat → Bool) (P : Nat → Bool) (N : Nat) : Nat → Bool := fldN (fun _ => mT T) P N
def clo (T : Nat → Nat → Bool) (P : Nat → Bool) : Prop := ∀ a b, a < 8 → b < 8 → P a = true → T a b = true → P b = true
theorem anyTo_t {f : Nat → Bool} {N : Nat} : anyTo f N = true ↔ ∃ j, j < N ∧ f j = true := by
  constructor
  · intro q
    refine Classical.byContradiction fun z => ?_
    have : anyTo f N = false := (anyTo_f N).mpr fun j hj => by
      cases c : f j
      · rfl
      · exact absurd ⟨j, hj, c⟩ z
    rw [this] at q; exact Bool.noConfusion q
  · rintro ⟨j, hj, c⟩
    cases d : anyTo f N
    · rw [(anyTo_f N).mp d j hj] at c; exact Bool.noConfusion c
    · rfl
theorem cnt_full {p : Nat → Bool} {n : Nat} (h : n ≤ cnt p n) : ∀ i, i < n → p i = true := by
  intro i hi
  cases c : p i
  · have a := cnt_lt (p := p) (q := fun _ => true) n (fun _ _ _ => rfl) ⟨i, hi, c, rfl⟩
    have b := cnt_le (fun _ => true) n
    omega
  · rfl
theorem clo_congr {T : Nat → Nat → Bool} {P Q : Nat → Bool} (e : ∀ o, o < 8 → Q o = P o) (h : clo T P) : clo T Q := fun a b ha hb x y => by
  rw [e b hb]; exact h a b ha hb (by rw [← e a ha]; exact x) y
theorem fix8 {T : Nat → Nat → Bool} {F : (Nat → Bool) → Nat → Bool} (ia : ∀ P o, P o = true → F P o = true) (ib : ∀ P, (∀ o, o < 8 → F P o = P o) → clo T P)
    (id' : ∀ P Q, clo T Q → (∀ o, o < 8 → P o = true → Q o = true) → ∀ o, o < 8 → F P o = true → Q o = true) (P : Nat → Bool) : clo T (fldN (fun _ => F) P 8) := by
  have K : ∀ k, clo T (fldN (fun _ => F) P k) ∨ k ≤ cnt (fldN (fun _ => F) P k) 8 := by
    intro k
    induction k with
    | zero => exact Or.inr (Nat.zero_le _)
    | succ k ih =>
      rw [fldN_s]
      rcases ih with c | c
      · refine Or.inl (clo_congr (fun o ho => ?_) c)
        rw [Bool.eq_iff_iff]
        exact ⟨id' _ _ c (fun _ _ x => x) o ho, ia _ o⟩
      · by_cases e : ∀ o, o < 8 → F (fldN (fun _ => F) P k) o = fldN (fun _ => F) P k o
        · exact Or.inl (clo_congr e (ib _ e))
        · refine Or.inr ?_
          have ⟨o, ho, x, y⟩ : ∃ o, o < 8 ∧ fldN (fun _ => F) P k o = false ∧ F (fldN (fun _ => F) P k) o = true := by
            refine Classical.byContradiction fun z => e fun o ho => ?_
            cases c1 : fldN (fun _ => F) P k o
            · cases c2 : F (fldN (fun _ => F) P k) o
              · rfl
              · exact absurd ⟨o, ho, c1, c2⟩ z
            · exact ia _ o c1
          have := cnt_lt 8 (fun j _ => ia (fldN (fun _ => F) P k) j) ⟨o, ho, x, y⟩
          omega
  rcases K 8 with c | c
  · exact c
  · intro a b _ hb _ _
    exact cnt_full c b hb
theorem fixI {F : (Nat → Bool) → Nat → Bool} (ia : ∀ P o, P o = true → F P o = true) (P : Nat → Bool) (o : Nat) (h : P o = true) : ∀ N, fldN (fun _ => F) P N o = true :=
  fun N => fldN_ind (fun _ (Q : Nat → Bool) => Q o = true) h N fun _ Q _ x => ia Q o x
theorem fixL {T : Nat → Nat → Bool} {F : (Nat → Bool) → Nat → Bool} (id' : ∀ P Q, clo T Q → (∀ o, o < 8 → P o = true → Q o = true) → ∀ o, o < 8 → F P o = true → Q o = true)
    {P Q : Nat → Bool} (c : clo T Q) (h : ∀ o, o < 8 → P o = true → Q o = true) (N : Nat) : ∀ o, o < 8 → fldN (fun _ => F) P N o = true → Q o = true :=
  fldN_ind (fun _ (X : Nat → Bool) => ∀ o, o < 8 → X o = true → Q o = true) h N fun _ X _ x => id' X Q c x
theorem onS_i {T : Nat → Nat → Bool} {j : Nat} {P : Nat → Bool} {o : Nat} (h : P o = true) : onS T j P o = true := by unfold onS; rw [h]; rfl
theorem onF_i {T : Nat → Nat → Bool} {P : Nat → Bool} {o : Nat} : ∀ {b a : Nat}, a ≤ b → fldN (onS T) P a o = true → fldN (onS T) P b o = true
  | 0, a, h, x => by obtain rfl : a = 0 := by omega
                     exact x
  | b + 1, a, h, x => by
    by_cases c : a = b + 1
    · rw [← c]; exact x
    · exact onS_i (onF_i (b := b) (by omega) x)
theorem onT_a {T : Nat → Nat → Bool} (P : Nat → Bool) (o : Nat) (h : P o = true) : onT T P o = true := onF_i (a := 0) (Nat.zero_le 8) h
theorem onT_b {T : Nat → Nat → Bool} (P : Nat → Bool) (e : ∀ o, o < 8 → onT T P o = P o) : clo T P := fun a b ha hb x y => by
  rw [← e b hb]
  refine onF_i (a := a + 1) (by omega) ?_
  show (fldN (onS T) P a b || (fldN (onS T) P a a && T a b)) = true
  rw [onF_i (T := T) (P := P) (o := a) (a := 0) (Nat.zero_le a) x, y, Bool.and_self, Bool.or_true]
theorem onT_d {T : Nat → Nat → Bool} (P Q : Nat → Bool) (c : clo T Q) (h : ∀ o, o < 8 → P o = true → Q o = true) : ∀ o, o < 8 → onT T P o = true → Q o = true :=
  fldN_ind (fun _ (X : Nat → Bool) => ∀ o, o < 8 → X o = true → Q o = true) h 8 fun j X hj x o ho y => by
    unfold onS at y
    rcases Bool.or_eq_true_iff.mp y with y | y
    · exact x o ho y
    · have ⟨y1, y2⟩ := Bool.and_eq_true_iff.mp y
      exact c j o hj ho (x j hj y1) y2
theorem mT_a {T : Nat → Nat → Bool} (P : Nat → Bool) (o : Nat) (h : P o = true) : mT T P o = true := by unfold mT; rw [h]; rfl
theorem mT_b {T : Nat → Nat → Bool} (P : Nat → Bool) (e : ∀ o, o < 8 → mT T P o = P o) : clo T P := fun a b ha hb x y => by
  rw [← e b hb]
  unfold mT
  rw [anyTo_t.mpr ⟨a, ha, by rw [x, y]; rfl⟩, Bool.or_true]
theorem mT_d {T : Nat → Nat → Bool} (P Q : Nat → Bool) (c : clo T Q) (h : ∀ o, o < 8 → P o = true → Q o = true) : ∀ o, o < 8 → mT T P o = true → Q o = true := fun o ho y => by
  unfold mT at y
  rcases Bool.or_eq_true_iff.mp y with y | y
  · exact h o ho y
  · obtain ⟨j, hj, z⟩ := anyTo_t.mp y
    have ⟨y1, y2⟩ := Bool.and_eq_true_iff.mp z
    exact c j o hj ho (h j hj y1) y2
theorem on_m {T : Nat → Nat → Bool} {P : Nat → Bool} {o : Nat} (ho : o < 8) : onR T P 8 o = mR T P 8 o := by
  rw [Bool.eq_iff_iff]
  exact ⟨fixL (F := onT T) onT_d (fix8 (F := mT T) mT_a mT_b mT_d P) (fun o _ x => fixI (F := mT T) mT_a P o x 8) 8 o ho,
    fixL (F := mT T) mT_d (fix8 (F := onT T) onT_a onT_b onT_d P) (fun o _ x => fixI (F := onT T) onT_a P o x 8) 8 o ho⟩
theorem orTo_an {p q : Nat → Bool} {n : Nat} (hn : n ≤ 32) : orTo p n &&& orTo q n = orTo (fun i => p i && q i) n :=
  tb_ext fun k hk => by
    rw [tb_and, orTo_tb _ _ hn _ hk, orTo_tb _ _ hn _ hk, orTo_tb _ _ hn _ hk]
    cases decide (k < n) <;> simp
theorem orTo_dn {p q : Nat → Bool} {n : Nat} (hn : n ≤ 32) : orTo p n &&& (orTo q n ^^^ (-1)) = orTo (fun i => p i && !q i) n :=
  tb_ext fun k hk => by
    rw [tb_and, tb_not hk, orTo_tb _ _ hn _ hk, orTo_tb _ _ hn _ hk, orTo_tb _ _ hn _ hk]
    cases decide (k < n) <;> simp
theorem shl_8 {i : Nat} (hi : i < 8) : shl 1 (nI i) = orTo (fun k => decide (k = i)) 8 :=
  (show ∀ i, i < 8 → shl 1 (nI i) = orTo (fun k => decide (k = i)) 8 by decide +kernel) i hi
theorem onS_or {T : Nat → Nat → Bool} {j : Nat} {P : Nat → Bool} : orTo (onS T j P) 8 = if P j = true then orTo P 8 ||| orTo (T j) 8 else orTo P 8 := by
  unfold onS
  by_cases c : P j = true
  · rw [if_pos c, orTo_or (by omega)]
    exact orTo_congr 8 fun k _ => by rw [c, Bool.true_and]
  · rw [if_neg c]
    exact orTo_congr 8 fun k _ => by rw [Bool.eq_false_iff.mpr c, Bool.false_and, Bool.or_false]
section OW
variable {n m : Nat} {w : Row} {h : Hp} {c : Nat}
theorem c_onward {i : Nat} (H : CV0 c h n m w) (g : Gd n m w) (hi : i < 8) : f_X1_onward c (nI i) h = some (orTo (onR (lnS w) (lnS w i) 8) 8) := by
  have Q := loop0 (S_X1_onward_8 h c) (fun _ _ => none) (fun j q => q (orTo (onR (lnS w) (lnS w i) j) 8) (nI j)) 8 (some (orTo (onR (lnS w) (lnS w i) 8) 8)) (by omega) (fun j hj q => ?_) (fun q => ?_)
  · unfold f_X1_onward
    rw [c_leansOn H g hi, obS]
    exact Q
  · show S_X1_onward_8 h c q (orTo (onR (lnS w) (lnS w i) j) 8) (nI j) = q (orTo (onT (lnS w) (onR (lnS w) (lnS w i) j)) 8) (nI (j + 1))
    generalize onR (lnS w) (lnS w i) j = P
    have Q2 := loop0 (S_X1_onward_17 q h c (nI j)) (fun _ _ => none) (fun k r => r (orTo (fldN (onS (lnS w)) P k) 8) (nI k)) 8 (q (orTo (onT (lnS w) P) 8) (nI (j + 1))) (by omega) (fun k hk r => ?_) (fun r => ?_)
    · unfold S_X1_onward_8
      rw [show (8 : Int32) = nI 8 from rfl, if_pos ((nI_ltI (by omega) (by omega)).mpr hj)]
      exact Q2
    · show S_X1_onward_17 q h c (nI j) r (orTo (fldN (onS (lnS w)) P k) 8) (nI k) = r (orTo (onS (lnS w) k (fldN (onS (lnS w)) P k)) 8) (nI (k + 1))
      generalize fldN (onS (lnS w)) P k = X
      unfold S_X1_onward_17
      rw [show (8 : Int32) = nI 8 from rfl, if_pos ((nI_ltI (by omega) (by omega)).mpr hk), c_leansOn H g hk, obS, bnd_eq, nI_1, onS_or]
      by_cases d : X k = true
      · rw [if_pos d, if_pos (by rw [shr_tb (by omega), tb8 hk]; exact d)]
      · rw [if_neg d, if_neg (by rw [shr_tb (by omega), tb8 hk]; exact d)]
    · show S_X1_onward_17 q h c (nI j) r (orTo (fldN (onS (lnS w)) P 8) 8) (nI 8) = _
      unfold S_X1_onward_17
      rw [show (8 : Int32) = nI 8 from rfl, if_neg (by decide), nI_1]
      rfl
  · show S_X1_onward_8 h c q (orTo (onR (lnS w) (lnS w i) 8) 8) (nI 8) = _
    unfold S_X1_onward_8
    rw [show (8 : Int32) = nI 8 from rfl, if_neg (by decide)]
theorem ln_z {i o : Nat} (g : Gd n m w) (hi : i < 8) (ho : o < 8) (hz : n ≤ i ∨ n ≤ o) : lnS w i o = false := by
  unfold lnS; rw [pt_z g hi ho hz]; rfl
def owP (w : Row) (P : Nat → Bool) (i : Nat) : Nat → Bool := fun o => anyTo (fun k => P k && lnS w k o) i
theorem m_onWhom {P : Nat → Bool} (g : Gd n m (h 31)) : f_X12_onWhom (orTo P 8) h = some (orTo (owP (h 31) P 8) 8) := by
  have h8 := g.1.2.1
  have en : orTo (owP (h 31) P 8) 8 = orTo (owP (h 31) P n) 8 := orTo_congr 8 fun o ho => anyTo_ext 8 h8 fun j x y => by rw [ln_z g y ho (Or.inl x), Bool.and_false]
  rw [en]
  have Q := loop0 (S_X12_onWhom_4 h (orTo P 8)) (fun _ _ => none) (fun j q => q (orTo (owP (h 31) P j) 8) (nI j)) n (some (orTo (owP (h 31) P n) 8)) (by omega) (fun j hj q => ?_) (fun q => ?_)
  · rw [show orTo (owP (h 31) P 0) 8 = 0 from or0_8.mpr fun _ _ => rfl] at Q
    exact Q
  · show S_X12_onWhom_4 h (orTo P 8) q (orTo (owP (h 31) P j) 8) (nI j) = q (orTo (owP (h 31) P (j + 1)) 8) (nI (j + 1))
    have e2 : orTo (owP (h 31) P j) 8 ||| orTo (fun o => P j && lnS (h 31) j o) n = orTo (owP (h 31) P (j + 1)) 8 := by
      rw [← orTo_8' (p := fun o => P j && lnS (h 31) j o) (q := fun o => P j && lnS (h 31) j o) h8 (fun _ _ => rfl) (fun o a b => by rw [ln_z g (by omega) b (Or.inr a), Bool.and_false]), orTo_or (by omega)]
      rfl
    rw [← e2]
    generalize orTo (owP (h 31) P j) 8 = A
    have Q2 := loop0 (S_X12_onWhom_15 q h (orTo P 8) (nI j)) (fun _ _ => none) (fun k r => r (A ||| orTo (fun o => P j && lnS (h 31) j o) k) (nI k)) n (q (A ||| orTo (fun o => P j && lnS (h 31) j o) n) (nI (j + 1))) (by omega) (fun k hk r => ?_) (fun r => ?_)
    · unfold S_X12_onWhom_4
      rw [m_houses, itP g.1.1 hj (by omega)]
      rw [show orTo (fun o => P j && lnS (h 31) j o) 0 = 0 from rfl, Int32.or_zero] at Q2
      exact Q2
    · show S_X12_onWhom_15 q h (orTo P 8) (nI j) r (A ||| orTo (fun o => P j && lnS (h 31) j o) k) (nI k) = r (A ||| (orTo (fun o => P j && lnS (h 31) j o) k ||| (if (P j && lnS (h 31) j k) = true then shl 1 (nI k) else 0))) (nI (k + 1))
      generalize orTo (fun o => P j && lnS (h 31) j o) k = B
      unfold S_X12_onWhom_15 F_X12_onWhom_51
      rw [m_houses, itP g.1.1 hk (by omega), m_has, hasB_tb (by omega), tb8 (by omega), m_partOf (by omega) (by omega), obS, bnd_eq, bnd_eq, nI_1, ← Int32.or_assoc]
      cases P j
      · rw [tff, Bool.false_and, tff]
      · rw [ttt, Bool.true_and]
        show (if 0 < ptR (h 31) j k then _ else _) = _
        unfold lnS
        by_cases d : 0 < ptR (h 31) j k
        · rw [if_pos d, decide_eq_true d, ttt]
        · rw [if_neg d, decide_eq_false d, tff]
    · show S_X12_onWhom_15 q h (orTo P 8) (nI j) r (A ||| orTo (fun o => P j && lnS (h 31) j o) n) (nI n) = _
      unfold S_X12_onWhom_15
      rw [m_houses, itN g.1.1 (by omega), nI_1]
  · show S_X12_onWhom_4 h (orTo P 8) q (orTo (owP (h 31) P n) 8) (nI n) = _
    unfold S_X12_onWhom_4
    rw [m_houses, itN g.1.1 (by omega)]
theorem m_heldBy {i : Nat} (g : Gd n m (h 31)) (hi : i < 8) : f_X12_heldBy (nI i) h = some (orTo (mR (lnS (h 31)) (lnS (h 31) i) 8) 8) := by
  have e0 : orTo (owP (h 31) (fun k => decide (k = i)) 8) 8 = orTo (lnS (h 31) i) 8 := orTo_congr 8 fun o ho => by
    rw [Bool.eq_iff_iff]
    unfold owP
    rw [anyTo_t]
    constructor
    · rintro ⟨j, _, y⟩
      have ⟨y1, y2⟩ := Bool.and_eq_true_iff.mp y
      rw [decide_eq_true_iff] at y1
      rw [← y1]; exact y2
    · intro y
      exact ⟨i, hi, by show (decide (i = i) && lnS (h 31) i o) = true; rw [y, decide_eq_true rfl]; rfl⟩
  have Q := loop0 (S_X12_heldBy_10 h) (fun _ _ => none) (fun j q => q (orTo (mR (lnS (h 31)) (lnS (h 31) i) j) 8) (nI j)) 8 (some (orTo (mR (lnS (h 31)) (lnS (h 31) i) 8) 8)) (by omega) (fun j hj q => ?_) (fun q => ?_)
  · unfold f_X12_heldBy
    rw [shl_8 hi, m_onWhom g, obS, e0]
    exact Q
  · show S_X12_heldBy_10 h q (orTo (mR (lnS (h 31)) (lnS (h 31) i) j) 8) (nI j) = q (orTo (mT (lnS (h 31)) (mR (lnS (h 31)) (lnS (h 31) i) j)) 8) (nI (j + 1))
    unfold S_X12_heldBy_10
    rw [show (8 : Int32) = nI 8 from rfl, if_pos ((nI_ltI (by omega) (by omega)).mpr hj), m_onWhom g, obS, bnd_eq, orTo_or (by omega), nI_1]
    rfl
  · show S_X12_heldBy_10 h q (orTo (mR (lnS (h 31)) (lnS (h 31) i) 8) 8) (nI 8) = _
    unfold S_X12_heldBy_10
    rw [show (8 : Int32) = nI 8 from rfl, if_neg (by decide)]
end OW
theorem sp_30 {a : Nat → Int32} {h : Hp} (I : Inv h) : ∃ h' n, St_30 a h h' n ∧ n ≤ 1 ∧ Inv h' := by
  obtain ⟨⟨n, m, N⟩, _⟩ := id I
  have g := N.1
  have h8 := g.1.2.1
  have cn := N.2.1.2.2.2.1.1
  rcases argI (a 1) (n := n) (by omega) with ⟨i, hi, e1⟩ | hx
  · obtain ⟨h', k, s, l, J⟩ := qOk (c := f_X11_held (a 1)) (md := f_X12_held (a 1)) (v := orTo (onR (lnS (h 31)) (lnS (h 31) i) 8) 8) I ⟨h, by
        rw [e1]
        unfold f_X11_held
        rw [ckH_i cn h8 hi, obS, exOk, c_onward N.2.1 g (by omega), obS], KC_refl h⟩ (fun q _ qe => by
        have w := w30' qe
        refine ⟨up1 q 30 0 0, ?_, up1_same, KM_0⟩
        rw [e1]
        unfold f_X12_held
        rw [bnd_eq, noH_i (by rw [w]; exact g.1.1) h8 hi, tIf, obS]
        dsimp only
        rw [tff, m_heldBy (n := n) (m := m) (by rw [w]; exact g) (by omega), obS, w, orTo_congr 8 fun o ho => (on_m ho).symm])
    exact ⟨h', k, Or.inl s, l, J⟩
  · obtain ⟨h', k, s, l, J⟩ := qEr (c := f_X11_held (a 1)) (md := f_X12_held (a 1)) (E := "java/lang/IndexOutOfBoundsException") (t := 1) I ⟨h, by
        unfold f_X11_held
        rw [ckH_x cn h8 hx, obS, exEr], KC_refl h⟩ (fun q _ qe => bE (by
        unfold f_X12_held
        rw [bnd_eq, noH_x (by rw [w30' qe]; exact g.1.1) h8 hx, tIt, obS]
        rfl))
    exact ⟨h', k, Or.inr s, l, J⟩
theorem sp_29 {a : Nat → Int32} {h : Hp} (I : Inv h) : ∃ h' n, St_29 a h h' n ∧ n ≤ 1 ∧ Inv h' := by
  obtain ⟨⟨n, m, N⟩, _⟩ := id I
  have g := N.1
  have h8 := g.1.2.1
  have cn := N.2.1.2.2.2.1.1
  rcases argI (a 1) (n := n) (by omega) with ⟨i, hi, e1⟩ | hx
  · obtain ⟨h', k, s, l, J⟩ := qOkB (c := f_X11_ring (a 1)) (md := f_X12_ring (a 1)) (v := onR (lnS (h 31)) (lnS (h 31) i) 8 i) I ⟨h, by
        rw [e1]
        unfold f_X11_ring
        rw [ckH_i cn h8 hi, obS, exOk, c_onward N.2.1 g (by omega), obS]
        cases c : onR (lnS (h 31)) (lnS (h 31) i) 8 i
        · rw [if_neg (by rw [shr_tb (by omega), tb8 (by omega), c]; exact fun z => Bool.noConfusion z)]
        · rw [if_pos (by rw [shr_tb (by omega), tb8 (by omega), c])], KC_refl h⟩ (fun q _ qe => by
        have w := w30' qe
        refine ⟨up1 q 30 0 0, ?_, up1_same, KM_0⟩
        rw [e1]
        unfold f_X12_ring
        rw [bnd_eq, noH_i (by rw [w]; exact g.1.1) h8 hi, tIf, obS]
        dsimp only
        rw [tff, m_heldBy (n := n) (m := m) (by rw [w]; exact g) (by omega), obS, w, m_has, hasB_tb (by omega), tb8 (by omega), on_m (by omega)]
        cases mR (lnS (h 31)) (lnS (h 31) i) 8 i <;> rfl)
    exact ⟨h', k, Or.inl s, l, J⟩
  · obtain ⟨h', k, s, l, J⟩ := qErB (c := f_X11_ring (a 1)) (md := f_X12_ring (a 1)) (E := "java/lang/IndexOutOfBoundsException") (t := 1) I ⟨h, by
        unfold f_X11_ring
        rw [ckH_x cn h8 hx, obS, exEr], KC_refl h⟩ (fun q _ qe => bEB (by
        unfold f_X12_ring
        rw [bnd_eq, noH_x (by rw [w30' qe]; exact g.1.1) h8 hx, tIt, obS]
        rfl))
    exact ⟨h', k, Or.inr s, l, J⟩
