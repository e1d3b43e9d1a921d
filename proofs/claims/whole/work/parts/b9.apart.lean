/-! LAYER 4. apart -/
def e01 (b : Bool) : Nat := if b then 1 else 0
theorem cnt_sumN {p : Nat → Bool} : ∀ n, cnt p n = sumN (fun g => e01 (p g)) n
  | 0 => rfl
  | n + 1 => by
    show cnt p n + (if p n then 1 else 0) = sumN (fun g => e01 (p g)) n + e01 (p n)
    rw [cnt_sumN n]; rfl
theorem sumN_le2 {f g : Nat → Nat} : ∀ n, (∀ j, j < n → f j ≤ g j) → sumN f n ≤ sumN g n
  | 0, _ => Nat.le_refl 0
  | n + 1, h => by
    have a := sumN_le2 n (fun j hj => h j (by omega))
    have b := h n (by omega)
    show sumN f n + f n ≤ sumN g n + g n
    omega
theorem sumN_sy {F : Nat → Nat → Nat} (s : ∀ i j, F i j = F j i) (z : ∀ i, F i i = 0) : ∀ n, sumN (fun i => sumN (F i) n) n = 2 * sumN (fun i => sumN (F i) i) n
  | 0 => rfl
  | n + 1 => by
    have ih := sumN_sy s z n
    have a : sumN (fun i => sumN (F i) n + F i n) n = sumN (fun i => sumN (F i) n) n + sumN (fun i => F i n) n := sumN_add n
    have b : sumN (fun i => F i n) n = sumN (F n) n := sumN_congr n fun j _ => s j n
    show sumN (fun i => sumN (F i) n + F i n) n + (sumN (F n) n + F n n) = 2 * (sumN (fun i => sumN (F i) i) n + sumN (F n) n)
    rw [a, b, z n]
    omega
def dbl (E : Nat → Nat → Bool) : Nat := sumN (fun i => sumN (fun j => e01 (E i j)) i) 8
theorem dbl_add {A B C D : Nat → Nat → Bool} (t : ∀ i j, i < 8 → j < i → e01 (A i j) + e01 (B i j) = e01 (C i j) + e01 (D i j)) : dbl A + dbl B = dbl C + dbl D := by
  unfold dbl
  rw [← sumN_add, ← sumN_add]
  refine sumN_congr 8 fun i hi => ?_
  rw [← sumN_add, ← sumN_add]
  exact sumN_congr i fun j hj => t i j hi hj
theorem dbl_eq {A C : Nat → Nat → Bool} (t : ∀ i j, i < 8 → j < i → A i j = C i j) : dbl A = dbl C :=
  sumN_congr 8 fun i hi => sumN_congr i fun j hj => by rw [t i j hi hj]
theorem dbl_le {A C : Nat → Nat → Bool} (t : ∀ i j, i < 8 → j < i → A i j = true → C i j = true) : dbl A ≤ dbl C :=
  sumN_le2 8 fun i hi => sumN_le2 i fun j hj => by
    have := t i j hi hj
    unfold e01
    cases a : A i j
    · exact Nat.zero_le _
    · rw [this a]; exact Nat.le_refl _
theorem dbl_0 {A : Nat → Nat → Bool} (t : ∀ i j, i < 8 → j < i → A i j = false) : dbl A = 0 :=
  (sumN_0 8).mpr fun i hi => (sumN_0 i).mpr fun j hj => by rw [t i j hi hj]; rfl
theorem pairs_n {P : Nat → Bool} : ∀ n, 2 * sumN (fun i => sumN (fun j => e01 (P i && P j)) i) n = cnt P n * (cnt P n - 1)
  | 0 => rfl
  | n + 1 => by
    have ih := pairs_n (P := P) n
    have r : sumN (fun j => e01 (P n && P j)) n = if P n then cnt P n else 0 := by
      cases c : P n
      · rw [tff]
        exact (sumN_0 n).mpr fun j _ => by rw [Bool.false_and]; rfl
      · rw [ttt, cnt_sumN]
        exact sumN_congr n fun j _ => by rw [Bool.true_and]
    show 2 * (sumN (fun i => sumN (fun j => e01 (P i && P j)) i) n + sumN (fun j => e01 (P n && P j)) n) = (cnt P n + (if P n then 1 else 0)) * (cnt P n + (if P n then 1 else 0) - 1)
    rw [r]
    generalize cnt P n = k at ih ⊢
    cases P n
    · rw [tff, tff, Nat.add_zero, Nat.add_zero]; exact ih
    · rw [ttt, ttt]
      rcases k with _ | t
      · simp at ih ⊢
        omega
      · have e1 : t + 1 - 1 = t := by omega
        have e2 : t + 1 + 1 - 1 = t + 1 := by omega
        rw [e1] at ih
        rw [e2, Nat.mul_add, ih, Nat.succ_mul (t + 1) (t + 1), Nat.mul_succ (t + 1) t]
        omega
def pr2 (P : Nat → Bool) : Nat := dbl fun i j => P i && P j
theorem pr2_e {P : Nat → Bool} : pr2 P = cnt P 8 * (cnt P 8 - 1) / 2 := by
  have := pairs_n (P := P) 8
  have e : pr2 P = sumN (fun i => sumN (fun j => e01 (P i && P j)) i) 8 := rfl
  omega
theorem c_pairs {k : Nat} {h : Hp} (hk : k ≤ 8) : f_X11_pairs (nI k) h = nI (k * (k - 1) / 2) := by
  unfold f_X11_pairs
  exact (show ∀ k, k < 9 → (nI k * (nI k - 1)) / 2 = nI (k * (k - 1) / 2) by decide +kernel) k (by omega)
theorem c_pairsB {P : Nat → Bool} {h h2 : Hp} : f_X11_pairs (f_J6_bitCount_0f7a4 (orTo P 8) h) h2 = nI (pr2 P) := by
  rw [bcount8, c_pairs (cnt_le P 8), pr2_e]
section AP
variable {T : Nat → Nat → Bool} {U O : Nat → Bool} {v : Nat}
/-- others of v's piece; all but v -/
def apO (T : Nat → Nat → Bool) (U : Nat → Bool) (v : Nat) : Nat → Bool := fun k => pc T U v k && !decide (k = v)
def apU (U : Nat → Bool) (v : Nat) : Nat → Bool := fun k => U k && !decide (k = v)
def evB (T : Nat → Nat → Bool) (A : Nat → Bool) (v i j : Nat) : Bool := (!decide (i = v) && !decide (j = v)) && (!decide (j = i) && pc T A i j)
theorem apO_t {k : Nat} (h : apO T U v k = true) : pc T U v k = true ∧ k ≠ v := by
  have ⟨a, b⟩ := Bool.and_eq_true_iff.mp h
  exact ⟨a, by simpa using b⟩
theorem apO_f {k : Nat} (h : apO T U v k = false) (x : k ≠ v) : pc T U v k = false := by
  unfold apO at h
  rw [decide_eq_false x] at h
  simpa using h
theorem ev_1 {A : Nat → Bool} {i j : Nat} (hi : i ≠ v) (hj : j ≠ v) (ij : j ≠ i) : evB T A v i j = pc T A i j := by
  unfold evB
  rw [decide_eq_false hi, decide_eq_false hj, decide_eq_false ij]
  simp
theorem ev_2 {A : Nat → Bool} {i j : Nat} (h : i = v ∨ j = v) : evB T A v i j = false := by
  unfold evB
  rcases h with h | h
  · rw [decide_eq_true h]; rfl
  · rw [decide_eq_true h]; simp
theorem ap_t (ts : ∀ a b, T a b = T b a) (hv : v < 8) (i j : Nat) (hi : i < 8) (hj : j < i) : e01 (evB T U v i j) + e01 (pc T (apO T U v) i j) = e01 (apO T U v i && apO T U v j) + e01 (evB T (apU U v) v i j) := by
  have hj8 : j < 8 := by omega
  by_cases iv : i = v ∨ j = v
  · rw [ev_2 iv, ev_2 iv]
    have a : (apO T U v i && apO T U v j) = false := by
      unfold apO
      rcases iv with h | h
      · rw [decide_eq_true h]; simp
      · rw [decide_eq_true h]; simp
    have b : pc T (apO T U v) i j = false := by
      cases c : pc T (apO T U v) i j
      · rfl
      · have ⟨x, y⟩ := pc_in hj8 c
        rw [x, y] at a
        exact Bool.noConfusion a
    rw [a, b]
  · have i1 : i ≠ v := fun q => iv (Or.inl q)
    have j1 : j ≠ v := fun q => iv (Or.inr q)
    rw [ev_1 i1 j1 (by omega), ev_1 i1 j1 (by omega)]
    have mo : ∀ o, o < 8 → pc T (apU U v) i o = true → pc T U i o = true := pc_mo fun o _ x => (Bool.and_eq_true_iff.mp x).1
    cases ci : apO T U v i
    · cases cj : apO T U v j
      · have b : pc T (apO T U v) i j = false := by
          cases c : pc T (apO T U v) i j
          · rfl
          · have ⟨x, _⟩ := pc_in hj8 c
            rw [x] at cj; exact Bool.noConfusion cj
        have e : pc T U i j = pc T (apU U v) i j := by
          rw [Bool.eq_iff_iff]
          refine ⟨pc_re (fun o _ x => (Bool.and_eq_true_iff.mp x).1) (fun o ho x => ?_) j hj8, mo j hj8⟩
          refine Bool.and_eq_true_iff.mpr ⟨(pc_in ho x).1, ?_⟩
          by_cases ov : o = v
          · rw [ov] at x
            have := pc_sy ts hv hi x
            rw [apO_f ci i1] at this
            exact Bool.noConfusion this
          · rw [decide_eq_false ov]; rfl
        rw [b, e, Bool.false_and]
        exact Nat.add_comm _ _
      · have ⟨xj, _⟩ := apO_t cj
        have a : pc T U i j = false := by
          cases c : pc T U i j
          · rfl
          · have := pc_tr hj8 xj i hi (pc_sy ts hj8 hi c)
            rw [apO_f ci i1] at this
            exact Bool.noConfusion this
        have a' : pc T (apU U v) i j = false := by
          cases c : pc T (apU U v) i j
          · rfl
          · rw [mo j hj8 c] at a; exact Bool.noConfusion a
        have b : pc T (apO T U v) i j = false := by
          cases c : pc T (apO T U v) i j
          · rfl
          · have ⟨_, x⟩ := pc_in hj8 c
            rw [x] at ci; exact Bool.noConfusion ci
        rw [a, a', b, Bool.false_and]
    · have ⟨xi, _⟩ := apO_t ci
      cases cj : apO T U v j
      · have a : pc T U i j = false := by
          cases c : pc T U i j
          · rfl
          · have := pc_tr hi xi j hj8 c
            rw [apO_f cj j1] at this
            exact Bool.noConfusion this
        have a' : pc T (apU U v) i j = false := by
          cases c : pc T (apU U v) i j
          · rfl
          · rw [mo j hj8 c] at a; exact Bool.noConfusion a
        have b : pc T (apO T U v) i j = false := by
          cases c : pc T (apO T U v) i j
          · rfl
          · have ⟨x, _⟩ := pc_in hj8 c
            rw [x] at cj; exact Bool.noConfusion cj
        rw [a, a', b, Bool.and_false]
      · have ⟨xj, _⟩ := apO_t cj
        have a : pc T U i j = true := by rw [pc_eq ts hv hi xi j hj8]; exact xj
        have su : ∀ o, o < 8 → apO T U v o = true → apU U v o = true := fun o ho x => by
          have ⟨y, z⟩ := apO_t x
          exact Bool.and_eq_true_iff.mpr ⟨(pc_in ho y).1, by rw [decide_eq_false z]; rfl⟩
        have e : pc T (apO T U v) i j = pc T (apU U v) i j := by
          rw [Bool.eq_iff_iff]
          refine ⟨pc_mo su j hj8, pc_re su (fun o ho x => ?_) j hj8⟩
          refine Bool.and_eq_true_iff.mpr ⟨pc_tr hi xi o ho (mo o ho x), ?_⟩
          exact (Bool.and_eq_true_iff.mp (pc_in ho x).1).2
        rw [a, e, Bool.and_self]
theorem ap_main (ts : ∀ a b, T a b = T b a) (hv : v < 8) : dbl (evB T U v) + dbl (pc T (apO T U v)) = pr2 (apO T U v) + dbl (evB T (apU U v) v) := dbl_add (ap_t ts hv)
theorem ap_le1 : dbl (evB T (apU U v) v) ≤ dbl (evB T U v) := dbl_le fun i j hi hj x => by
  unfold evB at x ⊢
  have ⟨a, b⟩ := Bool.and_eq_true_iff.mp x
  have ⟨c, d⟩ := Bool.and_eq_true_iff.mp b
  exact Bool.and_eq_true_iff.mpr ⟨a, Bool.and_eq_true_iff.mpr ⟨c, pc_mo (fun o _ x => (Bool.and_eq_true_iff.mp x).1) j (by omega) d⟩⟩
/-! the class's way: piece by piece -/
def apF (T : Nat → Nat → Bool) (O : Nat → Bool) (i : Nat) (L : Nat → Bool) : Nat → Bool := if L i = true then (fun o => L o && !pc T O i o) else L
def apL (T : Nat → Nat → Bool) (O : Nat → Bool) (N : Nat) : Nat → Bool := fldN (apF T O) O N
def apR (T : Nat → Nat → Bool) (O L : Nat → Bool) : Nat := dbl fun i j => pc T O i j && !L i
theorem apL_s {N : Nat} : apL T O (N + 1) = if apL T O N N = true then (fun o => apL T O N o && !pc T O N o) else apL T O N := rfl
theorem apL_pc (N : Nat) : apL T O N = (pcL T O N).2 := by
  induction N with
  | zero => rfl
  | succ N ih =>
    rw [apL_s, pcL_s, ih]
    by_cases c : (pcL T O N).2 N = true
    · rw [if_pos c, if_pos c]
    · rw [if_neg c, if_neg c]
theorem apL_lo (N k : Nat) (h : k < N) : apL T O N k = false := by rw [apL_pc]; exact pcL_lo N k h
theorem apL_c (ts : ∀ a b, T a b = T b a) : ∀ N, N ≤ 8 → ∀ i j, i < 8 → j < 8 → apL T O N i = true → pc T O i j = true → apL T O N j = true
  | 0, _, i, j, _, hj, _, y => (pc_in hj y).1
  | N + 1, hN, i, j, hi, hj, x, y => by
    have ih := apL_c ts N (by omega)
    rw [apL_s] at x ⊢
    by_cases c : apL T O N N = true
    · rw [if_pos c] at x ⊢
      have ⟨x1, x2⟩ := Bool.and_eq_true_iff.mp x
      refine Bool.and_eq_true_iff.mpr ⟨ih i j hi hj x1 y, ?_⟩
      cases d : pc T O N j
      · rfl
      · rw [pc_tr hj d i hi (pc_sy ts hj hi y)] at x2
        exact Bool.noConfusion x2
    · rw [if_neg c] at x ⊢
      exact ih i j hi hj x y
theorem apR_s (ts : ∀ a b, T a b = T b a) {N : Nat} (hN : N < 8) : apR T O (apL T O (N + 1)) = if apL T O N N = true then apR T O (apL T O N) + pr2 (pc T O N) else apR T O (apL T O N) := by
  rw [apL_s]
  by_cases c : apL T O N N = true
  · rw [if_pos c, if_pos c]
    have z : dbl (fun _ _ => false) = 0 := dbl_0 fun _ _ _ _ => rfl
    have := dbl_add (A := fun i j => pc T O i j && !(apL T O N i && !pc T O N i)) (B := fun _ _ => false) (C := fun i j => pc T O i j && !apL T O N i) (D := fun i j => pc T O N i && pc T O N j) (fun i j hi hj => by
      cases d : pc T O N i
      · rw [Bool.not_false, Bool.and_true, Bool.false_and]
      · rw [apL_c ts N (by omega) N i hN hi c d, pc_eq ts hN hi d j (by omega), Bool.true_and, Bool.not_true]
        cases pc T O N j <;> rfl)
    rw [z] at this
    exact this
  · rw [if_neg c, if_neg c]
theorem apR_le (L : Nat → Bool) : apR T O L ≤ pr2 O := dbl_le fun i j hi hj x => by
  have ⟨a, b⟩ := pc_in (T := T) (A := O) (i := i) (j := j) (by omega) (Bool.and_eq_true_iff.mp x).1
  exact Bool.and_eq_true_iff.mpr ⟨b, a⟩
theorem apR_0 : apR T O O = 0 := dbl_0 fun i j hi hj => by
  cases c : pc T O i j
  · rfl
  · rw [(pc_in (by omega) c).2]; rfl
theorem apR_8 : apR T O (apL T O 8) = dbl (pc T O) := dbl_eq fun i j hi hj => by
  rw [apL_lo 8 i hi]
  exact Bool.and_true _
end AP
section AQ
variable {n m : Nat} {w : Row} {h : Hp}
theorem c_apart {O : Nat → Bool} (H : CV0 100 h n m w) (g : Gd n m w) : F_X11_apart_54 (orTo O 8) FU (nI (pr2 O)) (orTo O 8) 0 h = some (Except.ok (nI (pr2 O - dbl (pc (tS w) O))), h) := by
  have Q := loop0 (S_X11_apart_54 (orTo O 8)) (fun _ _ _ _ => none) (fun j q => q (nI (pr2 O - apR (tS w) O (apL (tS w) O j))) (orTo (apL (tS w) O j) 8) (nI j) h) 8 (some (Except.ok (nI (pr2 O - dbl (pc (tS w) O))), h)) (by omega) (fun j hj q => ?_) (fun q => ?_)
  · rw [show apL (tS w) O 0 = O from rfl, apR_0] at Q
    exact Q
  · show S_X11_apart_54 (orTo O 8) q (nI (pr2 O - apR (tS w) O (apL (tS w) O j))) (orTo (apL (tS w) O j) 8) (nI j) h = q (nI (pr2 O - apR (tS w) O (apL (tS w) O (j + 1)))) (orTo (apL (tS w) O (j + 1)) 8) (nI (j + 1)) h
    have le := apR_le (T := tS w) (O := O) (apL (tS w) O (j + 1))
    rw [apR_s tS_sy hj] at le ⊢
    rw [apL_s]
    generalize apR (tS w) O (apL (tS w) O j) = R at le ⊢
    generalize apL (tS w) O j = L at le ⊢
    unfold S_X11_apart_54
    rw [show (8 : Int32) = nI 8 from rfl, if_pos ((nI_ltI (by omega) (by omega)).mpr hj), c_pieceOf H g hj, obS, bnd_eq, bnd_eq, c_pairsB, orTo_dn (by omega), nI_1]
    by_cases d : L j = true
    · rw [if_pos d] at le
      rw [if_pos d, if_pos d, if_pos (by rw [shr_tb (by omega), tb8 hj]; exact d), zsub (by omega), Nat.sub_add_eq]
    · rw [if_neg d, if_neg d, if_neg (by rw [shr_tb (by omega), tb8 hj]; exact d)]
  · show S_X11_apart_54 (orTo O 8) q (nI (pr2 O - apR (tS w) O (apL (tS w) O 8))) (orTo (apL (tS w) O 8) 8) (nI 8) h = _
    unfold S_X11_apart_54
    rw [show (8 : Int32) = nI 8 from rfl, if_neg (by decide), apR_8]
def tmN (T : Nat → Nat → Bool) (A : Nat → Bool) (v i : Nat) : Nat := sumN (fun j => e01 (evB T A v i j)) 8
theorem m_pairsAmong {v : Nat} {A : Nat → Bool} (g : Gd n m (h 31)) (hv : v < 8) (hA : ∀ k, k < 8 → A k = true → k < n) : f_X12_pairsAmong (orTo A 8) (nI v) h = some (nI (dbl (evB (tS (h 31)) A v))) := by
  have h8 := g.1.2.1
  have tb' : ∀ i, tmN (tS (h 31)) A v i ≤ 8 := fun i => by
    have := sumN_le (f := fun j => e01 (evB (tS (h 31)) A v i j)) (B := 1) 8 fun j _ => by unfold e01; split <;> omega
    unfold tmN; omega
  have zt : ∀ i, i < 8 → A i = false → tmN (tS (h 31)) A v i = 0 := fun i hi z => (sumN_0 8).mpr fun j hj => by
    have : pc (tS (h 31)) A i j = false := by
      cases c : pc (tS (h 31)) A i j
      · rfl
      · rw [(pc_in hj c).2] at z; exact Bool.noConfusion z
    unfold evB
    rw [this]
    simp [e01]
  have en : sumN (tmN (tS (h 31)) A v) n = 2 * dbl (evB (tS (h 31)) A v) := by
    rw [← sumN_ext 8 h8 (fun k x y => zt k y (by
      cases c : A k
      · rfl
      · have := hA k y c
        omega))]
    have sy : ∀ i j, i < 8 → j < 8 → evB (tS (h 31)) A v i j = evB (tS (h 31)) A v j i := fun i j hi hj => by
      have : pc (tS (h 31)) A i j = pc (tS (h 31)) A j i := by
        rw [Bool.eq_iff_iff]
        exact ⟨pc_sy tS_sy hj hi, pc_sy tS_sy hi hj⟩
      unfold evB
      rw [this, Bool.and_comm (!decide (i = v)), show decide (j = i) = decide (i = j) from decide_eq_decide.mpr ⟨Eq.symm, Eq.symm⟩]
    have S := sumN_sy (F := fun i j => if i < 8 ∧ j < 8 then e01 (evB (tS (h 31)) A v i j) else 0) (fun i j => by
      by_cases c : i < 8 ∧ j < 8
      · rw [if_pos c, if_pos ⟨c.2, c.1⟩, sy i j c.1 c.2]
      · rw [if_neg c, if_neg (fun q => c ⟨q.2, q.1⟩)]) (fun i => by
      split
      · unfold evB; rw [decide_eq_true (rfl : i = i)]; simp [e01]
      · rfl) 8
    have a : sumN (tmN (tS (h 31)) A v) 8 = sumN (fun i => sumN (fun j => if i < 8 ∧ j < 8 then e01 (evB (tS (h 31)) A v i j) else 0) 8) 8 := sumN_congr 8 fun i hi => sumN_congr 8 fun j hj => (if_pos ⟨hi, hj⟩).symm
    have b : dbl (evB (tS (h 31)) A v) = sumN (fun i => sumN (fun j => if i < 8 ∧ j < 8 then e01 (evB (tS (h 31)) A v i j) else 0) i) 8 := sumN_congr 8 fun i hi => sumN_congr i fun j hj => (if_pos ⟨hi, by omega⟩).symm
    rw [a, b]; exact S
  have Q := loop0 (S_X12_pairsAmong_5 h (orTo A 8) (nI v)) (fun _ _ => none) (fun j q => q (nI (sumN (tmN (tS (h 31)) A v) j)) (nI j)) n (some (nI (dbl (evB (tS (h 31)) A v)))) (by omega) (fun j hj q => ?_) (fun q => ?_)
  · exact Q
  · show S_X12_pairsAmong_5 h (orTo A 8) (nI v) q (nI (sumN (tmN (tS (h 31)) A v) j)) (nI j) = q (nI (sumN (tmN (tS (h 31)) A v) j + tmN (tS (h 31)) A v j)) (nI (j + 1))
    unfold S_X12_pairsAmong_5
    rw [m_houses, itP g.1.1 hj (by omega), nI_1]
    by_cases d : j = v
    · rw [if_pos (by rw [d]), show tmN (tS (h 31)) A v j = 0 from (sumN_0 8).mpr fun k hk => by rw [ev_2 (Or.inl d)]; rfl]
      rfl
    · rw [if_neg (by rw [nI_eq (by omega) (by omega)]; exact d), m_has, hasB_tb (by omega), tb8 (by omega)]
      cases c : A j
      · rw [tff, zt j (by omega) c]; rfl
      · rw [ttt, m_pieceOf g (by omega), obS, shl_8 (by omega), shl_8 hv, orTo_dn (by omega), orTo_dn (by omega), bcount8, bnd_eq, zadd]
        congr 3
        rw [cnt_sumN]
        refine sumN_congr 8 fun k hk => ?_
        unfold evB
        rw [decide_eq_false d]
        cases pc (tS (h 31)) A j k <;> cases decide (k = j) <;> cases decide (k = v) <;> rfl
  · show S_X12_pairsAmong_5 h (orTo A 8) (nI v) q (nI (sumN (tmN (tS (h 31)) A v) n)) (nI n) = _
    have bd := sumN_le (f := tmN (tS (h 31)) A v) (B := 8) n fun j _ => tb' j
    unfold S_X12_pairsAmong_5
    rw [m_houses, itN g.1.1 (by omega), show (2 : Int32) = nI 2 from rfl, zdv (by omega) (by omega) (by omega), en]
    congr 2
    omega
end AQ
theorem sp_32 {a : Nat → Int32} {h : Hp} (I : Inv h) : ∃ h' n, St_32 a h h' n ∧ n ≤ 1 ∧ Inv h' := by
  obtain ⟨⟨n, m, N⟩, _⟩ := id I
  have g := N.1
  have h8 := g.1.2.1
  have H := N.2.1
  have cn := H.2.2.2.1.1
  rcases argI (a 1) (n := n) (by omega) with ⟨i, hi, e1⟩ | hx
  · cases hu : falB (h 31) i
    · have up : upB n (h 31) i = true := by rw [up_fal hi, hu]; rfl
      obtain ⟨h', k, s, l, J⟩ := qOk (c := f_X11_apart (a 1)) (md := f_X12_apart (a 1)) (v := nI (pr2 (apO (tS (h 31)) (upB n (h 31)) i) - dbl (pc (tS (h 31)) (apO (tS (h 31)) (upB n (h 31)) i)))) I ⟨h, by
          rw [e1]
          unfold f_X11_apart
          rw [ckH_i cn h8 hi, obS, exOk, c_isUp H h8 (by omega), up, ttt, H.2.2.2.1.2.2, c_pieceOf H g (by omega), obS, bnd_eq, shl_8 (by omega), orTo_dn (by omega), bnd_eq, c_pairsB]
          exact c_apart (O := apO (tS (h 31)) (upB n (h 31)) i) H g, KC_refl h⟩ (fun q _ qe => by
          have w := w30' qe
          refine ⟨up1 q 30 0 0, ?_, up1_same, KM_0⟩
          rw [e1]
          unfold f_X12_apart
          rw [bnd_eq, noH_i (by rw [w]; exact g.1.1) h8 hi, tIf, obS]
          dsimp only
          rw [tff, m_isF (by omega), w, hu, obS, tff, std_eq (by rw [w]; exact g.1.1) h8, obS, w, ← up_std h8, m_pairsAmong (n := n) (m := m) (by rw [w]; exact g) (by omega) (fun k _ x => upB_lt x), obS, obS, w, shl_8 (by omega), orTo_dn (by omega),
            show (fun k => upB n (h 31) k && !decide (k = i)) = apU (upB n (h 31)) i from rfl, m_pairsAmong (n := n) (m := m) (A := apU (upB n (h 31)) i) (by rw [w]; exact g) (by omega) (fun k _ x => upB_lt (Bool.and_eq_true_iff.mp x).1), obS, w, zsub ap_le1]
          have M := ap_main (T := tS (h 31)) (U := upB n (h 31)) (v := i) tS_sy (by omega)
          have L1 := ap_le1 (T := tS (h 31)) (U := upB n (h 31)) (v := i)
          have E : dbl (evB (tS (h 31)) (upB n (h 31)) i) - dbl (evB (tS (h 31)) (apU (upB n (h 31)) i) i) = pr2 (apO (tS (h 31)) (upB n (h 31)) i) - dbl (pc (tS (h 31)) (apO (tS (h 31)) (upB n (h 31)) i)) := by omega
          exact congrArg (fun v => some (nI v, up1 q 30 0 0)) E)
      exact ⟨h', k, Or.inl s, l, J⟩
    · obtain ⟨h', k, s, l, J⟩ := qOk (c := f_X11_apart (a 1)) (md := f_X12_apart (a 1)) (v := 0) I ⟨h, by
          rw [e1]
          unfold f_X11_apart
          rw [ckH_i cn h8 hi, obS, exOk, c_isUp H h8 (by omega), up_fal hi, hu]
          rfl, KC_refl h⟩ (fun q _ qe => by
          have w := w30' qe
          refine ⟨up1 q 30 0 0, ?_, up1_same, KM_0⟩
          rw [e1]
          unfold f_X12_apart
          rw [bnd_eq, noH_i (by rw [w]; exact g.1.1) h8 hi, tIf, obS]
          dsimp only
          rw [tff, m_isF (by omega), w, hu, obS, ttt])
      exact ⟨h', k, Or.inl s, l, J⟩
  · obtain ⟨h', k, s, l, J⟩ := qEr (c := f_X11_apart (a 1)) (md := f_X12_apart (a 1)) (E := "java/lang/IndexOutOfBoundsException") (t := 1) I ⟨h, by
        unfold f_X11_apart
        rw [ckH_x cn h8 hx, obS, exEr], KC_refl h⟩ (fun q _ qe => bE (by
        unfold f_X12_apart
        rw [bnd_eq, noH_x (by rw [w30' qe]; exact g.1.1) h8 hx, tIt, obS]
        rfl))
    exact ⟨h', k, Or.inr s, l, J⟩
