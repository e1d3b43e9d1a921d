/-! LAYER 4. tap -/
def mxN (f : Nat → Nat) : Nat → Nat
  | 0 => 0
  | j + 1 => max (mxN f j) (f j)
theorem mxN_le {f : Nat → Nat} {B : Nat} : ∀ n, (∀ j, j < n → f j ≤ B) → mxN f n ≤ B
  | 0, _ => Nat.zero_le B
  | n + 1, h => by
    have a := mxN_le n (fun j hj => h j (by omega))
    have b := h n (by omega)
    show max (mxN f n) (f n) ≤ B
    omega
theorem mxN_congr {f g : Nat → Nat} : ∀ n, (∀ j, j < n → f j = g j) → mxN f n = mxN g n
  | 0, _ => rfl
  | n + 1, h => by
    show max (mxN f n) (f n) = max (mxN g n) (g n)
    rw [mxN_congr n (fun j hj => h j (by omega)), h n (by omega)]
theorem nth_sum {F : Nat → Bool} {G : Nat → Nat} : ∀ N, sumN (fun j => G (nthT F N j)) (cnt F N) = sumN (fun b => if F b then G b else 0) N
  | 0 => rfl
  | N + 1 => by
    have ih := nth_sum (F := F) (G := G) N
    show _ = sumN (fun b => if F b then G b else 0) N + (if F N then G N else 0)
    rw [← ih]
    cases c : F N
    · rw [cnt_f c, tff]
      exact sumN_congr _ fun j hj => by rw [nth_f c]
    · rw [cnt_t c, ttt]
      show sumN (fun j => G (nthT F (N + 1) j)) (cnt F N) + G (nthT F (N + 1) (cnt F N)) = _
      rw [nth_t c, sumN_congr _ fun j hj => show G (nthT F (N + 1) j) = G (nthT F N j) by rw [nth_l hj]]
theorem nth_mx {F : Nat → Bool} {G : Nat → Nat} : ∀ N, mxN (fun j => G (nthT F N j)) (cnt F N) = mxN (fun b => if F b then G b else 0) N
  | 0 => rfl
  | N + 1 => by
    have ih := nth_mx (F := F) (G := G) N
    show _ = max (mxN (fun b => if F b then G b else 0) N) (if F N then G N else 0)
    rw [← ih]
    cases c : F N
    · rw [cnt_f c, tff, Nat.max_zero]
      exact mxN_congr _ fun j hj => by rw [nth_f c]
    · rw [cnt_t c, ttt]
      show max (mxN (fun j => G (nthT F (N + 1) j)) (cnt F N)) (G (nthT F (N + 1) (cnt F N))) = _
      rw [nth_t c, mxN_congr _ fun j hj => show G (nthT F (N + 1) j) = G (nthT F N j) by rw [nth_l hj]]
/-- how many of those that fit agree with one in a house's PRESS; the most -/
def alN (F : Nat → Bool) (V : Nat → Int32) (a : Nat) : Nat := sumN (fun b => e01 (F b && decide (V a = V b))) 65
def gpN (F : Nat → Bool) (V : Nat → Int32) : Nat := mxN (fun a => if F a then alN F V a else 0) 65
theorem al_65 {F : Nat → Bool} {V : Nat → Int32} (a : Nat) : alN F V a ≤ 65 := by
  have := sumN_le (f := fun b => e01 (F b && decide (V a = V b))) (B := 1) 65 fun j _ => by unfold e01; split <;> omega
  unfold alN; omega
theorem gp_65 {F : Nat → Bool} {V : Nat → Int32} : gpN F V ≤ 65 := mxN_le 65 fun a _ => by
  split
  · exact al_65 a
  · omega
theorem c_pressOf {u : Hp} {c i : Nat} (hc : c < 65) (hi : i < 8) : f_X0_pressOf (nI c) (nI i) u = some (u 25 (8 * c + i)) := by
  unfold f_X0_pressOf
  rw [bnd_eq, ix64, if_neg (nI_pos (by omega)), if_pos (show nI (8 * c + i) < 520 from (nI_ltI (b := 520) (by omega) (by omega)).mpr (by omega)), gdT (nI_ix (by omega) (by omega)), nI_clamp (by omega)]
theorem c_greatestPart {n J i : Nat} {u : Hp} {w : Row} {b : Nat → Nat} (B : BC n w b J 65 u) (hi : i < 8) : f_X0_greatestPart (nI i) u = some (nI (gpN (ftB n w b J) (fun l => prB n w l i))) := by
  obtain ⟨F, hF⟩ : ∃ F, ftB n w b J = F := ⟨_, rfl⟩
  obtain ⟨V, hV⟩ : ∃ V : Nat → Int32, (fun l => prB n w l i) = V := ⟨_, rfl⟩
  have b1 : u 23 1 = nI (cnt F 65) := by rw [← hF]; exact B.1
  have bV : ∀ j, j < cnt F 65 → u 25 (8 * j + i) = V (nthT F 65 j) := fun j hj => by
    rw [← hV, ← hF]
    exact (B.2.2.2 j (by rw [hF]; exact hj)).2 i hi
  rw [hF, hV]
  have b65 := cnt_le F 65
  have al : ∀ a, alN F V a = sumN (fun j => e01 (decide (V a = V (nthT F 65 j)))) (cnt F 65) := fun a => by
    rw [nth_sum (F := F) (G := fun b => e01 (decide (V a = V b))) 65]
    exact sumN_congr 65 fun b _ => by
      cases F b
      · rfl
      · rw [Bool.true_and, ttt]
  have gp : gpN F V = mxN (fun j => alN F V (nthT F 65 j)) (cnt F 65) := (nth_mx (F := F) (G := alN F V) 65).symm
  rw [gp]
  have Q := loop0 (S_X0_greatestPart_4 u (nI i)) (fun _ _ => none) (fun j q => q (nI (mxN (fun j => alN F V (nthT F 65 j)) j)) (nI j)) (cnt F 65) (some (nI (mxN (fun j => alN F V (nthT F 65 j)) (cnt F 65)))) (by omega) (fun j hj q => ?_) (fun q => ?_)
  · exact Q
  · show S_X0_greatestPart_4 u (nI i) q (nI (mxN (fun j => alN F V (nthT F 65 j)) j)) (nI j) = q (nI (max (mxN (fun j => alN F V (nthT F 65 j)) j) (alN F V (nthT F 65 j)))) (nI (j + 1))
    have mb : mxN (fun j => alN F V (nthT F 65 j)) j ≤ 65 := mxN_le j fun k _ => al_65 _
    generalize mxN (fun j => alN F V (nthT F 65 j)) j = X at mb ⊢
    have Q2 := loop0 (S_X0_greatestPart_18 q u (nI i) (nI X) (nI j)) (fun _ _ => none) (fun k r => r (nI (sumN (fun k => e01 (decide (V (nthT F 65 j) = V (nthT F 65 k)))) k)) (nI k)) (cnt F 65) (q (nI (max X (alN F V (nthT F 65 j)))) (nI (j + 1))) (by omega) (fun k hk r => ?_) (fun r => ?_)
    · unfold S_X0_greatestPart_4
      rw [b1, if_pos ((nI_ltI (by omega) (by omega)).mpr hj)]
      exact Q2
    · show S_X0_greatestPart_18 q u (nI i) (nI X) (nI j) r (nI (sumN (fun k => e01 (decide (V (nthT F 65 j) = V (nthT F 65 k)))) k)) (nI k) = r (nI (sumN (fun k => e01 (decide (V (nthT F 65 j) = V (nthT F 65 k)))) k + e01 (decide (V (nthT F 65 j) = V (nthT F 65 k))))) (nI (k + 1))
      unfold S_X0_greatestPart_18 F_X0_greatestPart_50
      rw [b1, if_pos ((nI_ltI (by omega) (by omega)).mpr hk), c_pressOf (by omega) hi, obS, c_pressOf (by omega) hi, obS, bV j hj, bV k hk, nI_1, nI_1, Int32.add_zero]
      by_cases d : V (nthT F 65 j) = V (nthT F 65 k)
      · rw [if_pos d, decide_eq_true d]; rfl
      · rw [if_neg d, decide_eq_false d]; rfl
    · show S_X0_greatestPart_18 q u (nI i) (nI X) (nI j) r (nI (sumN (fun k => e01 (decide (V (nthT F 65 j) = V (nthT F 65 k)))) (cnt F 65))) (nI (cnt F 65)) = _
      have a65 := al_65 (F := F) (V := V) (nthT F 65 j)
      unfold S_X0_greatestPart_18
      rw [b1, if_neg (fun z => absurd ((nI_ltI (by omega) (by omega)).mp z) (Nat.lt_irrefl _)), ← al, bnd_eq, zmax (by omega) (by omega), nI_1]
  · show S_X0_greatestPart_4 u (nI i) q (nI (mxN (fun j => alN F V (nthT F 65 j)) (cnt F 65))) (nI (cnt F 65)) = _
    unfold S_X0_greatestPart_4
    rw [b1, if_neg (fun z => absurd ((nI_ltI (by omega) (by omega)).mp z) (Nat.lt_irrefl _))]
def tpF (n : Nat) (w : Row) (P : Nat → Nat) (i : Nat) (s : Int32 × Nat) : Int32 × Nat := if upB n w i then (if P i < s.2 then (nI i, P i) else s) else s
def tpW (n : Nat) (w : Row) (P : Nat → Nat) (N : Nat) : Int32 × Nat := fldN (tpF n w P) (-1, 66) N
theorem tp_in {n : Nat} {w : Row} {P : Nat → Nat} (hP : ∀ i, P i ≤ 65) : ∀ N, N ≤ 8 → ((tpW n w P N).1 = -1 ∧ (tpW n w P N).2 = 66) ∨ (∃ k, k < 8 ∧ (tpW n w P N).1 = nI k ∧ (tpW n w P N).2 ≤ 65)
  | 0, _ => Or.inl ⟨rfl, rfl⟩
  | N + 1, h => by
    have ih := tp_in (n := n) (w := w) hP N (by omega)
    have e : tpW n w P (N + 1) = tpF n w P N (tpW n w P N) := rfl
    rw [e]
    unfold tpF
    by_cases u : upB n w N = true
    · rw [if_pos u]
      by_cases c : P N < (tpW n w P N).2
      · rw [if_pos c]
        exact Or.inr ⟨N, by omega, rfl, hP N⟩
      · rw [if_neg c]; exact ih
    · rw [if_neg u]; exact ih
theorem tp_n {n : Nat} {w : Row} {P : Nat → Nat} (h8 : n ≤ 8) : tpW n w P 8 = tpW n w P n := fldN_ext 8 h8 fun k x c _ => by unfold tpF; rw [upB_hi c, tff]
theorem c_bestTap {n J : Nat} {u : Hp} {w : Row} {b : Nat → Nat} (B : BC n w b J 65 u) (h8 : n ≤ 8) : f_X0_bestTap (orTo (upB n w) 8) u = some (tpW n w (fun i => gpN (ftB n w b J) (fun l => prB n w l i)) n).1 := by
  obtain ⟨P, hP⟩ : ∃ P : Nat → Nat, (fun i => gpN (ftB n w b J) (fun l => prB n w l i)) = P := ⟨_, rfl⟩
  have gP : ∀ i, i < 8 → f_X0_greatestPart (nI i) u = some (nI (P i)) := fun i hi => by rw [← hP]; exact c_greatestPart B hi
  have P65 : ∀ i, P i ≤ 65 := fun i => by rw [← hP]; exact gp_65
  rw [hP]
  have Q := loop0 (S_X0_bestTap_8 u (orTo (upB n w) 8)) (fun _ _ _ => none) (fun j q => q (tpW n w P j).1 (nI (tpW n w P j).2) (nI j)) 8 (some (tpW n w P n).1) (by omega) (fun j hj q => ?_) (fun q => ?_)
  · exact Q
  · show S_X0_bestTap_8 u (orTo (upB n w) 8) q (tpW n w P j).1 (nI (tpW n w P j).2) (nI j) = q (tpF n w P j (tpW n w P j)).1 (nI (tpF n w P j (tpW n w P j)).2) (nI (j + 1))
    have s66 : (tpW n w P j).2 ≤ 66 := by
      rcases tp_in (n := n) (w := w) P65 j (by omega) with x | ⟨_, _, _, x⟩ <;> omega
    have := P65 j
    unfold S_X0_bestTap_8 F_X0_bestTap_35 tpF
    rw [if_pos (show nI j < 8 from (nI_ltI (b := 8) (by omega) (by omega)).mpr hj), gP j hj, obS, nI_1]
    cases hu : upB n w j
    · rw [if_neg (by rw [shr_tb (by omega), tb8 hj, hu]; exact fun z => Bool.noConfusion z), if_neg Int32.lt_irrefl, tff]
    · rw [if_pos (by rw [shr_tb (by omega), tb8 hj, hu]), ttt]
      by_cases d : P j < (tpW n w P j).2
      · rw [if_pos d, if_pos ((nI_ltI (by omega) (by omega)).mpr d)]
      · rw [if_neg d, if_neg (fun z => d ((nI_ltI (by omega) (by omega)).mp z))]
  · show S_X0_bestTap_8 u (orTo (upB n w) 8) q (tpW n w P 8).1 (nI (tpW n w P 8).2) (nI 8) = _
    unfold S_X0_bestTap_8
    rw [if_neg (show ¬ nI 8 < 8 by decide), tp_n h8]
/-! the model -/
theorem m_partBy {i : Nat} {u : Hp} {F : Nat → Bool} {V : Nat → Int32} (hi : i < 8) (hF : ∀ l, l ≤ 64 → f_X12_fits (nI l) u = some (F l)) (hV : ∀ l, l ≤ 64 → F l = true → u 44 (8 * l + i) = V l) :
    f_X12_partBy (nI i) u = some (nI (gpN F V)) := by
  have n64 : ∀ a, a ≤ 64 → ¬ (64 : Int32) < nI a := fun a ha z => absurd ((nI_ltI (a := 64) (by omega) (by omega)).mp z) (by omega)
  have Q := loop0 (S_X12_partBy_4 u (nI i)) (fun _ _ => none) (fun j q => q (nI (mxN (fun a => if F a then alN F V a else 0) j)) (nI j)) 65 (some (nI (gpN F V))) (by omega) (fun j hj q => ?_) (fun q => ?_)
  · exact Q
  · show S_X12_partBy_4 u (nI i) q (nI (mxN (fun a => if F a then alN F V a else 0) j)) (nI j) = q (nI (max (mxN (fun a => if F a then alN F V a else 0) j) (if F j then alN F V j else 0))) (nI (j + 1))
    have mb : mxN (fun a => if F a then alN F V a else 0) j ≤ 65 := mxN_le j fun k _ => by
      split
      · exact al_65 _
      · omega
    generalize mxN (fun a => if F a then alN F V a else 0) j = X at mb ⊢
    unfold S_X12_partBy_4
    rw [if_neg (n64 j (by omega)), hF j (by omega), obS]
    cases c : F j
    · rw [tff, tff, Nat.max_zero, nI_1]
    · rw [ttt, ttt]
      have Q2 := loop0 (S_X12_partBy_27 q u (nI i) (nI X) (nI j)) (fun _ _ => none) (fun k r => r (nI (sumN (fun k => e01 (F k && decide (V j = V k))) k)) (nI k)) 65 (q (nI (max X (alN F V j))) (nI (j + 1))) (by omega) (fun k hk r => ?_) (fun r => ?_)
      · exact Q2
      · show S_X12_partBy_27 q u (nI i) (nI X) (nI j) r (nI (sumN (fun k => e01 (F k && decide (V j = V k))) k)) (nI k) = r (nI (sumN (fun k => e01 (F k && decide (V j = V k))) k + e01 (F k && decide (V j = V k)))) (nI (k + 1))
        unfold S_X12_partBy_27 F_X12_partBy_76
        rw [if_neg (n64 k (by omega)), hF k (by omega), obS, nI_1, nI_1, Int32.add_zero]
        cases d : F k
        · rw [tff, Bool.false_and]; rfl
        · rw [ttt, show (8 : Int32) = nI 8 from rfl, zmul, zadd, zmul, zadd, gdT (nI_ix (by omega) (by omega)), gdT (nI_ix (by omega) (by omega)), nI_clamp (by omega), nI_clamp (by omega), hV j (by omega) c, hV k (by omega) d, Bool.true_and]
          by_cases f : V j = V k
          · rw [if_pos f, decide_eq_true f]; rfl
          · rw [if_neg f, decide_eq_false f]; rfl
      · show S_X12_partBy_27 q u (nI i) (nI X) (nI j) r (nI (alN F V j)) (nI 65) = _
        have a65 := al_65 (F := F) (V := V) j
        unfold S_X12_partBy_27
        rw [if_pos (show (64 : Int32) < nI 65 by decide), bnd_eq, zmax (by omega) (by omega), nI_1]
  · show S_X12_partBy_4 u (nI i) q (nI (gpN F V)) (nI 65) = _
    unfold S_X12_partBy_4
    rw [if_pos (show (64 : Int32) < nI 65 by decide)]
theorem m_tap71 {n m c : Nat} {u : Hp} {w : Row} {P : Nat → Nat} (g : Gd n m w) (e31 : u 31 = w) (hc : c ≤ 65) (P65 : ∀ i, P i ≤ 65) (hP : ∀ i, i < 8 → f_X12_partBy (nI i) u = some (nI (P i))) :
    F_X12_tap_71 (nI c) FU (-1) 1000000 0 u = some (if c < 2 then -1 else (tpW n w P n).1, u) := by
  have h8 := g.1.2.1
  by_cases c2 : c < 2
  · have Q := loopV (S_X12_tap_71 (nI c)) (fun _ _ _ _ => none) (fun q (_ : Unit) => q (-1) 1000000 0 u) 1 (fun _ _ => True)
      (fun r => r = some (-1, u)) (by omega) (fun j s hj hs => ?_) (fun s hs => ?_) () trivial
    · rw [if_pos c2]
      exact Q
    · refine Or.inr ⟨_, rfl, fun q => ?_⟩
      show S_X12_tap_71 (nI c) q (-1) 1000000 0 u = _
      unfold S_X12_tap_71
      rw [if_neg (show ¬ 1 < nI c from fun z => absurd ((nI_ltI (a := 1) (by omega) (by omega)).mp z) (by omega)), ite_self]
    · refine ⟨_, rfl, fun q => ?_⟩
      show S_X12_tap_71 (nI c) q (-1) 1000000 0 u = _
      unfold S_X12_tap_71
      rw [if_neg (show ¬ 1 < nI c from fun z => absurd ((nI_ltI (a := 1) (by omega) (by omega)).mp z) (by omega)), ite_self]
  · rw [if_neg c2]
    have l1 : 1 < nI c := (nI_ltI (a := 1) (by omega) (by omega)).mpr (by omega)
    have Q := loop0 (S_X12_tap_71 (nI c)) (fun _ _ _ _ => none) (fun j q => q (tpW n w P j).1 (if (tpW n w P j).1 = -1 then 1000000 else nI (tpW n w P j).2) (nI j) u) n (some ((tpW n w P n).1, u)) (by omega) (fun j hj q => ?_) (fun q => ?_)
    · exact Q
    · show S_X12_tap_71 (nI c) q (tpW n w P j).1 (if (tpW n w P j).1 = -1 then 1000000 else nI (tpW n w P j).2) (nI j) u = q (tpF n w P j (tpW n w P j)).1 (if (tpF n w P j (tpW n w P j)).1 = -1 then 1000000 else nI (tpF n w P j (tpW n w P j)).2) (nI (j + 1)) u
      have I := tp_in (n := n) (w := w) P65 j (by omega)
      have pj := P65 j
      generalize tpW n w P j = s at I ⊢
      have M : (1000000 : Int32) = nI 1000000 := rfl
      unfold S_X12_tap_71 F_X12_tap_106 F_X12_tap_120 tpF
      rw [m_houses, e31, itP g.1.1 hj (by omega), if_pos l1, m_isF (by omega), e31, obS, hP j (by omega), obS, bnd_eq, bnd_eq, nI_1, up_fal hj]
      cases hu : falB w j
      · rw [tff, Bool.not_false, ttt]
        have pe : ¬ nI j = -1 := fun z => by
          have := zem (a := j) (by omega)
          rw [z] at this
          exact (this.mp rfl)
        rcases I with ⟨a1, a2⟩ | ⟨k, k8, a1, a2⟩
        · rw [if_pos a1, a2, if_pos (show nI (P j) < 1000000 from (nI_ltI (b := 1000000) (by omega) (by omega)).mpr (by omega)), if_pos (show P j < 66 by omega), if_neg (show ¬ (nI j, P j).1 = -1 from pe), M, zmin (by omega) (by omega)]
          rw [show min 1000000 (P j) = P j by omega]
          rfl
        · have ke : ¬ s.1 = -1 := fun z => by
            have := zem (a := k) (by omega)
            rw [← a1, z] at this
            exact (this.mp rfl)
          rw [if_neg ke]
          by_cases d : P j < s.2
          · rw [if_pos ((nI_ltI (by omega) (by omega)).mpr d), if_pos d, if_neg (show ¬ (nI j, P j).1 = -1 from pe), zmin (by omega) (by omega), show min s.2 (P j) = P j by omega]
            rfl
          · rw [if_neg (fun z => d ((nI_ltI (by omega) (by omega)).mp z)), if_neg d, if_neg ke, zmin (by omega) (by omega), show min s.2 (P j) = s.2 by omega]
            rfl
      · rw [ttt, Bool.not_true, tff]
        rcases I with ⟨a1, a2⟩ | ⟨k, k8, a1, a2⟩
        · rw [if_pos a1, if_neg Int32.lt_irrefl]
          rfl
        · have ke : ¬ s.1 = -1 := fun z => by
            have := zem (a := k) (by omega)
            rw [← a1, z] at this
            exact (this.mp rfl)
          rw [if_neg ke, M, if_neg (fun z => absurd ((nI_ltI (by omega) (by omega)).mp z) (by omega)), zmin (by omega) (by omega), show min s.2 1000000 = s.2 by omega]
    · show S_X12_tap_71 (nI c) q (tpW n w P n).1 (if (tpW n w P n).1 = -1 then 1000000 else nI (tpW n w P n).2) (nI n) u = _
      unfold S_X12_tap_71
      rw [m_houses, e31, itN g.1.1 (by omega)]
theorem m_tap34 {u : Hp} {F : Nat → Bool} (hF : ∀ l, l ≤ 64 → f_X12_fits (nI l) u = some (F l)) : F_X12_tap_34 FU 0 0 u = F_X12_tap_71 (nI (cnt F 65)) FU (-1) 1000000 0 u := by
  have Q := loop0 S_X12_tap_34 (fun _ _ _ => none) (fun j q => q (nI (cnt F j)) (nI j) u) 65 (F_X12_tap_71 (nI (cnt F 65)) FU (-1) 1000000 0 u) (by omega) (fun j hj q => ?_) (fun q => ?_)
  · exact Q
  · show S_X12_tap_34 q (nI (cnt F j)) (nI j) u = q (nI (cnt F (j + 1))) (nI (j + 1)) u
    unfold S_X12_tap_34 F_X12_tap_54
    rw [if_neg (show ¬ (64 : Int32) < nI j from fun z => absurd ((nI_ltI (a := 64) (by omega) (by omega)).mp z) (by omega)), hF j (by omega), obS, nI_1, nI_1, Int32.add_zero]
    cases c : F j
    · rw [tff, cnt_f c]
    · rw [ttt, cnt_t c]
  · show S_X12_tap_34 q (nI (cnt F 65)) (nI 65) u = _
    unfold S_X12_tap_34
    rw [if_pos (show (64 : Int32) < nI 65 by decide)]
theorem sp_26 {a : Nat → Int32} {h : Hp} (I : Inv h) : ∃ h' n, St_26 a h h' n ∧ n ≤ 1 ∧ Inv h' := by
  obtain ⟨⟨n, m, N⟩, _⟩ := id I
  obtain ⟨L, hL, t2, t3, tb'⟩ := TP_b I
  have G := N.1
  have h8 := G.1.2.1
  have hc : ∀ i, i < L → btN h i < 256 ∧ h 3 i = nI (btN h i) := fun i hi => ⟨(tb' i hi).1, (tb' i hi).2.1⟩
  have hm : ∀ g : Hp, (∀ k, 27 ≤ k → k ≤ 46 → g k = h k) → ∀ i, i < L → btN h i < 256 ∧ g 38 i = byS (btN h i) := fun g ge i hi => ⟨(tb' i hi).1, by rw [ge 38 (by omega) (by omega)]; exact (tb' i hi).2.2⟩
  have bad : f_X11_collectBreaks h = some (Except.error "java/lang/IllegalArgumentException", up1 h 2 1 0) → ((40 < L ∨ L % 2 = 1) ∨ ∃ J, L = 2 * J ∧ J ≤ 20 ∧ feB (btN h) n J = false) → ∃ h' n, St_26 a h h' n ∧ n ≤ 1 ∧ Inv h' := by
    intro ce x
    obtain ⟨h', k, s, l, J⟩ := qErT (c := f_X11_tap) (md := f_X12_tap) (E := "java/lang/IllegalArgumentException") (t := 1) I ⟨_, by unfold f_X11_tap; rw [ce, obS, exEr], KC_refl _⟩ (fun g ge => by
      refine ⟨0, up1 (usM g) 30 0 1, ?_, up1_same, usT⟩
      unfold f_X12_tap F_X12_tap_17
      rw [m_uses, obS, m_collX G (ge 31 (by omega) (by omega)) hL (by rw [ge 30 (by omega) (by omega)]; exact t3) (hm g ge) x, obS, tff, tI1, obS]
      rfl)
    exact ⟨h', k, Or.inr s, l, J⟩
  rcases lenP L with x | ⟨J, rfl, hJ⟩
  · exact bad (c_collX t2 hL x) (Or.inl x)
  · have cb := c_collB N hJ t2 hc
    cases f : feB (btN h) n J
    · rw [f, tff] at cb
      exact bad cb (Or.inr ⟨J, rfl, hJ, f⟩)
    · rw [f, ttt] at cb
      obtain ⟨u, ce, B, K⟩ := cb
      have b65 := cnt_le (ftB n (h 31) (btN h) J) 65
      obtain ⟨h', k, s, l, J⟩ := qOkT (c := f_X11_tap) (md := f_X12_tap) (v := if cnt (ftB n (h 31) (btN h) J) 65 < 2 then -1 else (tpW n (h 31) (fun i => gpN (ftB n (h 31) (btN h) J) (fun l => prB n (h 31) l i)) n).1) I ⟨u, by
        unfold f_X11_tap
        rw [ce, obS, exOk, B.1]
        by_cases z : cnt (ftB n (h 31) (btN h) J) 65 < 2
        · rw [if_pos z, if_pos (show nI _ < 2 from (nI_ltI (b := 2) (by omega) (by omega)).mpr z)]
        · rw [if_neg z, if_neg (show ¬ nI _ < 2 from fun y => z ((nI_ltI (b := 2) (by omega) (by omega)).mp y)), show u 100 11 = orTo (upB n (h 31)) 8 by rw [K 100 (by omega), up1_ob (by decide)]; exact N.2.1.2.2.2.1.2.2, c_bestTap B h8, obS], K⟩ (fun g ge => by
        obtain ⟨e1, v, e2, e3, K3, z3, v31⟩ := m_collB G (ge 31 (by omega) (by omega)) hJ (by rw [ge 30 (by omega) (by omega)]; exact t3) (hm g ge) f
        refine ⟨v, ?_, z3, K3⟩
        obtain ⟨v', e2', M, _⟩ := m_laysBroken (h := usM g) (w := h 31) G.1.1 h8 (by rw [us_ob (by decide), ge 31 (by omega) (by omega)])
        obtain rfl : v' = v := Option.some.inj (e2'.symm.trans e2)
        unfold f_X12_tap F_X12_tap_17
        rw [m_uses, obS, e1, obS, ttt, tI0, obS]
        dsimp only
        rw [tff, e2, obS, m_tap34 e3, m_tap71 G v31 b65 (fun i => gp_65) (fun i hi => m_partBy (V := fun l => prB n (h 31) l i) hi e3 (fun l hl y => (M l (by omega)).2 (Bool.and_eq_true_iff.mp y).1 i hi))])
      exact ⟨h', k, Or.inl s, l, J⟩
