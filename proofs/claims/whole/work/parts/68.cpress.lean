/-! LAYER 4. The class's Strain: parts, PRESS -/
section CS
variable {c : Nat} {h : Hp} {n m : Nat} {w : Row}
theorem pt_z {i o : Nat} (g : Gd n m w) (hi : i < 8) (ho : o < 8) (hz : n ≤ i ∨ n ≤ o) : ptR w i o = 0 :=
  (g.2.2.1 i o hi ho).2 (by
    unfold upB
    rcases hz with q | q
    · exact Or.inl (by rw [decide_eq_false (by omega)]; rfl)
    · exact Or.inr (Or.inl (by rw [decide_eq_false (by omega)]; rfl)))
theorem sumTo_ext {f : Nat → Int32} {n : Nat} : ∀ N, n ≤ N → (∀ j, n ≤ j → j < N → f j = 0) → sumTo f N = sumTo f n
  | 0, h, _ => by rw [show n = 0 from by omega]
  | N + 1, h, z => by
    by_cases d : n = N + 1
    · rw [d]
    · show sumTo f N + f N = _
      rw [z N (by omega) (by omega), Int32.add_zero, sumTo_ext N (by omega) (fun j a b => z j a (by omega))]
theorem sumTo_z {f : Nat → Int32} (N : Nat) (z : ∀ j, j < N → f j = 0) : sumTo f N = 0 :=
  (sumTo_ext (n := 0) N (Nat.zero_le N) (fun j _ b => z j b)).trans rfl
theorem ps_8 {i : Nat} (g : Gd n m w) (hi : i < 8) : sumTo (ptR w i) 8 = psW n w i :=
  sumTo_ext 8 g.1.2.1 fun j a b => pt_z g hi b (Or.inr a)
theorem ps_z {i : Nat} (g : Gd n m w) (hi : i < 8) (hz : n ≤ i) : psW n w i = 0 :=
  sumTo_z n fun j hj => pt_z g hi (by have := g.1.2.1; omega) (Or.inl hz)
theorem anyTo_ext {f : Nat → Bool} {n : Nat} : ∀ N, n ≤ N → (∀ j, n ≤ j → j < N → f j = false) → anyTo f N = anyTo f n
  | 0, h, _ => by rw [show n = 0 from by omega]
  | N + 1, h, z => by
    by_cases d : n = N + 1
    · rw [d]
    · show (anyTo f N || f N) = _
      rw [z N (by omega) (by omega), Bool.or_false, anyTo_ext N (by omega) (fun j a b => z j a (by omega))]
theorem c_pt {i o : Nat} (H : CV0 c h n m w) (hi : i < 8) (ho : o < 8) : h (c + 5) (8 * i + o) = ptR w i o := by
  rw [H.2.1 (8 * i + o) (by omega)]; unfold ptR; rw [Nat.add_assoc]
theorem c_cp18 {i : Nat} {g0 : Hp} (H : CV0 c h n m w) (hc : 100 ≤ c) (hi : i < 8) (hg0 : g0 (c + 5) = h (c + 5)) :
    ∃ g1, (∀ q7 : Int32 → Hp → Option Hp, F_X9_countParts_18 q7 c (nI i) FU 0 0 g0 = q7 (nI (i + 1)) g1) ∧ g1 12 = upd (g0 12) i (sumTo (ptR w i) 8) ∧ (∀ k, k < 32 → tb (g1 5 9) k = (tb (g0 5 9) k || (decide (k < 8) && decide (0 < ptR w i k)))) ∧ ∀ k, k ≠ 5 → k ≠ 12 → g1 k = g0 k := by
  have Q := loopQ (fun q7 n => F_X9_countParts_18 q7 c (nI i) n) (fun q7 => S_X9_countParts_18 q7 c (nI i)) (fun _ _ => rfl) (fun q (s : Nat × Hp) => q (sumTo (ptR w i) s.1) (nI s.1) s.2) 8
      (fun j s => s.1 = j ∧ (∀ k, k ≠ 5 → s.2 k = g0 k) ∧ (∀ k, k < 32 → tb (s.2 5 9) k = (tb (g0 5 9) k || (decide (k < j) && decide (0 < ptR w i k)))))
      (fun r => ∃ g1, (∀ q7, r q7 = q7 (nI (i + 1)) g1) ∧ g1 12 = upd (g0 12) i (sumTo (ptR w i) 8) ∧ (∀ k, k < 32 → tb (g1 5 9) k = (tb (g0 5 9) k || (decide (k < 8) && decide (0 < ptR w i k)))) ∧ ∀ k, k ≠ 5 → k ≠ 12 → g1 k = g0 k) (by omega)
      (fun j s hj hs => by
        obtain ⟨j', u⟩ := s
        dsimp only at hs
        obtain ⟨rfl, hf, ht⟩ := hs
        have rd : u (c + 5) (8 * i + j') = ptR w i j' := by rw [hf _ (by omega), hg0]; exact c_pt H hi hj
        refine Or.inl ⟨(j' + 1, up1 u 5 9 (u 5 9 ||| (if 0 < ptR w i j' then shl 1 (nI j') else 0))), ⟨rfl, fun k hk => ?_, fun k hk => ?_⟩, fun q7 q => ?_⟩
        · exact (up1_ob hk).trans (hf k hk)
        · have e1 := ht k hk
          dsimp only
          show tb (up1 u 5 9 _ 5 9) k = (tb (g0 5 9) k || (decide (k < j' + 1) && decide (0 < ptR w i k)))
          rw [up1_same, tb_or, e1]
          by_cases d : k = j'
          · subst d
            rw [decide_eq_false (Nat.lt_irrefl k), decide_eq_true (Nat.lt_succ_self k), Bool.false_and, Bool.or_false, Bool.true_and]
            congr 1
            by_cases z : 0 < ptR w i k
            · rw [if_pos z, tb_s1 (by omega) hk, decide_eq_true rfl, decide_eq_true z]
            · rw [if_neg z, tb_0, decide_eq_false z]
          · rw [show decide (k < j' + 1) = decide (k < j') from decide_eq_decide.mpr (by omega)]
            have : tb (if 0 < ptR w i j' then shl 1 (nI j') else 0) k = false := by
              split
              · rw [tb_s1 (by omega) hk, decide_eq_false d]
              · exact tb_0 k
            rw [this, Bool.or_false]
        · show S_X9_countParts_18 q7 c (nI i) q (sumTo (ptR w i) j') (nI j') u = q (sumTo (ptR w i) j' + ptR w i j') (nI (j' + 1)) _
          unfold S_X9_countParts_18 F_X9_countParts_62
          simp (disch := omega) only [zl8, if_pos, ix64, zgd, zcl, rd, ↓zbn, zsuc]
          split <;> rfl)
      (fun s hs => by
        obtain ⟨j', u⟩ := s
        dsimp only at hs
        obtain ⟨rfl, hf, ht⟩ := hs
        refine ⟨fun q7 => q7 (nI (i + 1)) (up1 u 12 i (sumTo (ptR w i) 8)), ⟨up1 u 12 i (sumTo (ptR w i) 8), fun _ => rfl, ?_, fun k hk => ?_, fun k a b => ?_⟩, fun q7 q => ?_⟩
        · rw [up1_at, hf 12 (by decide)]
        · rw [up1_ob (by decide)]; exact ht k hk
        · rw [up1_ob b]; exact hf k a
        · show S_X9_countParts_18 q7 c (nI i) q (sumTo (ptR w i) 8) (nI 8) u = _
          unfold S_X9_countParts_18
          simp (disch := omega) only [zl8, if_neg, zgd, zcl, ↓zbn, zsuc])
      (0, g0) ⟨rfl, fun _ _ => rfl, fun k _ => by rw [decide_eq_false (Nat.not_lt_zero k), Bool.false_and, Bool.or_false]⟩
  obtain ⟨g1, e, a, b, d⟩ := Q
  exact ⟨g1, fun q7 => e q7, a, b, d⟩
theorem c_countParts (H : CV0 c h n m w) (hc : 100 ≤ c) (g : Gd n m w) :
    ∃ h', f_X9_countParts c h = some h' ∧ (∀ i, i < 8 → h' 12 i = psW n w i) ∧ (∀ k, k < 8 → tb (h' 5 9) k = anyTo (fun o => decide (0 < ptR w o k)) n) ∧ ∀ k, k ≠ 5 → k ≠ 12 → h' k = h k := by
  have h8 := g.1.2.1
  have Q := loopW (S_X9_countParts_7 c) (fun _ _ => none) (fun q (s : Nat × Hp) => q (nI s.1) s.2) 8
    (fun j s => s.1 = j ∧ (∀ k, k ≠ 5 → k ≠ 12 → s.2 k = h k) ∧ (∀ i, i < j → s.2 12 i = psW n w i) ∧ (∀ k, k < 8 → tb (s.2 5 9) k = anyTo (fun o => decide (0 < ptR w o k)) j))
    (fun r => ∃ h', r = some h' ∧ (∀ i, i < 8 → h' 12 i = psW n w i) ∧ (∀ k, k < 8 → tb (h' 5 9) k = anyTo (fun o => decide (0 < ptR w o k)) n) ∧ ∀ k, k ≠ 5 → k ≠ 12 → h' k = h k) (by omega)
    (fun j s hj hs => by
      obtain ⟨j', u⟩ := s
      dsimp only at hs
      obtain ⟨rfl, hf, h12, ht⟩ := hs
      obtain ⟨g1, e, e12, e5, ef⟩ := c_cp18 (g0 := u) H hc hj (hf _ (by omega) (by omega))
      refine ⟨(j' + 1, g1), ⟨rfl, fun k a b => (ef k a b).trans (hf k a b), fun i hi => ?_, fun k hk => ?_⟩, fun q => ?_⟩
      · show g1 12 i = _
        rw [e12]
        unfold upd
        by_cases d : i = j'
        · rw [if_pos d, d, ps_8 g hj]
        · rw [if_neg d]; exact h12 i (by have : i < j' + 1 := hi; omega)
      · show tb (g1 5 9) k = (anyTo _ j' || _)
        rw [e5 k (by omega), ht k hk, decide_eq_true hk, Bool.true_and]
      · show S_X9_countParts_7 c q (nI j') u = q (nI (j' + 1)) g1
        unfold S_X9_countParts_7
        simp (disch := omega) only [zl8, if_pos]
        exact e q)
    (fun s hs => by
      obtain ⟨j', u⟩ := s
      dsimp only at hs
      obtain ⟨rfl, hf, h12, ht⟩ := hs
      refine ⟨_, ⟨u, rfl, h12, fun k hk => ?_, hf⟩, fun q => ?_⟩
      · rw [ht k hk]
        exact anyTo_ext 8 h8 fun j a b => by rw [pt_z g b hk (Or.inl a)]; rfl
      · show S_X9_countParts_7 c q (nI 8) u = _
        unfold S_X9_countParts_7
        simp (disch := omega) only [zl8, if_neg])
    (0, up1 h 5 9 0) ⟨rfl, fun k a _ => up1_ob a, fun i hi => absurd hi (Nat.not_lt_zero i), fun k _ => by
      show tb (up1 h 5 9 0 5 9) k = false
      rw [up1_same, tb_0]⟩
  unfold f_X9_countParts
  rw [bnd_eq]
  exact Q
theorem c_po60 {q23 : Int32 → Hp → Option (Bool × Hp)} {i : Nat} {s half : Int32} {u : Hp} (H : CV0 c u n m w) (hc : 100 ≤ c) (hi : i < 8) (hs : ¬ s = 0) :
    F_X9_pressOnce_60 q23 c (nI i) s half FU 0 u = q23 (nI (i + 1)) (upA u 11 (fun o => if o < 8 then u 11 o + half * ptR w i o / s else u 11 o)) := by
  have Q := loop0 (S_X9_pressOnce_60 q23 c (nI i) s half) (fun _ _ => none) (fun j q => q (nI j) (upA u 11 (fun o => if o < j then u 11 o + half * ptR w i o / s else u 11 o))) 8
    (q23 (nI (i + 1)) (upA u 11 (fun o => if o < 8 then u 11 o + half * ptR w i o / s else u 11 o))) (by omega) (fun j hj q => ?_) (fun q => ?_)
  · rw [ite_0, upA_self] at Q
    exact Q
  · show S_X9_pressOnce_60 q23 c (nI i) s half q (nI j) _ = q (nI (j + 1)) _
    have rd : (upA u 11 (fun o => if o < j then u 11 o + half * ptR w i o / s else u 11 o)) (c + 5) (8 * i + j) = ptR w i j := by
      rw [upA_ob (by omega)]; exact c_pt H hi hj
    unfold S_X9_pressOnce_60
    simp (disch := omega) only [zl8, if_pos, ix64, zgd, zcl, rd, ↓zbn, zsuc, gdT hs, up1_upA, upA_at]
    rw [← upd_ite (fun o => u 11 o + half * ptR w i o / s) (u 11) j, if_neg (Nat.lt_irrefl j)]
  · show S_X9_pressOnce_60 q23 c (nI i) s half q (nI 8) _ = _
    unfold S_X9_pressOnce_60
    simp (disch := omega) only [zl8, if_neg, zsuc]
theorem c_po23 {u : Hp} (H : CV0 c u n m w) (hc : 100 ≤ c) (g : Gd n m w) (h12 : ∀ i, i < 8 → u 12 i = psW n w i) :
    F_X9_pressOnce_23 c FU 0 u = F_X9_pressOnce_110 FU 0 0 (upA u 11 (givesAll n (wtR w) (ptR w) (u 6) (u 11) n)) := by
  have h8 := g.1.2.1
  have Q := loop0 (S_X9_pressOnce_23 c) (fun _ _ => none) (fun j q => q (nI j) (upA u 11 (givesAll n (wtR w) (ptR w) (u 6) (u 11) (min j n)))) 8
    (F_X9_pressOnce_110 FU 0 0 (upA u 11 (givesAll n (wtR w) (ptR w) (u 6) (u 11) n))) (by omega) (fun j hj q => ?_) (fun q => ?_)
  · rw [Nat.zero_min, show givesAll n (wtR w) (ptR w) (u 6) (u 11) 0 = u 11 from rfl, upA_self] at Q
    exact Q
  · show S_X9_pressOnce_23 c q (nI j) (upA u 11 _) = q (nI (j + 1)) _
    have r12 : (upA u 11 (givesAll n (wtR w) (ptR w) (u 6) (u 11) (min j n))) 12 j = psW n w j := by rw [upA_ob (by decide)]; exact h12 j hj
    have rw1 : (upA u 11 (givesAll n (wtR w) (ptR w) (u 6) (u 11) (min j n))) (c + 1) j = wtR w j := by rw [upA_ob (by omega)]; exact (H.1 j hj).1
    unfold S_X9_pressOnce_23
    simp (disch := omega) only [zl8, if_pos, zgd, zcl, ↓zbn, r12, rw1, upA_ob, zsuc]
    by_cases d : 0 < psW n w j
    · have jn : j < n := by
        apply Classical.byContradiction
        intro z
        rw [ps_z g hj (by omega)] at d
        exact absurd d (by decide)
      have s0 : ¬ psW n w j = 0 := by intro z; rw [z] at d; exact absurd d (by decide)
      rw [if_pos d, c_po60 (CV0_fr H (fun k a b => upA_ob (by omega))) hc hj s0, upA_upA, upA_at, show min j n = j from by omega, show min (j + 1) n = j + 1 from by omega]
      congr 2
      show _ = givesS n (wtR w) (ptR w) (u 6) j (givesAll n (wtR w) (ptR w) (u 6) (u 11) j)
      unfold givesS givS
      rw [if_pos (show 0 < sumTo (ptR w j) n from d)]
      funext o
      by_cases x : o < n
      · rw [if_pos x, if_pos (by omega)]; rfl
      · rw [if_neg x]
        by_cases y : o < 8
        · rw [if_pos y, pt_z g hj y (Or.inr (by omega)), Int32.mul_zero, Int32.zero_div, Int32.add_zero]
        · rw [if_neg y]
    · rw [if_neg d]
      by_cases jn : j < n
      · rw [show min j n = j from by omega, show min (j + 1) n = j + 1 from by omega]
        congr 2
        show _ = givesS n (wtR w) (ptR w) (u 6) j (givesAll n (wtR w) (ptR w) (u 6) (u 11) j)
        unfold givesS
        rw [if_neg (show ¬ 0 < sumTo (ptR w j) n from d)]
      · rw [show min (j + 1) n = min j n from by omega]
  · show S_X9_pressOnce_23 c q (nI 8) _ = _
    unfold S_X9_pressOnce_23
    simp (disch := omega) only [zl8, if_neg]
    rw [show min 8 n = n from by omega]
theorem c_po110 {u : Hp} : F_X9_pressOnce_110 FU 0 0 u = some (anyTo (fun o => !decide (u 6 o = u 11 o)) 8, upA u 6 (fun o => if o < 8 then u 11 o else u 6 o)) := by
  have Q := loop0 S_X9_pressOnce_110 (fun _ _ _ => none) (fun j q => q (bI (anyTo (fun o => !decide (u 6 o = u 11 o)) j)) (nI j) (upA u 6 (fun o => if o < j then u 11 o else u 6 o))) 8
    (some (anyTo (fun o => !decide (u 6 o = u 11 o)) 8, upA u 6 (fun o => if o < 8 then u 11 o else u 6 o))) (by omega) (fun j hj q => ?_) (fun q => ?_)
  · rw [ite_0, upA_self] at Q
    exact Q
  · show S_X9_pressOnce_110 q _ (nI j) _ = q (bI (anyTo _ j || _)) (nI (j + 1)) _
    unfold S_X9_pressOnce_110 F_X9_pressOnce_137
    simp (disch := omega) only [zl8, if_pos, zgd, zcl, ↓zbn, upA_at, upA_ob, zsuc, up1_upA, Nat.lt_irrefl, if_false]
    rw [← upd_ite (u 11) (u 6) j]
    by_cases d : u 6 j = u 11 j
    · rw [if_pos d, decide_eq_true d]
      cases anyTo (fun o => !decide (u 6 o = u 11 o)) j <;> rfl
    · rw [if_neg d, decide_eq_false d]
      cases anyTo (fun o => !decide (u 6 o = u 11 o)) j <;> rfl
  · show S_X9_pressOnce_110 q _ (nI 8) _ = _
    unfold S_X9_pressOnce_110
    simp (disch := omega) only [zl8, if_neg, toB_bI, zob]
theorem c_pressOnce {u : Hp} (H : CV0 c u n m w) (hc : 100 ≤ c) (g : Gd n m w) (h12 : ∀ i, i < 8 → u 12 i = psW n w i) :
    f_X9_pressOnce c u = some (anyTo (fun o => !decide (u 6 o = (roundS n (wtR w) (ptR w) (u 6, u 11)).1 o)) 8, upA (upA u 6 (roundS n (wtR w) (ptR w) (u 6, u 11)).1) 11 (roundS n (wtR w) (ptR w) (u 6, u 11)).2) := by
  have Q := loop0 (S_X9_pressOnce_2 c) (fun _ _ => none) (fun j q => q (nI j) (upA u 11 (fun o => if o < j then 0 else u 11 o))) 8
    (some (anyTo (fun o => !decide (u 6 o = (roundS n (wtR w) (ptR w) (u 6, u 11)).1 o)) 8, upA (upA u 6 (roundS n (wtR w) (ptR w) (u 6, u 11)).1) 11 (roundS n (wtR w) (ptR w) (u 6, u 11)).2)) (by omega) (fun j hj q => ?_) (fun q => ?_)
  · rw [ite_0, upA_self] at Q
    exact Q
  · show S_X9_pressOnce_2 c q (nI j) _ = q (nI (j + 1)) _
    unfold S_X9_pressOnce_2
    simp (disch := omega) only [zl8, if_pos, zgd, zcl, ↓zbn, zsuc, up1_upA]
    rw [← upd_ite (fun _ => 0) (u 11) j]
  · show S_X9_pressOnce_2 c q (nI 8) _ = _
    unfold S_X9_pressOnce_2
    simp (disch := omega) only [zl8, if_neg]
    rw [c_po23 (CV0_fr H (fun k a b => upA_ob (by omega))) hc g (fun i hi => by rw [upA_ob (by decide)]; exact h12 i hi), c_po110]
    simp only [upA_at, upA_ob (show (6 : Nat) ≠ 11 by decide), upA_upA]
    have e1 : anyTo (fun o => !decide (u 6 o = givesAll n (wtR w) (ptR w) (u 6) (fun o => if o < 8 then 0 else u 11 o) n o)) 8 = anyTo (fun o => !decide (u 6 o = (roundS n (wtR w) (ptR w) (u 6, u 11)).1 o)) 8 :=
      anyTo_congr 8 fun o ho => by
        show (!decide (u 6 o = givesAll n (wtR w) (ptR w) (u 6) (fun o => if o < 8 then 0 else u 11 o) n o)) = !decide (u 6 o = if o < 8 then givesAll n (wtR w) (ptR w) (u 6) (fun o => if o < 8 then 0 else u 11 o) n o else u 6 o)
        rw [if_pos ho]
    rw [e1, upA_comm (by decide)]
    rfl
theorem rounds_fix {wt : Nat → Int32} {pt : Nat → Nat → Int32} {s : (Nat → Int32) × (Nat → Int32)} {k : Nat} (h8 : n ≤ 8) (hf : ∀ o, o < 8 → (roundsS n wt pt s (k + 1)).1 o = (roundsS n wt pt s k).1 o) :
    ∀ d o, o < 8 → (roundsS n wt pt s (k + d)).1 o = (roundsS n wt pt s k).1 o
  | 0, _, _ => rfl
  | d + 1, o, ho => by
    have ih := rounds_fix h8 hf d
    have e : (roundsS n wt pt (roundsS n wt pt s (k + d)) 1).1 o = (roundsS n wt pt (roundsS n wt pt s k) 1).1 o := rounds_ext h8 ih 1 o ho
    exact e.trans (hf o ho)
/-- Strain's rows of PRESS stand -/
def PV (h : Hp) (n : Nat) (w : Row) : Prop := (∀ i, i < 8 → h 6 i = prW n w i) ∧ (∀ i, i < 8 → h 12 i = psW n w i) ∧ ∀ k, k < 8 → tb (h 5 9) k = anyTo (fun o => decide (0 < ptR w o k)) n
theorem c_measurePress (H : CV0 c h n m w) (hc : 100 ≤ c) (g : Gd n m w) :
    ∃ h', f_X9_measurePress c h = some h' ∧ PV h' n w ∧ ∀ k, k ≠ 5 → k ≠ 6 → k ≠ 11 → k ≠ 12 → h' k = h k := by
  have h8 := g.1.2.1
  obtain ⟨h1, e1, a12, a5, af⟩ := c_countParts H hc g
  have H1 : CV0 c h1 n m w := CV0_fr H fun k a b => af k (by omega) (by omega)
  let s0 : Row × Row := (fun o => if o < 8 then 0 else h1 6 o, h1 11)
  let R := fun k => roundsS n (wtR w) (ptR w) s0 k
  have pr : ∀ o, o < 8 → (R 12).1 o = prW n w o := fun o ho => rounds_ext h8 (fun o ho => if_pos ho) 12 o ho
  have L : ∃ h', F_X9_measurePress_30 c FU 1 0 (upA (upA h1 6 s0.1) 11 s0.2) = some h' ∧ PV h' n w ∧ ∀ k, k ≠ 6 → k ≠ 11 → h' k = h1 k :=
    loopV (S_X9_measurePress_30 c) (fun _ _ _ => none) (fun q (s : Nat × Bool) => q (bI s.2) (nI s.1) (upA (upA h1 6 (R s.1).1) 11 (R s.1).2)) 12
      (fun j s => s.1 = j ∧ (s.2 = false → ∀ o, o < 8 → (R s.1).1 o = prW n w o))
      (fun r => ∃ h', r = some h' ∧ PV h' n w ∧ ∀ k, k ≠ 6 → k ≠ 11 → h' k = h1 k) (by omega)
      (fun j s hj hs => by
        obtain ⟨j', b⟩ := s
        dsimp only at hs
        obtain ⟨rfl, hb⟩ := hs
        cases b
        · refine Or.inr ⟨_, ⟨upA (upA h1 6 (R j').1) 11 (R j').2, rfl, ⟨fun i hi => ?_, fun i hi => ?_, fun k hk => ?_⟩, fun k a b => ?_⟩, fun q => ?_⟩
          · rw [upA_ob (by decide), upA_at]; exact hb rfl i hi
          · rw [upA_ob (by decide), upA_ob (by decide)]; exact a12 i hi
          · rw [upA_ob (by decide), upA_ob (by decide)]; exact a5 k hk
          · rw [upA_ob b, upA_ob a]
          · show S_X9_measurePress_30 c q 0 (nI j') _ = _
            unfold S_X9_measurePress_30
            rw [if_pos rfl]
        · have e := c_pressOnce (u := upA (upA h1 6 (R j').1) 11 (R j').2) (CV0_fr H1 (fun k a b => by rw [upA_ob (by omega), upA_ob (by omega)])) hc g (fun i hi => by rw [upA_ob (by decide), upA_ob (by decide)]; exact a12 i hi)
          have r6 : (upA (upA h1 6 (R j').1) 11 (R j').2) 6 = (R j').1 := by rw [upA_ob (by decide), upA_at]
          have r11 : (upA (upA h1 6 (R j').1) 11 (R j').2) 11 = (R j').2 := upA_at
          rw [r6, r11] at e
          refine Or.inl ⟨(j' + 1, anyTo (fun o => !decide ((R j').1 o = (R (j' + 1)).1 o)) 8), ⟨rfl, fun hz o ho => ?_⟩, fun q => ?_⟩
          · have fx : ∀ o, o < 8 → (R (j' + 1)).1 o = (R j').1 o := by
              intro o ho
              have : ∀ N, anyTo (fun o => !decide ((R j').1 o = (R (j' + 1)).1 o)) N = false → ∀ o, o < N → (R j').1 o = (R (j' + 1)).1 o := by
                intro N
                induction N with
                | zero => intro _ o ho; exact absurd ho (Nat.not_lt_zero o)
                | succ N ih =>
                  intro hN o ho
                  have hN' : (anyTo (fun o => !decide ((R j').1 o = (R (j' + 1)).1 o)) N || !decide ((R j').1 N = (R (j' + 1)).1 N)) = false := hN
                  rw [Bool.or_eq_false_iff] at hN'
                  by_cases c : o = N
                  · subst c
                    have := hN'.2
                    simp only [Bool.not_eq_false', decide_eq_true_eq] at this
                    exact this
                  · exact ih hN'.1 o (by omega)
              exact (this 8 hz o ho).symm
            have := rounds_fix (wt := wtR w) (pt := ptR w) (s := s0) (k := j') h8 fx
            show (R (j' + 1)).1 o = _
            rw [← pr o ho, fx o ho, show (12 : Nat) = j' + (12 - j') from by omega]
            exact (this (12 - j') o ho).symm
          · show S_X9_measurePress_30 c q 1 (nI j') _ = q (bI (anyTo (fun o => !decide ((R j').1 o = (R (j' + 1)).1 o)) 8)) (nI (j' + 1)) _
            unfold S_X9_measurePress_30
            rw [if_neg (by decide)]
            simp (disch := omega) only [zl12, if_pos, e, zob, ↓zbn, zsuc]
            rw [upA_comm (f := (R j').2) (by decide), upA_upA, upA_upA]
            rfl)
      (fun s hs => by
        obtain ⟨j', b⟩ := s
        dsimp only at hs
        obtain ⟨rfl, hb⟩ := hs
        refine ⟨_, ⟨upA (upA h1 6 (R 12).1) 11 (R 12).2, rfl, ⟨fun i hi => ?_, fun i hi => ?_, fun k hk => ?_⟩, fun k a b => ?_⟩, fun q => ?_⟩
        · rw [upA_ob (by decide), upA_at]; exact pr i hi
        · rw [upA_ob (by decide), upA_ob (by decide)]; exact a12 i hi
        · rw [upA_ob (by decide), upA_ob (by decide)]; exact a5 k hk
        · rw [upA_ob b, upA_ob a]
        · show S_X9_measurePress_30 c q (bI b) (nI 12) _ = _
          unfold S_X9_measurePress_30
          simp (disch := omega) only [zl12, if_neg, ite_self])
      (0, true) ⟨rfl, fun z => absurd z (by decide)⟩
  obtain ⟨h', e, pv, fr⟩ := L
  refine ⟨h', ?_, pv, fun k a b d f => (fr k b d).trans (af k a f)⟩
  unfold f_X9_measurePress
  rw [e1, obS, ← e]
  have Q := loop0 (S_X9_measurePress_7 c) (fun _ _ => none) (fun j q => q (nI j) (upA h1 6 (fun o => if o < j then 0 else h1 6 o))) 8
    (F_X9_measurePress_30 c FU 1 0 (upA (upA h1 6 s0.1) 11 s0.2)) (by omega) (fun j hj q => ?_) (fun q => ?_)
  · rw [ite_0, upA_self] at Q
    exact Q
  · show S_X9_measurePress_7 c q (nI j) _ = q (nI (j + 1)) _
    unfold S_X9_measurePress_7
    simp (disch := omega) only [zl8, if_pos, zgd, zcl, ↓zbn, zsuc, up1_upA]
    rw [← upd_ite (fun _ => 0) (h1 6) j]
  · show S_X9_measurePress_7 c q (nI 8) _ = _
    unfold S_X9_measurePress_7
    simp (disch := omega) only [zl8, if_neg]
    congr 1
    show _ = upA (upA h1 6 s0.1) 11 (h1 11)
    have : upA (upA h1 6 s0.1) 11 (h1 11) = upA (upA h1 6 s0.1) 11 ((upA h1 6 s0.1) 11) := by rw [upA_ob (by decide)]
    rw [this, upA_self]
end CS
