/-! LAYER 4. pieces: how many -/
def pcF (T : Nat → Nat → Bool) (A : Nat → Bool) (i : Nat) (s : Nat × (Nat → Bool)) : Nat × (Nat → Bool) := if s.2 i = true then (s.1 + 1, fun o => s.2 o && !pc T A i o) else s
def pcL (T : Nat → Nat → Bool) (A : Nat → Bool) (N : Nat) : Nat × (Nat → Bool) := fldN (pcF T A) (0, A) N
section PL
variable {T : Nat → Nat → Bool} {A : Nat → Bool}
theorem pcL_s {N : Nat} : pcL T A (N + 1) = if (pcL T A N).2 N = true then ((pcL T A N).1 + 1, fun o => (pcL T A N).2 o && !pc T A N o) else pcL T A N := rfl
theorem pcL_A : ∀ N o, (pcL T A N).2 o = true → A o = true
  | 0, _, h => h
  | N + 1, o, h => by
    rw [pcL_s] at h
    by_cases c : (pcL T A N).2 N = true
    · rw [if_pos c] at h
      exact pcL_A N o (Bool.and_eq_true_iff.mp h).1
    · rw [if_neg c] at h
      exact pcL_A N o h
theorem pcL_lo : ∀ N k, k < N → (pcL T A N).2 k = false
  | 0, k, h => absurd h (Nat.not_lt_zero k)
  | N + 1, k, h => by
    rw [pcL_s]
    by_cases c : (pcL T A N).2 N = true
    · rw [if_pos c]
      show ((pcL T A N).2 k && !pc T A N k) = false
      by_cases d : k = N
      · rw [d, pc_s (pcL_A N N c)]
        exact Bool.and_false _
      · rw [pcL_lo N k (by omega), Bool.false_and]
    · rw [if_neg c]
      by_cases d : k = N
      · rw [d]; exact Bool.eq_false_iff.mpr c
      · exact pcL_lo N k (by omega)
theorem pcL_e {a : Nat} : ∀ b, a ≤ b → (∀ k, a ≤ k → k < b → (pcL T A a).2 k = false) → pcL T A b = pcL T A a
  | 0, h, _ => by obtain rfl : a = 0 := by omega
                  rfl
  | b + 1, h, z => by
    by_cases c : a = b + 1
    · rw [c]
    · have e := pcL_e b (by omega) (fun k x y => z k x (by omega))
      rw [pcL_s, e, z b (by omega) (by omega), tff]
end PL
theorem least8 {p : Nat → Bool} : ∀ N, (∃ k, k < N ∧ p k = true) → ∃ k, k < N ∧ p k = true ∧ ∀ j, j < k → p j = false
  | 0, ⟨k, h, _⟩ => absurd h (Nat.not_lt_zero k)
  | N + 1, ⟨k, h, x⟩ => by
    by_cases c : ∃ k, k < N ∧ p k = true
    · obtain ⟨k, a, b⟩ := least8 N c
      exact ⟨k, by omega, b⟩
    · refine ⟨k, h, x, fun j hj => ?_⟩
      cases d : p j
      · rfl
      · exact absurd ⟨j, by omega, d⟩ c
theorem nTZ8 (p : Nat → Bool) (h : Hp) : f_J6_numberOfTrailingZeros_0f7a4 (orTo p 8) h = nI (if p 0 then 0 else if p 1 then 1 else if p 2 then 2 else if p 3 then 3 else if p 4 then 4 else if p 5 then 5 else if p 6 then 6 else if p 7 then 7 else 32) := by
  unfold f_J6_numberOfTrailingZeros_0f7a4 F_J6_numberOfTrailingZeros_0f7a4_34 F_J6_numberOfTrailingZeros_0f7a4_49 F_J6_numberOfTrailingZeros_0f7a4_62 F_J6_numberOfTrailingZeros_0f7a4_74 orTo orTo orTo orTo orTo orTo orTo orTo orTo
  generalize p 0 = b0, p 1 = b1, p 2 = b2, p 3 = b3, p 4 = b4, p 5 = b5, p 6 = b6, p 7 = b7
  revert b0 b1 b2 b3 b4 b5 b6 b7
  unfold bnd
  decide +kernel
theorem nTZ_l {p : Nat → Bool} {k : Nat} (hk : k < 8) (x : p k = true) (z : ∀ j, j < k → p j = false) (h : Hp) : f_J6_numberOfTrailingZeros_0f7a4 (orTo p 8) h = nI k := by
  rw [nTZ8]
  have kk : k = 0 ∨ k = 1 ∨ k = 2 ∨ k = 3 ∨ k = 4 ∨ k = 5 ∨ k = 6 ∨ k = 7 := by omega
  rcases kk with rfl | rfl | rfl | rfl | rfl | rfl | rfl | rfl
  · rw [x]; rfl
  · rw [z 0 (by omega), x]; rfl
  · rw [z 0 (by omega), z 1 (by omega), x]; rfl
  · rw [z 0 (by omega), z 1 (by omega), z 2 (by omega), x]; rfl
  · rw [z 0 (by omega), z 1 (by omega), z 2 (by omega), z 3 (by omega), x]; rfl
  · rw [z 0 (by omega), z 1 (by omega), z 2 (by omega), z 3 (by omega), z 4 (by omega), x]; rfl
  · rw [z 0 (by omega), z 1 (by omega), z 2 (by omega), z 3 (by omega), z 4 (by omega), z 5 (by omega), x]; rfl
  · rw [z 0 (by omega), z 1 (by omega), z 2 (by omega), z 3 (by omega), z 4 (by omega), z 5 (by omega), z 6 (by omega), x]; rfl
theorem sp_33 {a : Nat → Int32} {h : Hp} (I : Inv h) : ∃ h' n, St_33 a h h' n ∧ n ≤ 1 ∧ Inv h' := by
  obtain ⟨⟨n, m, N⟩, _⟩ := id I
  have g := N.1
  have h8 := g.1.2.1
  have H := N.2.1
  refine qPu (c := f_X11_pieces) (md := f_X12_pieces) (v := nI (pcL (tS (h 31)) (upB n (h 31)) 8).1) I ?_ ?_
  · have Q := loop0 (S_X11_pieces_12 h) (fun _ _ _ => none) (fun j q => q (nI (pcL (tS (h 31)) (upB n (h 31)) j).1) (orTo (pcL (tS (h 31)) (upB n (h 31)) j).2 8) (nI j)) 8 (some (nI (pcL (tS (h 31)) (upB n (h 31)) 8).1)) (by omega) (fun j hj q => ?_) (fun q => ?_)
    · unfold f_X11_pieces
      rw [H.2.2.2.1.2.2]
      exact Q
    · show S_X11_pieces_12 h q (nI (pcL (tS (h 31)) (upB n (h 31)) j).1) (orTo (pcL (tS (h 31)) (upB n (h 31)) j).2 8) (nI j) = q (nI (pcL (tS (h 31)) (upB n (h 31)) (j + 1)).1) (orTo (pcL (tS (h 31)) (upB n (h 31)) (j + 1)).2 8) (nI (j + 1))
      rw [pcL_s]
      generalize pcL (tS (h 31)) (upB n (h 31)) j = X
      unfold S_X11_pieces_12
      rw [show (8 : Int32) = nI 8 from rfl, if_pos ((nI_ltI (by omega) (by omega)).mpr hj), H.2.2.2.1.2.2, c_pieceOf H g hj, obS, bnd_eq, orTo_dn (by omega), nI_1, nI_1]
      by_cases d : X.2 j = true
      · rw [if_pos d, if_pos (by rw [shr_tb (by omega), tb8 hj]; exact d)]
      · rw [if_neg d, if_neg (by rw [shr_tb (by omega), tb8 hj]; exact d)]
    · show S_X11_pieces_12 h q (nI (pcL (tS (h 31)) (upB n (h 31)) 8).1) (orTo (pcL (tS (h 31)) (upB n (h 31)) 8).2 8) (nI 8) = _
      unfold S_X11_pieces_12
      rw [show (8 : Int32) = nI 8 from rfl, if_neg (by decide)]
  · have w1 : (up1 h 30 0 0) 31 = h 31 := up1_ob (by decide)
    refine ⟨up1 h 30 0 0, ?_, KM_0⟩
    have Q := loopV S_X12_pieces_12 (fun _ _ _ => none) (fun q (s : Nat × Nat) => q (orTo (pcL (tS (h 31)) (upB n (h 31)) s.2).2 8) (nI s.1) (up1 h 30 0 0)) 9 (fun j s => s.1 = j ∧ j ≤ s.2 ∧ s.2 ≤ 8 ∧ (pcL (tS (h 31)) (upB n (h 31)) s.2).1 = j)
      (fun r => r = some (nI (pcL (tS (h 31)) (upB n (h 31)) 8).1, up1 h 30 0 0)) (by omega) (fun j s hj hs => ?_) (fun s hs => ?_) (0, 0) ⟨rfl, Nat.le_refl 0, by omega, rfl⟩
    · unfold f_X12_pieces
      rw [bnd_eq, std_eq (by rw [w1]; exact g.1.1) h8, obS, w1, ← up_std h8]
      exact Q
    · obtain ⟨j', k⟩ := s
      dsimp only at hs
      obtain ⟨hj', h1, h2, h3⟩ := hs
      obtain rfl : j' = j := hj'
      by_cases z : orTo (pcL (tS (h 31)) (upB n (h 31)) k).2 8 = 0
      · refine Or.inr ⟨_, rfl, fun q => ?_⟩
        show S_X12_pieces_12 q (orTo (pcL (tS (h 31)) (upB n (h 31)) k).2 8) (nI j') (up1 h 30 0 0) = _
        unfold S_X12_pieces_12
        rw [if_pos z, pcL_e 8 h2 (fun i _ y => or0_8.mp z i y), h3]
      · have ⟨i, hi, x, y⟩ : ∃ i, i < 8 ∧ (pcL (tS (h 31)) (upB n (h 31)) k).2 i = true ∧ ∀ j, j < i → (pcL (tS (h 31)) (upB n (h 31)) k).2 j = false := least8 8 (by
          refine Classical.byContradiction fun q => z (or0_8.mpr fun i hi => ?_)
          cases d : (pcL (tS (h 31)) (upB n (h 31)) k).2 i
          · rfl
          · exact absurd ⟨i, hi, d⟩ q)
        have ki : k ≤ i := by
          refine Classical.byContradiction fun q => ?_
          rw [pcL_lo k i (by omega)] at x
          exact Bool.noConfusion x
        have ei : pcL (tS (h 31)) (upB n (h 31)) i = pcL (tS (h 31)) (upB n (h 31)) k := pcL_e i ki (fun j _ b => y j b)
        have es : pcL (tS (h 31)) (upB n (h 31)) (i + 1) = (j' + 1, fun o => (pcL (tS (h 31)) (upB n (h 31)) k).2 o && !pc (tS (h 31)) (upB n (h 31)) i o) := by
          rw [pcL_s, ei, if_pos x, h3]
        refine Or.inl ⟨(j' + 1, i + 1), ⟨rfl, by show j' + 1 ≤ i + 1; omega, by show i + 1 ≤ 8; omega, by show (pcL (tS (h 31)) (upB n (h 31)) (i + 1)).1 = j' + 1; rw [es]⟩, fun q => ?_⟩
        show S_X12_pieces_12 q (orTo (pcL (tS (h 31)) (upB n (h 31)) k).2 8) (nI j') (up1 h 30 0 0) = q (orTo (pcL (tS (h 31)) (upB n (h 31)) (i + 1)).2 8) (nI (j' + 1)) (up1 h 30 0 0)
        unfold S_X12_pieces_12
        rw [if_neg z, std_eq (by rw [w1]; exact g.1.1) h8, obS, w1, ← up_std h8, nTZ_l hi x y, m_pieceOf (n := n) (m := m) (by rw [w1]; exact g) hi, obS, bnd_eq, orTo_dn (by omega), nI_1, es, w1]
    · obtain ⟨j', k⟩ := s
      dsimp only at hs
      obtain ⟨hj', h1, h2, h3⟩ := hs
      omega
