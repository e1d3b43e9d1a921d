/-! LAYER 4. law: a condition, to its depth -/
section H5
variable {b : Nat → Nat} {L B : Nat}
theorem J_atomB {d : Nat} {recC : Nat → Int32 → Hp → Option (Bool × Hp)} {recM : Hp → Option (Bool × Hp)} (hd : d ≤ 6) (A : d < 6 → SUB b L B (d + 1) (2 * (d + 1) + 2) (recC 516 (nI (d + 1))) recM) :
    SUB b L B d (2 * d + 2) (b_X5_readAtom recC 516 (nI d)) (b_X12_readAtom recM) := by
  intro u g f N s H d15 hs hN
  obtain ⟨X, T, Xm, ⟨p, P⟩, E⟩ := id H
  have fL := T.1
  have X4 := X.1
  have wo : f_X10_wordOf 1011 u = some (if wdB b L w_not f then 0 else -1) := c_wordOf s_1011 X T
  have s40 : f_X10_isSign 40 u = sgnB b L f 40 := c_isSign (c := 40) (by decide) X T
  obtain ⟨S, S'⟩ := m_sign (c := 40) (by decide) Xm P
  unfold b_X5_readAtom b_X12_readAtom F_X5_readAtom_15 F_X5_readAtom_33
  rw [wo, obS, s40]
  cases q : sgnB b L f 40
  · obtain ⟨g1, e1, P1, k14, F1⟩ := S' q
    have Xm1 := FRm_LX F1 Xm
    obtain ⟨W, W'⟩ := m_passes s_1034 Xm1 P1
    rw [show f_X12_sign 40 g = some (false, g1) from e1, obS, tff]
    cases w : wdB b L w_not f
    · obtain ⟨g2, e2, P2, _, F2⟩ := W' w
      rw [e2, obS, tff, tff, if_pos rfl, bnd_eq, if_pos rfl, if_pos (show b2i false = 0 from rfl)]
      exact J_plain (d := d) H (by omega) hN P2 (FRm_trans F1 F2)
    · obtain ⟨g2, e2, P2, k14', F2⟩ := W w
      have FF := FRm_trans F1 F2
      have lf := (wd_lt (by decide) w).1
      have nx := nx_lt (b := b) lf
      have g15 : g2 30 15 = nI d := by rw [FF.2 15 (by decide) (by decide)]; exact d15
      rw [e2, obS, ttt, ttt, if_neg (show ¬ (0 : Int32) = -1 by decide), bnd_eq, if_neg (show ¬ (1 : Int32) = 0 by decide)]
      dsimp only
      by_cases c : d < 6
      · obtain ⟨u1, e3, T1, U1⟩ := c_next X T
        rw [if_pos (show nI d < 6 from (nI_ltI (b := 6) (by omega) (by omega)).mpr c), if_neg (show ¬ g2 30 15 = 6 by rw [g15]; exact fun z => by have := (nI_eq (b := 6) (by omega) (by omega)).mp z; omega), bnd_eq, g15, nI_1]
        unfold F_X5_readAtom_44
        rw [if_neg (show ¬ (1 : Int32) = 0 by decide), e3, obS]
        have H1 := LS_15 (v := nI (d + 1)) (LS_mv H T1 U1 P2 FF)
        rcases A c u1 _ (nxN b L f) N s H1 up1_same (by omega) (by omega) with ⟨u2, g3, f2, N2, a1, a2, H2, a4, a5, a6, a7, a8, a9, a10⟩ | ⟨u2, g3, x, a1, a2, a3, a4, a5, a6⟩
        · obtain ⟨N7, N18⟩ := LS_N H2
          have f2L := H2.2.1.1
          have H3 := LS_em (c := 13) (v := 0) (v' := 0) (LS_15 (v := nI d) H2) (by omega) (s' := true :: s) rfl (by show s.length + 1 ≤ 20; omega) (fun q => by omega)
          have g315 : g3 30 15 = nI (d + 1) := by rw [a9, up1_same]
          have z1 : nI (d + 1) - 1 = nI d := zprs (by omega)
          have FM := FLm_trans (FLm_trans (FLm_of (N := N) FF) (FLm_15 (N := N) (v := nI (d + 1))) (Nat.le_refl _)) a8 (Nat.le_refl _)
          rw [nI_1, a1, obS, ttt, c_emit N7 (by omega), obS, ttt, a2, obS, ttt, bnd_eq]
          dsimp only
          rw [g315, z1, m_emit (N := N2) (by rw [up1_at, upd_ob (by decide)]; exact N18) (by omega), obS]
          exact Or.inl ⟨adC N2 (nI (ccd 13)) 0 u2, adM N2 (nI 13) 0 (up1 g3 30 15 (nI d)), f2, N2 + 1, rfl, rfl, H3, by omega, by omega, by omega, FLc_trans (FLc_trans (FLc_of (N := N) U1) a7 (by omega)) FLc_ad (by omega), FLm_trans (FLm_trans FM (FLm_15 (N := N) (v := nI d)) (Nat.le_refl _)) FLm_ad (by omega), by rw [ad_30 (by decide), up1_same]; exact d15.symm, by rw [ad_2, a10, U1.2.2]⟩
        · rw [nI_1, a1, obS, tff, a2, obS, tff]
          exact Or.inr ⟨u2, g3, x, rfl, rfl, a3, a4, FLc_trans (FLc_of (N := N) U1) a5 (by omega), FLm_trans (FLm_trans (FLm_of (N := N) FF) (FLm_15 (N := N) (v := nI (d + 1))) (Nat.le_refl _)) a6 (by omega)⟩
      · obtain rfl : d = 6 := by omega
        rw [if_neg (show ¬ nI 6 < 6 by decide), if_pos (show g2 30 15 = 6 by rw [g15]; rfl), c_fail T, obS]
        exact L_bad rfl rfl (by dsimp only; exact up1_same) k14' FLc_22 (FLm_of FF)
  · obtain ⟨g1, e1, P1, k14, F1⟩ := S q
    have nw : wdB b L w_not f = false := sg_nw (by decide) (by decide) q
    have lf := (sg_lt q).1
    have nx := nx_lt (b := b) lf
    have g15 : g1 30 15 = nI d := by rw [F1.2 15 (by decide) (by decide)]; exact d15
    rw [nw, tff, if_pos rfl, bnd_eq, if_pos rfl, if_neg (show ¬ b2i true = 0 by decide), show f_X12_sign 40 g = some (true, g1) from e1, obS, ttt]
    dsimp only
    by_cases c : d < 6
    · obtain ⟨u1, e3, T1, U1⟩ := c_next X T
      rw [if_pos (show nI d < 6 from (nI_ltI (b := 6) (by omega) (by omega)).mpr c), if_neg (show ¬ g1 30 15 = 6 by rw [g15]; exact fun z => by have := (nI_eq (b := 6) (by omega) (by omega)).mp z; omega), bnd_eq, g15, nI_1]
      unfold F_X5_readAtom_44
      rw [if_pos rfl, if_neg (show ¬ b2i true = 0 by decide), e3, obS]
      have H1 := LS_15 (v := nI (d + 1)) (LS_mv H T1 U1 P1 F1)
      rcases J_choice (by omega) (A c) u1 _ (nxN b L f) N s H1 up1_same (by omega) (by omega) with ⟨u2, g3, f2, N2, a1, a2, H2, a4, a5, a6, a7, a8, a9, a10⟩ | ⟨u2, g3, x, a1, a2, a3, a4, a5, a6⟩
      · have g315 : g3 30 15 = nI (d + 1) := by rw [a9, up1_same]
        have z1 : nI (d + 1) - 1 = nI d := zprs (by omega)
        have H3 := LS_15 (v := nI d) H2
        obtain ⟨X3, T3, Xm3, ⟨p3, P3⟩, E3⟩ := id H3
        obtain ⟨Q, Q'⟩ := m_sign (c := 41) (by decide) Xm3 P3
        obtain ⟨R, R'⟩ := c_sign (c := 41) (by decide) X3 T3
        have FM := FLm_trans (FLm_trans (FLm_trans (FLm_of (N := N) F1) (FLm_15 (N := N) (v := nI (d + 1))) (Nat.le_refl _)) a8 (Nat.le_refl _)) (FLm_15 (N := N) (v := nI d)) (Nat.le_refl _)
        have FC := FLc_trans (FLc_of (N := N) U1) a7 (by omega)
        rw [nI_1, a1, obS, ttt, a2, obS, ttt, bnd_eq]
        dsimp only
        rw [g315, z1]
        cases r : sgnB b L f2 41
        · obtain ⟨g4, e4, P4, k4, F4⟩ := Q' r
          rw [show f_X10_takesSign 41 u2 = some (false, u2) from R' r, obS, tff, show f_X12_sign 41 (up1 g3 30 15 (nI d)) = some (false, g4) from e4, obS, c_fail T3, obS, tff]
          exact L_bad rfl rfl (by dsimp only; exact up1_same) k4 (FLc_trans FC FLc_22 (Nat.le_refl _)) (FLm_trans FM (FLm_of (N := N) F4) (Nat.le_refl _))
        · obtain ⟨g4, e4, P4, k4, F4⟩ := Q r
          obtain ⟨u4, e5, T4, U4⟩ := R r
          have nx2 := nx_lt (b := b) (sg_lt r).1
          rw [show f_X10_takesSign 41 u2 = some (true, u4) from e5, obS, ttt, show f_X12_sign 41 (up1 g3 30 15 (nI d)) = some (true, g4) from e4, obS]
          exact Or.inl ⟨u4, g4, nxN b L f2, N2, rfl, rfl, LS_mv H3 T4 U4 P4 F4, by omega, by omega, by omega, FLc_trans FC (FLc_of (N := N) U4) (Nat.le_refl _), FLm_trans FM (FLm_of (N := N) F4) (Nat.le_refl _), by rw [F4.2 15 (by decide) (by decide), up1_same]; exact d15.symm, by rw [U4.2.2, a10, U1.2.2]⟩
      · rw [nI_1, a1, obS, tff, a2, obS, tff]
        exact Or.inr ⟨u2, g3, x, rfl, rfl, a3, a4, FLc_trans (FLc_of (N := N) U1) a5 (by omega), FLm_trans (FLm_trans (FLm_of (N := N) F1) (FLm_15 (N := N) (v := nI (d + 1))) (Nat.le_refl _)) a6 (by omega)⟩
    · obtain rfl : d = 6 := by omega
      rw [if_neg (show ¬ nI 6 < 6 by decide), if_pos (show g1 30 15 = 6 by rw [g15]; rfl), c_fail T, obS]
      exact L_bad rfl rfl (by dsimp only; exact up1_same) k14 FLc_22 (FLm_of F1)
theorem J_atom : ∀ (n d : Nat), d ≤ 6 → 7 ≤ n + d → SUB b L B d (2 * d + 2) (f_X5_readAtom n 516 (nI d)) (f_X12_readAtom n)
  | 0, d, h1, h2 => by omega
  | n + 1, d, h1, h2 => J_atomB h1 (fun c => J_atom n (d + 1) (by omega) (by omega))
/-- the condition of a line -/
theorem J_cond : SUB b L B 0 0 (f_X5_readChoice (f_X5_readAtom 10) 516 0) (f_X12_readCond (f_X12_readAtom 10)) := J_choice (d := 0) (by omega) (J_atom 10 0 (by omega) (by omega))
end H5
