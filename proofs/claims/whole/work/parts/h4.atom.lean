/-! LAYER 4. law: conditions -/
section H4
variable {b : Nat → Nat} {L B : Nat}
theorem LS_15 {f N : Nat} {s : List Bool} {u g : Hp} {v : Int32} (H : LST b L B f N s u g) : LST b L B f N s u (up1 g 30 15 v) := by
  obtain ⟨X, T, Xm, ⟨p, P⟩, E⟩ := H
  exact ⟨X, T, ⟨Xm.1, by rw [up1_at, upd_ob (by decide)]; exact Xm.2.1, fun i hi => by rw [up1_ob (by decide)]; exact Xm.2.2 i hi⟩, ⟨p, PT_up (Or.inr (by decide)) P⟩, ES5_mv E rfl rfl rfl (up1_ob (by decide)) (by rw [up1_at, upd_ob (by decide)])⟩
theorem sg_lt {f c : Nat} (h : sgnB b L f c = true) : f < L ∧ b f = c := ⟨of_decide_eq_true (Bool.and_eq_true_iff.mp h).1, of_decide_eq_true (Bool.and_eq_true_iff.mp h).2⟩
theorem sg_nw {f c : Nat} {w : List Nat} (hc : okC c = true) (hw : okW w = true) (h : sgnB b L f c = true) : wdB b L w f = false := by
  have hc := of_decide_eq_true hc
  have ⟨_, h2⟩ := sg_lt h
  cases q : wdB b L w f
  · rfl
  · have z := (wd_lt hw q).2.1
    have z1 : 97 ≤ b f := of_decide_eq_true (Bool.and_eq_true_iff.mp z).1
    omega
theorem wd_ns {f c : Nat} {w : List Nat} (hc : okC c = true) (hw : okW w = true) (h : wdB b L w f = true) : sgnB b L f c = false := by
  cases q : sgnB b L f c
  · rfl
  · rw [sg_nw hc hw q] at h; exact Bool.noConfusion h
/-- the second sum of a comparison -/
theorem J_cmp {f N c cd : Nat} {s : List Bool} {u g g1 : Hp} {x6 : Int32} {recC : Nat → Int32 → Hp → Option (Bool × Hp)} {recM : Hp → Option (Bool × Hp)} (hx : (x6 = 0 ∧ cd = 12) ∨ (¬ x6 = 0 ∧ cd = 11)) (H : LST b L B f N (false :: s) u g) (hs : s.length + 4 ≤ 20) (hN : N + 1 ≤ f) (lf : f < L)
    (P1 : PTm b L (edN b L f) (nxN b L f) g1) (Fm : FRm g g1) : LOo b L B f N 0 (true :: s) u g (F_X5_readAtom_183 recC 516 x6 u) (F_X12_readAtom_152 recM x6 g1) := by
  obtain ⟨X, T, Xm, _, E⟩ := id H
  obtain ⟨u1, e2, T1, F1⟩ := c_next X T
  have nx := nx_lt (b := b) lf
  have H1 := LS_mv H T1 F1 P1 Fm
  have fL := nx_L (b := b) (L := L) T.1
  have X4 := X.1
  unfold F_X5_readAtom_183 F_X12_readAtom_152
  rw [e2, obS]
  rcases J_sum H1 (by show s.length + 1 + 3 ≤ 20; omega) (by omega) with ⟨u2, g2, f2, N2, a1, a2, H2, a4, a5, a6, a7, a8, a9, a10⟩ | ⟨u2, g2, x, a1, a2, a3, a4, a5, a6⟩
  · obtain ⟨N7, N18⟩ := LS_N H2
    have f2L := H2.2.1.1
    have c15 : cd ≤ 15 := by omega
    have ty : tyS cd (false :: false :: s) = some (true :: s) := by rcases hx with ⟨_, rfl⟩ | ⟨_, rfl⟩ <;> rfl
    have H3 := LS_em (c := cd) (v := 0) (v' := 0) H2 c15 ty (by show s.length + 1 ≤ 20; omega) (fun _ => rfl)
    rw [a1, obS, ttt, a2, obS, ttt]
    have e1 : (if x6 = 0 then F_X5_readAtom_208 recC 13 516 u2 else F_X5_readAtom_208 recC 12 516 u2) = some (true, adC N2 (nI (ccd cd)) 0 u2) := by
      unfold F_X5_readAtom_208
      rcases hx with ⟨z, rfl⟩ | ⟨z, rfl⟩
      · rw [if_pos z, c_emit N7 (by omega), obS, ttt]; rfl
      · rw [if_neg z, c_emit N7 (by omega), obS, ttt]; rfl
    have e3 : (if x6 = 0 then F_X12_readAtom_173 recM 12 g2 else F_X12_readAtom_173 recM 11 g2) = some (true, adM N2 (nI cd) 0 g2) := by
      unfold F_X12_readAtom_173
      rcases hx with ⟨z, rfl⟩ | ⟨z, rfl⟩
      · rw [if_pos z, m_emit N18 (by omega), obS]; rfl
      · rw [if_neg z, m_emit N18 (by omega), obS]; rfl
    refine Or.inl ⟨_, _, f2, N2 + 1, e1, e3, H3, by omega, by omega, by omega, FLc_trans (FLc_trans (FLc_of (N := N) F1) a7 (by omega)) FLc_ad (by omega), FLm_trans (FLm_trans (FLm_of (N := N) Fm) a8 (by omega)) FLm_ad (by omega), by rw [ad_30 (by decide), a9, Fm.2 15 (by decide) (by decide)], by rw [ad_2, a10, F1.2.2]⟩
  · rw [a1, obS, tff, a2, obS, tff]
    exact Or.inr ⟨u2, g2, x, rfl, rfl, a3, a4, FLc_trans (FLc_of (N := N) F1) a5 (by omega), FLm_trans (FLm_of (N := N) Fm) a6 (by omega)⟩
theorem fi_tag {f : Nat} : fiW b L [w_leaning, w_leant, w_held] f 0 = if wdB b L w_leaning f then 0 else if wdB b L w_leant f then 1 else if wdB b L w_held f then 2 else -1 := rfl
theorem fi_tb {f : Nat} : fiW b L [w_leaning, w_leant, w_held] f 0 = -1 ∨ ∃ c, c ≤ 2 ∧ fiW b L [w_leaning, w_leant, w_held] f 0 = nI c ∧ f < L ∧ ltB b f = true := by
  rw [fi_tag]
  have K : ∀ {w : List Nat}, okW w = true → wdB b L w f = true → f < L ∧ ltB b f = true := fun h q => ⟨(wd_lt h q).1, (wd_lt h q).2.1⟩
  cases h1 : wdB b L w_leaning f
  · rw [tff]
    cases h2 : wdB b L w_leant f
    · rw [tff]
      cases h3 : wdB b L w_held f
      · exact Or.inl rfl
      · exact Or.inr ⟨2, by omega, rfl, K (by decide) h3⟩
    · exact Or.inr ⟨1, by omega, rfl, K (by decide) h2⟩
  · exact Or.inr ⟨0, by omega, rfl, K (by decide) h1⟩
/-- no parenthesis, no not: a tag or a comparison -/
theorem J_plain {f N d : Nat} {s : List Bool} {u g g0 : Hp} {recC : Nat → Int32 → Hp → Option (Bool × Hp)} {recM : Hp → Option (Bool × Hp)} (H : LST b L B f N s u g) (hs : s.length ≤ 14) (hN : N + 1 ≤ f) (P0 : PTm b L f f g0) (F0 : FRm g g0) :
    LOo b L B f N 0 (true :: s) u g (F_X5_readAtom_44 recC 516 (nI d) 0 0 u) (Option.bind (f_X12_readTag g0) fun r_27 => if r_27.1 then some (true, r_27.2) else Option.bind (f_X12_readSum r_27.2) fun r_30 => if r_30.1 then Option.bind (f_X12_sign 60 r_30.2) fun r_33 => bnd (b2i r_33.1) fun x1_35 => if x1_35 = 0 then Option.bind (f_X12_sign 62 r_33.2) fun r_38 => if r_38.1 then F_X12_readAtom_152 recM x1_35 r_38.2 else some (false, r_38.2) else F_X12_readAtom_152 recM x1_35 r_33.2 else some (false, r_30.2)) := by
  obtain ⟨X, T, Xm, _, E⟩ := id H
  have fL := T.1
  have X4 := X.1
  have Xm0 := FRm_LX F0 Xm
  obtain ⟨g1, e1, h12, h14, Fm⟩ := m_letters Xm0 P0
  have Xm1 := FRm_LX Fm Xm0
  have FF := FRm_trans F0 Fm
  have i1 := m_isWord s_1035 Xm1 fL h12 h14
  have i2 := m_isWord s_1036 Xm1 fL h12 h14
  have i3 := m_isWord s_1037 Xm1 fL h12 h14
  obtain ⟨N7, N18⟩ := LS_N H
  have g18 : g1 30 18 = nI N := by rw [FF.2 18 (by decide) (by decide)]; exact N18
  have MT : f_X12_readTag g0 = if fiW b L [w_leaning, w_leant, w_held] f 0 = -1 then some (false, up1 g1 30 12 (nI f)) else F_X12_readTag_47 (6 + fiW b L [w_leaning, w_leant, w_held] f 0) g1 := by
    unfold f_X12_readTag
    rw [e1, obS, i1, obS, i2, obS, i3, obS, fi_tag]
    cases wdB b L w_leaning f
    · cases wdB b L w_leant f
      · cases wdB b L w_held f
        · rw [tff, tff, tff, tff, tff, tff, if_pos rfl]
          unfold F_X12_readTag_47 F_X12_readTag_69
          rw [if_pos (by decide), bnd_eq, h14, if_pos (by decide)]
        · rfl
      · rfl
    · rfl
  obtain ⟨A, A'⟩ := c_take s_1012 X T
  unfold F_X5_readAtom_44
  rw [if_pos rfl, if_pos rfl, MT]
  rcases fi_tb (b := b) (L := L) (f := f) with z | ⟨c, c2, z, lf, lt⟩
  · have P1 : PTm b L f f (up1 g1 30 12 (nI f)) := PT_f2 P0 up1_same
    have F1 : FRm g (up1 g1 30 12 (nI f)) := FRm_trans FF (FRm1 (by omega))
    have H1 := LS_mv H T (FRc_refl u) P1 F1
    rw [A z, obS, if_pos rfl, if_pos z, obS, tff]
    dsimp only
    rcases J_sum H1 (by omega) hN with ⟨u2, g2, f2, N2, a1, a2, H2, a4, a5, a6, a7, a8, a9, a10⟩ | ⟨u2, g2, x, a1, a2, a3, a4, a5, a6⟩
    · obtain ⟨X2, T2, Xm2, ⟨p2, P2⟩, E2⟩ := id H2
      obtain ⟨S, S'⟩ := m_sign (c := 60) (by decide) Xm2 P2
      have s60 : f_X10_isSign 60 u2 = sgnB b L f2 60 := c_isSign (c := 60) (by decide) X2 T2
      have s62 : f_X10_isSign 62 u2 = sgnB b L f2 62 := c_isSign (c := 62) (by decide) X2 T2
      have fin : ∀ {cl ml : Option (Bool × Hp)}, LOo b L B f2 N2 0 (true :: s) u2 g2 cl ml → LOo b L B f N 0 (true :: s) u g cl ml := by
        intro cl ml J
        rcases J with ⟨u3, g3, f3, N3, b1, b2, H4, b4, b5, b6, b7, b8, b9, b10⟩ | ⟨u3, g3, x, b1, b2, b3, b4, b5, b6⟩
        · exact Or.inl ⟨u3, g3, f3, N3, b1, b2, H4, by omega, by omega, by omega, FLc_trans a7 b7 (by omega), FLm_trans (FLm_trans (FLm_of (N := N) F1) a8 (by omega)) b8 (by omega), by rw [b9, a9, F1.2 15 (by decide) (by decide)], by rw [b10, a10]⟩
        · exact Or.inr ⟨u3, g3, x, b1, b2, b3, b4, FLc_trans a7 b5 (by omega), FLm_trans (FLm_trans (FLm_of (N := N) F1) a8 (by omega)) b6 (by omega)⟩
      refine fin ?_
      rw [a1, obS, ttt, a2, obS, ttt, bnd_eq]
      dsimp only
      rw [s60, s62]
      cases q : sgnB b L f2 60
      · obtain ⟨g3, e3, P3, k14, F3⟩ := S' q
        have Xm3 := FRm_LX F3 Xm2
        obtain ⟨Q, Q'⟩ := m_sign (c := 62) (by decide) Xm3 P3
        rw [show f_X12_sign 60 g2 = some (false, g3) from e3, obS, bnd_eq]
        dsimp only
        rw [if_pos (show b2i false = 0 from rfl), if_pos (show b2i false = 0 from rfl)]
        cases r : sgnB b L f2 62
        · obtain ⟨g4, e4, P4, k14', F4⟩ := Q' r
          rw [show f_X12_sign 62 g3 = some (false, g4) from e4, obS, tff, tff, c_fail T2, obS]
          exact L_bad rfl rfl (by dsimp only; exact up1_same) k14' FLc_22 (FLm_of (FRm_trans F3 F4))
        · obtain ⟨g4, e4, P4, k14', F4⟩ := Q r
          rw [show f_X12_sign 62 g3 = some (true, g4) from e4, obS, ttt, ttt]
          exact J_cmp (c := 62) (cd := 12) (Or.inl ⟨rfl, rfl⟩) H2 (by omega) (by omega) (sg_lt r).1 P4 (FRm_trans F3 F4)
      · obtain ⟨g3, e3, P3, k14, F3⟩ := S q
        rw [show f_X12_sign 60 g2 = some (true, g3) from e3, obS, bnd_eq]
        dsimp only
        rw [if_neg (show ¬ b2i true = 0 by decide), if_neg (show ¬ b2i true = 0 by decide)]
        exact J_cmp (c := 60) (cd := 11) (Or.inr ⟨by decide, rfl⟩) H2 (by omega) (by omega) (sg_lt q).1 P3 F3
    · rw [a1, obS, tff, a2, obS, tff]
      exact Or.inr ⟨u2, g2, x, rfl, rfl, a3, a4, a5, FLm_trans (FLm_of (N := N) F1) a6 (by omega)⟩
  · have nz : ¬ fiW b L [w_leaning, w_leant, w_held] f 0 = -1 := by rw [z]; exact nI_np (by omega)
    obtain ⟨u1, e2, T1, F1⟩ := A' nz
    have nx := nx_lt (b := b) lf
    have P1 : PTm b L (edN b L f) (nxN b L f) g1 := ⟨ed_L fL, by rw [h12]; unfold edN; rw [if_pos lf, if_pos lt], rfl⟩
    have H1 := LS_mv H T1 F1 P1 FF
    have cc : ccd (6 + c) = 6 + c := by unfold ccd; rw [if_neg (by omega), if_neg (by omega), if_neg (by omega), if_neg (by omega)]
    have ty : tyS (6 + c) s = some (true :: s) := by unfold tyS; rw [if_neg (by omega), if_pos (by omega)]
    have H2 := LS_em (c := 6 + c) (v := 0) (v' := 0) H1 (by omega) ty (by show s.length + 1 ≤ 20; omega) (fun q => by omega)
    have n6 : (6 : Int32) + nI c = nI (6 + c) := by rw [show (6 : Int32) = nI 6 from rfl, zadd]
    rw [cc] at H2
    rw [z] at nz e2
    rw [e2, obS, if_neg nz, z, if_neg nz, n6]
    dsimp only
    unfold F_X12_readTag_47 F_X12_readTag_69
    rw [c_emit (N := N) (by rw [F1.1 516 (by decide)]; exact N7) (by omega), obS, if_neg (nI_pos (by omega)), m_emit g18 (by omega), obS, if_neg (nI_pos (by omega)), obS, ttt]
    exact Or.inl ⟨adC N (nI (6 + c)) 0 u1, adM N (nI (6 + c)) 0 g1, nxN b L f, N + 1, rfl, rfl, H2, by omega, by omega, by omega, FLc_trans (FLc_of (N := N) F1) FLc_ad (by omega), FLm_trans (FLm_of (N := N) FF) FLm_ad (by omega), by rw [ad_30 (by decide), FF.2 15 (by decide) (by decide)], by rw [ad_2, F1.2.2]⟩
end H4
