/-! LAYER 4. law: and, or -/
section H3
variable {b : Nat → Nat} {L B : Nat}
/-- a reader of a condition, both sides; d parentheses deep, D on the stack at most -/
def SUB (b : Nat → Nat) (L B d D : Nat) (subC subM : Hp → Option (Bool × Hp)) : Prop :=
  ∀ (u g : Hp) (f N : Nat) (s : List Bool), LST b L B f N s u g → g 30 15 = nI d → s.length ≤ D → N + 1 ≤ f → LOo b L B f N 0 (true :: s) u g (subC u) (subM g)
theorem J_rep {kc km d D cd : Nat} {wd : List Nat} {subC subM : Hp → Option (Bool × Hp)} (Sc : isS kc [wd]) (Sm : isS km [wd]) (hcd : cd = 14 ∨ cd = 15) (hD : D ≤ 18) (sub : SUB b L B d D subC subM)
    (FC : Nat → Int32 → Int32 → Hp → Option (Bool × Hp)) (FM : Nat → Hp → Option (Bool × Hp))
    (hFC : ∀ n x3 x4 h, FC (n + 1) x3 x4 h = if x3 = 0 then Option.bind (toB x3) fun b_2 => some (b_2, h) else if x4 < 400 then Option.bind (f_X10_takes kc h) fun r_5 => if r_5.1 then Option.bind (subC r_5.2) fun r_8 => if r_8.1 then Option.bind (f_X4_addStep 516 (nI cd) 0 r_8.2) fun r_11 => if r_11.1 then FC n 1 (x4 + 1) r_11.2 else FC n 0 (x4 + 1) r_11.2 else FC n 0 (x4 + 1) r_8.2 else Option.bind (toB x3) fun b_14 => some (b_14, r_5.2) else Option.bind (toB x3) fun b_16 => some (b_16, h))
    (hFM : ∀ n h, FM (n + 1) h = Option.bind (f_X12_passes km h) fun r_1 => if r_1.1 then Option.bind (subM r_1.2) fun r_4 => if r_4.1 then Option.bind (f_X12_emits (nI cd) 0 r_4.2) fun r_7 => FM n r_7 else some (false, r_4.2) else some (true, r_1.2)) :
    ∀ (k i nc nm : Nat) (u g : Hp) (f N : Nat) (s : List Bool), L - f ≤ k → k + 1 < nc → k < nm → i ≤ N → s.length + 1 ≤ D → N + 1 ≤ f → g 30 15 = nI d → LST b L B f N (true :: s) u g →
      LOo b L B f N 0 (true :: s) u g (FC nc 1 (nI i) u) (FM nm g) := by
  have cc : ccd cd = cd := by unfold ccd; rcases hcd with rfl | rfl <;> rfl
  have ty : ∀ s : List Bool, tyS cd (true :: true :: s) = some (true :: s) := fun s => by rcases hcd with rfl | rfl <;> rfl
  intro k
  induction k with
  | zero =>
    intro i nc nm u g f N s hk hc hm hi hs hN d15 H
    obtain ⟨nc, rfl⟩ : ∃ c, nc = c + 1 := ⟨nc - 1, by omega⟩
    obtain ⟨nm, rfl⟩ : ∃ c, nm = c + 1 := ⟨nm - 1, by omega⟩
    obtain ⟨X, T, Xm, ⟨p, P⟩, E⟩ := id H
    have fL := T.1
    have X4 := X.1
    have nw : wdB b L wd f = false := by
      cases q : wdB b L wd f
      · rfl
      · have := (wd_lt (S_ok Sc) q).1
        omega
    obtain ⟨g1, e1, P1, _, Fm⟩ := (m_passes Sm Xm P).2 nw
    rw [hFC, hFM, if_neg (show ¬ (1 : Int32) = 0 by decide), if_pos (show nI i < 400 from (nI_ltI (b := 400) (by omega) (by omega)).mpr (by omega)), (c_takes Sc X T).2 nw, obS, tff, toB1, obS, e1, obS, tff]
    exact Or.inl ⟨u, g1, f, N, rfl, rfl, LS_mv H T (FRc_refl u) P1 Fm, by omega, by omega, by omega, FLc_of (FRc_refl u), FLm_of Fm, Fm.2 15 (by decide) (by decide), rfl⟩
  | succ k ih =>
    intro i nc nm u g f N s hk hc hm hi hs hN d15 H
    obtain ⟨nc, rfl⟩ : ∃ c, nc = c + 1 := ⟨nc - 1, by omega⟩
    obtain ⟨nm, rfl⟩ : ∃ c, nm = c + 1 := ⟨nm - 1, by omega⟩
    obtain ⟨X, T, Xm, ⟨p, P⟩, E⟩ := id H
    have fL := T.1
    have X4 := X.1
    rw [hFC, hFM, if_neg (show ¬ (1 : Int32) = 0 by decide), if_pos (show nI i < 400 from (nI_ltI (b := 400) (by omega) (by omega)).mpr (by omega))]
    cases q : wdB b L wd f
    · obtain ⟨g1, e1, P1, _, Fm⟩ := (m_passes Sm Xm P).2 q
      rw [(c_takes Sc X T).2 q, obS, tff, toB1, obS, e1, obS, tff]
      exact Or.inl ⟨u, g1, f, N, rfl, rfl, LS_mv H T (FRc_refl u) P1 Fm, by omega, by omega, by omega, FLc_of (FRc_refl u), FLm_of Fm, Fm.2 15 (by decide) (by decide), rfl⟩
    · obtain ⟨g1, e1, P1, _, Fm⟩ := (m_passes Sm Xm P).1 q
      obtain ⟨u1, e2, T1, F1⟩ := (c_takes Sc X T).1 q
      have lf := (wd_lt (S_ok Sc) q).1
      have nx := nx_lt (b := b) lf
      have H1 := LS_mv H T1 F1 P1 Fm
      have d1 : g1 30 15 = nI d := by rw [Fm.2 15 (by decide) (by decide)]; exact d15
      rw [e2, obS, ttt, e1, obS, ttt]
      rcases sub u1 g1 (nxN b L f) N (true :: s) H1 d1 hs (by omega) with ⟨u2, g2, f2, N2, a1, a2, H2, a4, a5, a6, a7, a8, a9, a10⟩ | ⟨u2, g2, x, a1, a2, a3, a4, a5, a6⟩
      · obtain ⟨N7, N18⟩ := LS_N H2
        have f2L := H2.2.1.1
        rw [a1, obS, ttt, a2, obS, ttt, c_emit N7 (by omega), obS, ttt, m_emit N18 (by omega), obS, nI_1]
        have H3 := LS_em (c := cd) (v := 0) (v' := 0) H2 (by omega) (ty s) (by show s.length + 1 ≤ 20; omega) (fun _ => rfl)
        rw [cc] at H3
        rcases ih (i + 1) nc nm (adC N2 (nI cd) 0 u2) (adM N2 (nI cd) 0 g2) f2 (N2 + 1) s (by omega) (by omega) (by omega) (by omega) hs (by omega) (by rw [ad_30 (by decide), a9]; exact d1) H3 with ⟨u3, g3, f3, N3, b1, b2, H4, b4, b5, b6, b7, b8, b9, b10⟩ | ⟨u3, g3, x, b1, b2, b3, b4, b5, b6⟩
        · exact Or.inl ⟨u3, g3, f3, N3, b1, b2, H4, by omega, by omega, by omega, FLc_trans (FLc_trans (FLc_trans (FLc_of (N := N) F1) a7 (by omega)) FLc_ad (by omega)) b7 (by omega), FLm_trans (FLm_trans (FLm_trans (FLm_of (N := N) Fm) a8 (by omega)) FLm_ad (by omega)) b8 (by omega), by rw [b9, ad_30 (by decide), a9, Fm.2 15 (by decide) (by decide)], by rw [b10, ad_2, a10, F1.2.2]⟩
        · exact Or.inr ⟨u3, g3, x, b1, b2, b3, b4, FLc_trans (FLc_trans (FLc_trans (FLc_of (N := N) F1) a7 (by omega)) FLc_ad (by omega)) b5 (by omega), FLm_trans (FLm_trans (FLm_trans (FLm_of (N := N) Fm) a8 (by omega)) FLm_ad (by omega)) b6 (by omega)⟩
      · obtain ⟨nc, rfl⟩ : ∃ c, nc = c + 1 := ⟨nc - 1, by omega⟩
        rw [a1, obS, tff, a2, obS, tff, hFC, if_pos rfl, toB0, obS]
        exact Or.inr ⟨u2, g2, x, rfl, rfl, a3, a4, FLc_trans (FLc_of (N := N) F1) a5 (by omega), FLm_trans (FLm_of (N := N) Fm) a6 (by omega)⟩
theorem J_list {kc km d D cd : Nat} {wd : List Nat} {subC subM : Hp → Option (Bool × Hp)} (Sc : isS kc [wd]) (Sm : isS km [wd]) (hcd : cd = 14 ∨ cd = 15) (hD : D ≤ 17) (sub : SUB b L B d (D + 1) subC subM)
    (FC : Nat → Int32 → Int32 → Hp → Option (Bool × Hp)) (FM : Nat → Hp → Option (Bool × Hp))
    (hFC : ∀ n x3 x4 h, FC (n + 1) x3 x4 h = if x3 = 0 then Option.bind (toB x3) fun b_2 => some (b_2, h) else if x4 < 400 then Option.bind (f_X10_takes kc h) fun r_5 => if r_5.1 then Option.bind (subC r_5.2) fun r_8 => if r_8.1 then Option.bind (f_X4_addStep 516 (nI cd) 0 r_8.2) fun r_11 => if r_11.1 then FC n 1 (x4 + 1) r_11.2 else FC n 0 (x4 + 1) r_11.2 else FC n 0 (x4 + 1) r_8.2 else Option.bind (toB x3) fun b_14 => some (b_14, r_5.2) else Option.bind (toB x3) fun b_16 => some (b_16, h))
    (hFM : ∀ n h, FM (n + 1) h = Option.bind (f_X12_passes km h) fun r_1 => if r_1.1 then Option.bind (subM r_1.2) fun r_4 => if r_4.1 then Option.bind (f_X12_emits (nI cd) 0 r_4.2) fun r_7 => FM n r_7 else some (false, r_4.2) else some (true, r_1.2)) :
    SUB b L B d D (fun u => Option.bind (subC u) fun r_1 => bnd (b2i r_1.1) fun x3 => FC FU x3 0 r_1.2) (fun g => Option.bind (subM g) fun r => if r.1 then FM FU r.2 else some (false, r.2)) := by
  intro u g f N s H d15 hs hN
  dsimp only
  have X4 := H.1.1
  rcases sub u g f N s H d15 (by omega) hN with ⟨u2, g2, f2, N2, a1, a2, H2, a4, a5, a6, a7, a8, a9, a10⟩ | ⟨u2, g2, x, a1, a2, a3, a4, a5, a6⟩
  · rw [a1, obS, a2, obS, ttt, bnd_eq]
    rcases J_rep (D := D + 1) Sc Sm hcd (by omega) sub FC FM hFC hFM (L - f2) 0 FU FU u2 g2 f2 N2 s (Nat.le_refl _) (by show L - f2 + 1 < 4000000; omega) (by show L - f2 < 4000000; omega) (Nat.zero_le _) (by omega) (by omega) (by rw [a9]; exact d15) H2 with ⟨u3, g3, f3, N3, b1, b2, H4, b4, b5, b6, b7, b8, b9, b10⟩ | ⟨u3, g3, x, b1, b2, b3, b4, b5, b6⟩
    · exact Or.inl ⟨u3, g3, f3, N3, b1, b2, H4, by omega, by omega, by omega, FLc_trans a7 b7 (by omega), FLm_trans a8 b8 (by omega), by rw [b9, a9], by rw [b10, a10]⟩
    · exact Or.inr ⟨u3, g3, x, b1, b2, b3, b4, FLc_trans a7 b5 (by omega), FLm_trans a8 b6 (by omega)⟩
  · obtain ⟨n, hn⟩ : ∃ n, FU = n + 1 := ⟨3999999, rfl⟩
    rw [a1, obS, a2, obS, tff, bnd_eq, hn]
    dsimp only
    rw [hFC, show b2i false = 0 from rfl, if_pos rfl, toB0, obS]
    exact Or.inr ⟨u2, g2, x, rfl, rfl, a3, a4, a5, a6⟩
theorem J_all {d : Nat} {recC : Nat → Int32 → Hp → Option (Bool × Hp)} {recM : Hp → Option (Bool × Hp)} (hd : d ≤ 6) (A : SUB b L B d (2 * d + 2) (recC 516 (nI d)) recM) : SUB b L B d (2 * d + 1) (f_X5_readAll recC 516 (nI d)) (f_X12_readAllOf recM) :=
  J_list (D := 2 * d + 1) (cd := 14) s_1014 s_1039 (Or.inl rfl) (by omega) A (F_X5_readAll_10 recC 516 (nI d)) (F_X12_readAllOf_9 recM) (fun n x3 x4 h => rfl) (fun n h => rfl)
theorem J_choice {d : Nat} {recC : Nat → Int32 → Hp → Option (Bool × Hp)} {recM : Hp → Option (Bool × Hp)} (hd : d ≤ 6) (A : SUB b L B d (2 * d + 2) (recC 516 (nI d)) recM) : SUB b L B d (2 * d) (f_X5_readChoice recC 516 (nI d)) (f_X12_readCond recM) :=
  J_list (D := 2 * d) (cd := 15) s_1015 s_1040 (Or.inr rfl) (by omega) (J_all hd A) (F_X5_readChoice_10 recC 516 (nI d)) (F_X12_readCond_9 recM) (fun n x3 x4 h => rfl) (fun n h => rfl)
end H3
