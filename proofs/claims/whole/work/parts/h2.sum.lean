/-! LAYER 4. law: sums, tags -/
section H2
variable {b : Nat → Nat} {L B : Nat}
noncomputable def mSum (i nm : Nat) (g : Hp) : Option (Bool × Hp) := Option.bind (f_X12_readPart g) fun r => if r.1 then (if i = 0 then F_X12_readSum_9 nm r.2 else Option.bind (f_X12_emits 10 0 r.2) fun r7 => F_X12_readSum_9 nm r7) else some (false, r.2)
theorem J_sumL : ∀ (k i nc nm : Nat) (u g : Hp) (f N : Nat) (s : List Bool), L - f ≤ k → k < nc → k < nm → i ≤ N → s.length + 3 ≤ 20 → N + 1 + min i 1 ≤ f → LST b L B f N (if i = 0 then s else false :: s) u g →
    LOo b L B f N (min i 1) (false :: s) u g (F_X5_readSum_2 516 nc (nI i) u) (mSum i nm g) := by
  intro k
  induction k with
  | zero => 
    intro i nc nm u g f N s hk hc hm hi hs hN H
    obtain ⟨nc, rfl⟩ : ∃ c, nc = c + 1 := ⟨nc - 1, by omega⟩
    show LOo b L B f N (min i 1) (false :: s) u g (S_X5_readSum_2 516 (F_X5_readSum_2 516 nc) (nI i) u) (mSum i nm g)
    have fL := H.2.1.1
    have X4 := H.1.1
    rcases J_part H (by omega) (by split <;> (try show s.length + 1 < 20) <;> omega) with ⟨w1, n1, g', m1, k14, M⟩ | ⟨c, x1, x4, g', _, _, _, _, lf, _⟩
    · unfold S_X5_readSum_2 mSum
      rw [if_pos (show nI i < 400 from (nI_ltI (b := 400) (by omega) (by omega)).mpr (by omega)), w1, obS, n1, bnd_eq, if_pos rfl, if_pos rfl, c_fail H.2.1, obS, m1, obS, tff]
      exact L_bad rfl rfl (by dsimp only; exact up1_same) k14 FLc_22 M
    · omega
  | succ k ih =>
    intro i nc nm u g f N s hk hc hm hi hs hN H
    obtain ⟨nc, rfl⟩ : ∃ c, nc = c + 1 := ⟨nc - 1, by omega⟩
    obtain ⟨nm, rfl⟩ : ∃ c, nm = c + 1 := ⟨nm - 1, by omega⟩
    show LOo b L B f N (min i 1) (false :: s) u g (S_X5_readSum_2 516 (F_X5_readSum_2 516 nc) (nI i) u) (mSum i (nm + 1) g)
    have fL := H.2.1.1
    have X4 := H.1.1
    have hl : (if i = 0 then s else false :: s).length < 20 := by split <;> (try show s.length + 1 < 20) <;> omega
    have tail : ∀ (u2 g2 : Hp) (f' N' : Nat), LST b L B f' N' (false :: s) u2 g2 → N' = N + 1 + min i 1 → f + 1 ≤ f' → FLc N u u2 → FLm N g g2 → g2 30 15 = g 30 15 → u2 2 2 = u 2 2 →
        LOo b L B f N (min i 1) (false :: s) u g (if f_X10_isSign 43 u2 then Option.bind (f_X10_step u2) fun r4 => F_X5_readSum_2 516 nc (nI i + 1) r4 else some (true, u2)) (F_X12_readSum_9 (nm + 1) g2) := by
      intro u2 g2 f' N' H2 eN hf' K2 M2 d15 s22
      show LOo b L B f N (min i 1) (false :: s) u g _ (S_X12_readSum_9 (F_X12_readSum_9 nm) g2)
      obtain ⟨X, T, Xm, ⟨p, P⟩, E⟩ := id H2
      have f'L := T.1
      obtain ⟨A, A'⟩ := m_sign (c := 43) (by decide) Xm P
      unfold S_X12_readSum_9
      rw [show f_X10_isSign 43 u2 = sgnB b L f' 43 from c_isSign (c := 43) (by decide) X T]
      cases q : sgnB b L f' 43
      · obtain ⟨g3, e3, P3, _, Fm3⟩ := A' q
        rw [tff, show f_X12_sign 43 g2 = some (false, g3) from e3, obS, tff]
        exact Or.inl ⟨u2, g3, f', N', rfl, rfl, LS_mv H2 T (FRc_refl u2) P3 Fm3, by omega, by omega, by omega, K2, FLm_trans M2 (FLm_of Fm3) (Nat.le_refl _), by rw [Fm3.2 15 (by decide) (by decide)]; exact d15, s22⟩
      · obtain ⟨g3, e3, P3, _, Fm3⟩ := A q
        obtain ⟨u3, e4, T3, F3⟩ := c_next X T
        have q1 : f' < L := of_decide_eq_true (Bool.and_eq_true_iff.mp q).1
        have nx := nx_lt (b := b) q1
        rw [ttt, show f_X12_sign 43 g2 = some (true, g3) from e3, obS, ttt, e4, obS, nI_1]
        have H3 := LS_mv H2 T3 F3 P3 Fm3
        have J := ih (i + 1) nc nm u3 g3 (nxN b L f') N' s (by omega) (by omega) (by omega) (by omega) hs (by omega) (by rw [if_neg (by omega)]; exact H3)
        have em : mSum (i + 1) nm g3 = Option.bind (f_X12_readPart g3) fun r_4 => if r_4.1 then Option.bind (f_X12_emits 10 0 r_4.2) fun r_7 => F_X12_readSum_9 nm r_7 else some (false, r_4.2) := by
          unfold mSum
          congr 1
        rw [em] at J
        rcases J with ⟨u', g', f'', N'', a1, a2, a3, a4, a5, a6, a7, a8, a9, a10⟩ | ⟨u', g', x, a1, a2, a3, a4, a5, a6⟩
        · exact Or.inl ⟨u', g', f'', N'', a1, a2, a3, by omega, by omega, by omega, FLc_trans (FLc_trans K2 (FLc_of (N := N) F3) (by omega)) a7 (by omega), FLm_trans (FLm_trans M2 (FLm_of (N := N) Fm3) (by omega)) a8 (by omega), by rw [a9, Fm3.2 15 (by decide) (by decide)]; exact d15, by rw [a10, F3.2.2]; exact s22⟩
        · exact Or.inr ⟨u', g', x, a1, a2, a3, a4, FLc_trans (FLc_trans K2 (FLc_of (N := N) F3) (by omega)) a5 (by omega), FLm_trans (FLm_trans M2 (FLm_of (N := N) Fm3) (by omega)) a6 (by omega)⟩
    rcases J_part H (by omega) hl with ⟨w1, n1, g', m1, k14, M⟩ | ⟨c, x1, x4, g1, w1, n1, ne, tt, lf, m1, E1, P1, Xm1, M1, d15⟩
    · unfold S_X5_readSum_2 mSum
      rw [if_pos (show nI i < 400 from (nI_ltI (b := 400) (by omega) (by omega)).mpr (by omega)), w1, obS, n1, bnd_eq, if_pos rfl, if_pos rfl, c_fail H.2.1, obS, m1, obS, tff]
      exact L_bad rfl rfl (by dsimp only; exact up1_same) k14 FLc_22 M
    · obtain ⟨N7, N18⟩ := LS_N H
      obtain ⟨X, T, Xm, _, E⟩ := id H
      have nx := nx_lt (b := b) lf
      have ce : S_X5_readSum_2 516 (F_X5_readSum_2 516 nc) (nI i) u = F_X5_readSum_54 (F_X5_readSum_2 516 nc) 516 (nI i) x4 (nI (ccd c)) 516 u := by
        unfold S_X5_readSum_2 F_X5_readSum_42
        rw [if_pos (show nI i < 400 from (nI_ltI (b := 400) (by omega) (by omega)).mpr (by omega)), w1, obS, n1, bnd_eq]
        by_cases z : x1 = -1
        · rw [if_pos z, if_neg (fun y => ne ⟨z, y⟩), if_pos z, ← tt, if_pos z]
        · rw [if_neg z, if_neg z, ← tt, if_neg z]
      rw [ce]
      unfold F_X5_readSum_54 mSum
      rw [c_emit N7 (by omega), obS, m1, obS, ttt]
      by_cases i0 : i = 0
      · subst i0
        rw [if_neg (show ¬ (0 : Int32) < nI 0 by decide), if_pos rfl]
        unfold F_X5_readSum_72
        obtain ⟨u2, e2, T2, F2⟩ := c_next (adC_LX (N := N) (x := nI (ccd c)) (v := x4) X) (adC_T T)
        rw [e2, obS]
        rw [if_pos rfl] at E1
        exact tail u2 g1 (nxN b L f) (N + 1) ⟨FRc_LX F2 (adC_LX X), T2, Xm1, ⟨_, P1⟩, ES5_mv E1 (F2.1 516 (by decide)) (F2.1 521 (by decide)) (F2.1 522 (by decide)) rfl rfl⟩ (by omega) nx (FLc_trans FLc_ad (FLc_of (N := N) F2) (by omega)) M1 d15 (by rw [F2.2.2, ad_2])
      · rw [if_pos (show (0 : Int32) < nI i from (nI_ltI (a := 0) (by omega) (by omega)).mpr (by omega)), if_neg i0]
        rw [if_neg i0] at E1
        have E2 := em_1 (c := 10) (v := 0) (v' := 0) E1 (by omega) (s' := false :: s) rfl (by show s.length + 1 ≤ 20; omega) (fun _ => rfl)
        have a1 := c_emit (x := 11) (v := 0) E1.1 (by omega)
        have a2 := m_emit (x := 10) (v := 0) E1.2.1 (by omega)
        dsimp only
        rw [a1, obS, a2, obS]
        unfold F_X5_readSum_72
        have X2 : LXc b L (adC (N + 1) 11 0 (adC N (nI (ccd c)) x4 u)) := adC_LX (adC_LX X)
        have T1 : TKc b L f (adC (N + 1) 11 0 (adC N (nI (ccd c)) x4 u)) := adC_T (adC_T T)
        obtain ⟨u2, e2, T2, F2⟩ := c_next X2 T1
        dsimp only
        rw [e2, obS]
        refine tail u2 (adM (N + 1) 10 0 g1) (nxN b L f) (N + 2) ⟨FRc_LX F2 X2, T2, adM_LX Xm1, ⟨_, P1.1, by rw [ad_30 (by decide)]; exact P1.2.1, P1.2.2⟩, ES5_mv E2 (F2.1 516 (by decide)) (F2.1 521 (by decide)) (F2.1 522 (by decide)) rfl rfl⟩ (by omega) nx ?_ (FLm_trans M1 FLm_ad (by omega)) (by rw [ad_30 (by decide)]; exact d15) (by rw [F2.2.2, ad_2, ad_2])
        exact FLc_trans (FLc_trans FLc_ad (FLc_ad (N := N + 1)) (by omega)) (FLc_of (N := N) F2) (by omega)
theorem J_sum {f N : Nat} {s : List Bool} {u g : Hp} (H : LST b L B f N s u g) (hs : s.length + 3 ≤ 20) (hN : N + 1 ≤ f) : LOo b L B f N 0 (false :: s) u g (f_X5_readSum 516 u) (f_X12_readSum g) := by
  have X4 := H.1.1
  have em : f_X12_readSum g = mSum 0 FU g := by
    unfold f_X12_readSum mSum
    congr 1
  rw [em]
  exact J_sumL (L - f) 0 FU FU u g f N s (Nat.le_refl _) (by show L - f < 4000000; omega) (by show L - f < 4000000; omega) (Nat.zero_le _) hs (by omega) (by rw [if_pos rfl]; exact H)
end H2
