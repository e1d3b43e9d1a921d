/-! LAYER 4. law, the call -/
theorem sp_3 {a : Nat → Int32} {h : Hp} (I : Inv h) : ∃ h' n, St_3 a h h' n ∧ n ≤ 1 ∧ Inv h' := by
  obtain ⟨⟨n, m, N⟩, T, M, P, h21⟩ := id I
  obtain ⟨L, hL, t2, t3, tb'⟩ := TP_b I
  have G := N.1
  have m6 := G.1.2.2.2.1
  have X : LXc (btN h) L h := ⟨hL, t2, fun i hi => ⟨(tb' i hi).1, (tb' i hi).2.1⟩⟩
  have R : ∀ g, (∀ k, 27 ≤ k → k ≤ 46 → g k = h k) → LRo (opnC h) (opnM g) (f_X5_read 516 h) (f_X12_readAll 0 g) := fun g ge =>
    J_lread X (by rw [ge 30 (by omega) (by omega)]; exact t3) (fun i hi => ⟨(tb' i hi).1, by rw [ge 38 (by omega) (by omega)]; exact (tb' i hi).2.2⟩)
  have uo : ∀ u', FWc (opnC h) u' → ∀ k, k ≠ 2 → (k < 516 ∨ 522 < k) → u' k = h k := fun u' K k a b => by
    rw [K.1 k a b]
    unfold opnC
    rw [up1_ob a, up1_ob a]
  rcases R h (fun k _ _ => rfl) with ⟨u', _, _, _, c1, _, _, _, _, _, K', _, s'⟩ | ⟨u', _, x, c1, _, x1, _, K', _⟩
  · have u22 : u' 2 2 = -1 := by rw [s']; unfold opnC; rw [up1_at, upd_ob (by decide), up1_same]
    obtain ⟨u7, hu7⟩ : ∃ u7, up1 u' 2 1 0 = u7 := ⟨_, rfl⟩
    have o7 : ∀ k, k ≠ 2 → u7 k = u' k := fun k a => by rw [← hu7, up1_ob a]
    have q721 : u7 2 1 = 0 := by rw [← hu7, up1_same]
    have q722 : u7 2 2 = -1 := by rw [← hu7, up1_at, upd_ob (by decide), u22]
    have e7 : ∀ k, k ≠ 2 → (k < 516 ∨ 522 < k) → u7 k = h k := fun k a b => by rw [o7 k a, uo u' K' k a b]
    obtain ⟨r2, e2, p2⟩ := c_copyLaw (k0 := 500) (k1 := 516) (h := u7) (by omega)
    obtain ⟨p8, _, pA, pB, f2⟩ := id p2
    obtain ⟨h1, hh1⟩ : ∃ h1, up1 r2 1 14 0 = h1 := ⟨_, rfl⟩
    have o1 : ∀ k, k ≠ 1 → h1 k = r2 k := fun k a => by rw [← hh1, up1_ob a]
    have cl : f_X11_law h = some (Except.ok (h1 500 8), h1) := by
      unfold f_X11_law
      rw [c1, obS, bnd_eq, bnd_eq, hu7, if_neg (show ¬ b2i true = 0 by decide), e2, obS, bnd_eq, hh1]
    obtain ⟨g, hg⟩ : ∃ g, up1 h1 50 0 (h1 500 8) = g := ⟨_, rfl⟩
    have og : ∀ k, k ≠ 50 → g k = h1 k := fun k a => by rw [← hg, up1_ob a]
    have g50 : g 50 0 = h1 500 8 := by rw [← hg, up1_same]
    have gh : ∀ k, k ≠ 50 → k ≠ 1 → k ≠ 2 → (k < 500 ∨ (506 < k ∧ k < 516) ∨ 522 < k) → g k = h k := fun k a b c d => by rw [og k a, o1 k b, f2 k (by omega), e7 k c (by omega)]
    rcases R g (fun k x y => gh k (by omega) (by omega) (by omega) (by omega)) with ⟨u2, g', l, N', d1, d2, l12, N400, q8, ln, K9, M9, _⟩ | ⟨u2, g', x, d1, _⟩
    · obtain rfl : u2 = u' := by rw [c1] at d1; exact (congrArg Prod.snd (Option.some.inj d1)).symm
      obtain ⟨v, hv⟩ : ∃ v, up1 (up1 g' 30 16 (-1)) 31 1341 (nI l) = v := ⟨_, rfl⟩
      obtain ⟨y, hy⟩ : ∃ y, up1 (up1 (upA v 31 (cpJ (v 31) 849)) 31 3 1) 30 7 0 = y := ⟨_, rfl⟩
      have v31 : v 31 = upd (g' 31) 1341 (nI l) := by rw [← hv, up1_at, up1_ob (by decide)]
      have y31 : y 31 = upd (cpJ (v 31) 849) 3 1 := by rw [← hy, up1_ob (by decide), up1_at, upA_at]
      have yo : ∀ k, k ≠ 30 → k ≠ 31 → y k = g' k := fun k a b => by rw [← hy, up1_ob a, up1_ob b, upA_ob b, ← hv, up1_ob b, up1_ob a]
      have y30 : ∀ i, i ≠ 16 → i ≠ 7 → y 30 i = g' 30 i := fun i a b => by rw [← hy, up1_at, upd_ob b, up1_ob (by decide), upA_ob (by decide), ← hv, up1_ob (by decide), up1_at, upd_ob a]
      have y7 : y 30 7 = 0 := by rw [← hy, up1_same]
      have y16 : y 30 16 = -1 := by rw [← hy, up1_at, upd_ob (by decide), up1_ob (by decide), upA_ob (by decide), ← hv, up1_ob (by decide), up1_same]
      have gk : ∀ k, k ≠ 30 → k ≠ 31 → g' k = g k := fun k a b => by rw [M9.1 k a b, opn_ob a]
      have g30 : ∀ i, i ≠ 12 → i ≠ 14 → i ≠ 15 → i ≠ 18 → i ≠ 0 → i ≠ 11 → i ≠ 13 → g' 30 i = h 30 i := fun i a b c d e f j => by
        rw [M9.2.1 i a b c d, opn_30 e f a j d, gh 30 (by decide) (by decide) (by decide) (by omega)]
      have yk : ∀ k, k ≠ 30 → k ≠ 31 → k ≠ 50 → y k = h1 k := fun k a b d => by rw [yo k a b, gk k a b, og k d]
      have gw : ∀ k, k < 1342 → g' 31 k = h 31 k := fun k hk => by rw [M9.2.2 k hk, opn_ob (by decide), gh 31 (by decide) (by decide) (by decide) (by omega)]
      have v8 : h1 500 8 = nI l := by rw [o1 500 (by decide), p8, o7 516 (by decide)]; exact q8
      have w3 : y 31 3 = 1 := by rw [y31, upd_at]
      have lo : ∀ k, k ≠ 3 → k < 492 → y 31 k = h 31 k := fun k a b => by
        rw [y31, upd_ob a]
        unfold cpJ
        rw [if_neg (by omega), v31, upd_ob (by omega)]
        exact gw k (by omega)
      have w492 : y 31 492 = nI l := by
        rw [y31, upd_ob (by decide)]
        unfold cpJ
        rw [if_pos (by omega), v31, upd_at]
      have wr : ∀ x, 1342 ≤ x → x < 2190 → y 31 (x - 849) = g' 31 x := fun x a b => by
        rw [y31, upd_ob (by omega)]
        unfold cpJ
        rw [if_pos (by omega), show x - 849 + 849 = x by omega, v31, upd_ob (by omega)]
      have ml : f_X12_law g = some (nI l, y) := by
        unfold f_X12_law F_X12_law_19 F_X12_law_32
        rw [d2, obS, if_neg (nI_pos (by omega)), bnd_eq, if_neg (nI_pos (by omega)), tI0, obS, tff, bnd_eq]
        dsimp only
        rw [hv, m_law52, hy]
      obtain ⟨gl, lv⟩ := law_row l12 N400 ln w3 w492 wr
      refine ⟨y, 0, Or.inl ⟨h1 500 8, h1, nI l, cl, by rw [hg]; exact ml, ?_, ?_, rfl⟩, by omega, ⟨n, m, NOW_rw rfl (Gd_c3 (fun k a b => lo k a (by omega)) gl G) (CV0_c3 m6 (fun k a b => lo k a (by omega)) (CV0_fr N.2.1 fun k x y' => ?_)) (LG_cg (fun k hk => lo k (by omega) (by omega)) (LG_fr N.2.2.1 fun k x y' => ?_)) (lv y ?_ (fun i hi => ?_) (fun i hi => ?_))⟩, TPs_0 ?_ ?_ ?_, IMs_fr M ?_ ?_ ?_ (fun k hk => ?_), PAs_no ?_ ?_ y7, ?_⟩
      · show y 30 0 = 0
        rw [y30 0 (by decide) (by decide), M9.2.1 0 (by decide) (by decide) (by decide) (by decide), opn_0]
      · rw [yo 50 (by decide) (by decide), gk 50 (by decide) (by decide), g50, v8]
      · rw [yk k (by omega) (by omega) (by omega), o1 k (by omega), f2 k (by omega), e7 k (by omega) (by omega)]
      · rw [yk k (by omega) (by omega) (by omega), o1 k (by omega), f2 k (by omega), e7 k (by omega) (by omega)]
      · rw [yk 500 (by omega) (by omega) (by omega)]; exact v8
      · obtain ⟨z1, z2, z3, z4⟩ := pA i hi
        rw [yk 501 (by omega) (by omega) (by omega), yk 502 (by omega) (by omega) (by omega), yk 503 (by omega) (by omega) (by omega), yk 504 (by omega) (by omega) (by omega), o1 501 (by omega), o1 502 (by omega), o1 503 (by omega), o1 504 (by omega), ← o7 517 (by omega), ← o7 518 (by omega), ← o7 519 (by omega), ← o7 520 (by omega)]
        exact ⟨z1, z2, z3, z4⟩
      · obtain ⟨z1, z2⟩ := pB i hi
        rw [yk 505 (by omega) (by omega) (by omega), yk 506 (by omega) (by omega) (by omega), o1 505 (by omega), o1 506 (by omega), ← o7 521 (by omega), ← o7 522 (by omega)]
        exact ⟨z1, z2⟩
      · rw [yk 2 (by decide) (by decide) (by decide), o1 2 (by decide), f2 2 (by omega)]; exact q721
      · rw [y30 11 (by decide) (by decide), M9.2.1 11 (by decide) (by decide) (by decide) (by decide), opn_11]
      · rw [y16, yk 2 (by decide) (by decide) (by decide), o1 2 (by decide), f2 2 (by omega)]; exact q722
      · rw [yk 1 (by decide) (by decide) (by decide), ← hh1, up1_at, upd_ob (by decide), f2 1 (by omega), e7 1 (by decide) (by omega)]
      · rw [y30 6 (by decide) (by decide), g30 6 (by decide) (by decide) (by decide) (by decide) (by decide) (by decide) (by decide)]
      · rw [yo 32 (by decide) (by decide), gk 32 (by decide) (by decide), gh 32 (by decide) (by decide) (by decide) (by omega)]
      · rw [yo k (by omega) (by omega), gk k (by omega) (by omega), gh k (by omega) (by omega) (by omega) (by omega)]
      · obtain ⟨F, C, p1, p2', p3, _⟩ := P
        exact ⟨F, p1, by rw [yk 1 (by decide) (by decide) (by decide), ← hh1, up1_at, upd_ob (by decide), f2 1 (by omega), e7 1 (by decide) (by omega)]; exact p3⟩
      · rw [yk 1 (by decide) (by decide) (by decide), ← hh1, up1_same]
      · rw [y30 21 (by decide) (by decide), g30 21 (by decide) (by decide) (by decide) (by decide) (by decide) (by decide) (by decide)]; exact h21
    · rw [c1] at d1
      exact Bool.noConfusion (show true = false from congrArg Prod.fst (Option.some.inj d1))
  · obtain ⟨u7, hu7⟩ : ∃ u7, up1 u' 2 1 0 = u7 := ⟨_, rfl⟩
    have o7 : ∀ k, k ≠ 2 → u7 k = u' k := fun k a => by rw [← hu7, up1_ob a]
    have e7 : ∀ k, k ≠ 2 → (k < 516 ∨ 522 < k) → u7 k = h k := fun k a b => by rw [o7 k a, uo u' K' k a b]
    have cl : f_X11_law h = some (Except.error "java/lang/IllegalArgumentException", u7) := by
      unfold f_X11_law
      rw [c1, obS, bnd_eq, bnd_eq, hu7, if_pos (show b2i false = 0 from rfl)]
    rcases R u7 (fun k x y => e7 k (by omega) (by omega)) with ⟨u2, g', _, _, d1, _⟩ | ⟨u2, g', y, d1, d2, y1, y2, _, M9⟩
    · rw [c1] at d1
      exact Bool.noConfusion (show false = true from congrArg Prod.fst (Option.some.inj d1))
    · obtain rfl : u2 = u' := by rw [c1] at d1; exact (congrArg Prod.snd (Option.some.inj d1)).symm
      obtain ⟨z, hz⟩ : ∃ z, up1 (up1 g' 30 16 (nI y)) 30 0 1 = z := ⟨_, rfl⟩
      have zo : ∀ k, k ≠ 30 → z k = g' k := fun k a => by rw [← hz, up1_ob a, up1_ob a]
      have z30 : ∀ i, i ≠ 16 → i ≠ 0 → z 30 i = g' 30 i := fun i a b => by rw [← hz, up1_at, upd_ob b, up1_at, upd_ob a]
      have gk : ∀ k, k ≠ 30 → k ≠ 31 → g' k = u7 k := fun k a b => by rw [M9.1 k a b, opn_ob a]
      refine ⟨z, 1, Or.inr ⟨u7, 0, cl, ?_, ?_, rfl⟩, by omega, Inv_dr I (TPs_0 ?_ ?_ ?_) (fun k hk => ?_) (fun k hk => ?_) (fun i hi => ?_)⟩
      · unfold f_X12_law F_X12_law_19 F_X12_law_32
        rw [d2, obS, if_pos (show (-1 : Int32) < 0 by decide), bnd_eq, if_pos (show (-1 : Int32) < 0 by decide), tI1, obS, ttt]
        dsimp only
        rw [y2, hz]
      · show z 30 0 = 1
        rw [← hz, up1_same]
      · rw [zo 2 (by decide), gk 2 (by decide) (by decide), ← hu7, up1_same]
      · rw [z30 11 (by decide) (by decide), M9.2.1 11 (by decide) (by decide) (by decide) (by decide), opn_11]
      · rw [zo 2 (by decide), gk 2 (by decide) (by decide), ← hu7, up1_at, upd_ob (by decide), y1, ← hz, up1_at, upd_ob (by decide), up1_same]
      · rw [zo 31 (by decide), M9.2.2 k (by omega), opn_ob (by decide), e7 31 (by decide) (by omega)]
      · rw [zo k (by omega), gk k (by omega) (by omega), e7 k (by omega) (by omega)]
      · rw [z30 i (by omega) (by omega), M9.2.1 i (by omega) (by omega) (by omega) (by omega), opn_30 (by omega) (by omega) (by omega) (by omega) (by omega), e7 30 (by decide) (by omega)]
