/-! LAYER 4. city -/
theorem tx_Gd {n m t : Nat} {w : Row} (ht : t ≤ 12) (G : Gd n m w) : Gd n m (upd w 2 (nI t)) := by
  obtain ⟨⟨gn0, gn1, gn2, gn3, gnL⟩, g1, g2, g3, g4, g5, g6, g7, g9, g8⟩ := G
  have o : ∀ k, k ≠ 2 → upd w 2 (nI t) k = w k := fun k hk => upd_ob hk
  have hf : ∀ k, falB (upd w 2 (nI t)) k = falB w k := fun k => by unfold falB; rw [o _ (by omega)]
  have hu : ∀ k, upB n (upd w 2 (nI t)) k = upB n w k := fun k => by unfold upB; rw [hf]
  refine ⟨⟨by rw [o 0 (by omega)]; exact gn0, gn1, by rw [o 1 (by omega)]; exact gn2, gn3, GdL_cg (fun k hk => o k (by omega)) gnL⟩, fun i hi => ?_, fun i l hi hl => ?_, fun p hp => ?_, bd_eq (o _ (by omega)) g4, bd_eq (o _ (by omega)) g5, bd_eq (o _ (by omega)) g6, bd_eq (o _ (by omega)) g7, ⟨t, ht, upd_at⟩, bd_eq (o _ (by omega)) g8⟩
  · obtain ⟨x0, x1, x2, x3, x4⟩ := g1 i hi
    exact ⟨bd_eq (o _ (by omega)) x0, bd_eq (o _ (by omega)) x1, bd_eq (o _ (by omega)) x2, bd_eq (o _ (by omega)) x3, bd_eq (o _ (by omega)) x4⟩
  · obtain ⟨x, y⟩ := g2 i l hi hl
    refine ⟨bd_eq (o _ (by omega)) x, fun q => ?_⟩
    rw [hu, hu] at q
    rw [o _ (by omega)]
    exact y q
  · obtain ⟨x, y, z⟩ := g3 p hp
    refine ⟨?_, bd_eq (o _ (by omega)) y, bd_eq (o _ (by omega)) z⟩
    rw [o _ (by omega)]
    exact x.imp id fun ⟨i, l, f, e⟩ => ⟨i, l, by rw [hf]; exact f, e⟩
theorem tx_CV {c n m : Nat} {u : Hp} {w : Row} {x : Int32} (V : CV0 c u n m w) : CV0 c (up1 u c 16 x) n m (upd w 2 x) := by
  obtain ⟨a1, a2, a3, ⟨b1, b2, b3⟩, c1, c2, c3, c4, c5, c6⟩ := V
  have o : ∀ k, k ≠ 2 → upd w 2 x k = w k := fun k hk => upd_ob hk
  have q : ∀ k, k ≠ 16 → up1 u c 16 x c k = u c k := fun k hk => by rw [up1_at, upd_ob hk]
  refine ⟨fun k hk => ?_, fun k hk => ?_, fun p hp => ?_, ⟨?_, ?_, ?_⟩, ?_⟩
  · unfold wtR fmR ivR agR
    rw [up1_ob (by omega), up1_ob (by omega), up1_ob (by omega), up1_ob (by omega), o _ (by omega), o _ (by omega), o _ (by omega), o _ (by omega)]
    exact a1 k hk
  · rw [up1_ob (by omega), o _ (by omega)]; exact a2 k hk
  · unfold atR hdR cmR
    rw [up1_ob (by omega), up1_ob (by omega), up1_ob (by omega), o _ (by omega), o _ (by omega), o _ (by omega)]
    exact a3 p hp
  · rw [q _ (by omega)]; exact b1
  · rw [q _ (by omega)]; exact b2
  · rw [q _ (by omega), b3]
    refine orTo_congr 8 fun k hk => ?_
    unfold upB falB
    rw [o _ (by omega)]
  · rw [q 12 (by omega), q 13 (by omega), q 14 (by omega), q 15 (by omega), q 17 (by omega), o 4 (by omega), o 5 (by omega), o 6 (by omega), o 7 (by omega), o 9 (by omega), up1_same, upd_at]
    exact ⟨c1, c2, c3, c4, rfl, c6⟩
theorem k33_ob {g : Hp} {k : Nat} (h : k ≠ 33) : k33 g k = g k := upA_ob h
theorem opn_ob {g : Hp} {k : Nat} (h : k ≠ 30) : opnM g k = g k := by unfold opnM; rw [up1_ob h, us_ob h]
theorem opn_30 {g : Hp} {i : Nat} (h : i ≠ 0) (h1 : i ≠ 11) (h2 : i ≠ 12) (h3 : i ≠ 13) (h4 : i ≠ 18) : opnM g 30 i = g 30 i := by unfold opnM; rw [up1_at, upd_ob h4, us_30 h h1 h2 h3]
theorem opn_11 {g : Hp} : opnM g 30 11 = 0 := by unfold opnM; rw [up1_at, upd_ob (by decide), us_11]
theorem opn_0 {g : Hp} : opnM g 30 0 = 0 := by unfold opnM; rw [up1_at, upd_ob (by decide), us_0]
theorem TPs_0 {h : Hp} (h1 : h 2 1 = 0) (h2 : h 30 11 = 0) (h3 : h 2 2 = h 30 16) : TPs h := ⟨0, by omega, h1, h2, fun i hi => absurd hi (Nat.not_lt_zero i), h3⟩
/-- a text refused -/
theorem city_no {h h1 g' : Hp} {y t : Int32} (I : Inv h) (e : ∀ k, k ≠ 2 → (k < 116 ∨ 126 < k) → h1 k = h k) (e21 : h1 2 1 = 0) (e22 : h1 2 2 = y) (M : FKm (opnM (k33 h1)) g') (R : RWk (h 31) (g' 31)) :
    Inv (upA (up1 (up1 g' 30 16 y) 30 0 t) 31 (mixR ((up1 (up1 g' 30 16 y) 30 0 t) 33) ((up1 (up1 g' 30 16 y) 30 0 t) 31) 1341)) := by
  obtain ⟨v, hv⟩ : ∃ v, up1 (up1 g' 30 16 y) 30 0 t = v := ⟨_, rfl⟩
  rw [hv]
  have vo : ∀ k, k ≠ 30 → v k = g' k := fun k hk => by rw [← hv, up1_ob hk, up1_ob hk]
  have v30 : ∀ i, i ≠ 16 → i ≠ 0 → v 30 i = g' 30 i := fun i a b => by rw [← hv, up1_at, upd_ob b, up1_at, upd_ob a]
  have e31 : mixR (v 33) (v 31) 1341 = h 31 := funext fun k => by
    by_cases c : k < 1341
    · rw [mix_i c, vo 33 (by decide), M.1 33 (by decide) (by decide), opn_ob (by decide)]
      unfold k33
      rw [upA_at, mix_i c, e 31 (by decide) (by omega)]
    · rw [mix_o c, vo 31 (by decide)]
      exact R k (by omega)
  have gk : ∀ k, k ≠ 30 → k ≠ 31 → k ≠ 33 → g' k = h1 k := fun k a b c => by rw [M.1 k a b, opn_ob a, k33_ob c]
  refine Inv_tp I (TPs_0 ?_ ?_ ?_) (fun k hk => ?_) (fun i hi => ?_)
  · rw [upA_ob (by decide), vo 2 (by decide), gk 2 (by decide) (by decide) (by decide)]; exact e21
  · rw [upA_ob (by decide), v30 11 (by decide) (by decide), M.2 11 (by decide) (by decide), opn_11]
  · rw [upA_ob (by decide), upA_ob (by decide), vo 2 (by decide), gk 2 (by decide) (by decide) (by decide), e22, ← hv, up1_at, upd_ob (by decide), up1_same]
  · by_cases c : k = 31
    · rw [c, upA_at, e31]
    · rw [upA_ob c, vo k (by omega), gk k (by omega) c (by omega), e k (by omega) (by omega)]
  · rw [upA_ob (by decide), v30 i (by omega) (by omega), M.2 i (by omega) (by omega), opn_30 (by omega) (by omega) (by omega) (by omega) (by omega), k33_ob (by decide), e 30 (by decide) (by omega)]
theorem sp_2 {a : Nat → Int32} {h : Hp} (I : Inv h) : ∃ h' n, St_2 a h h' n ∧ n ≤ 1 ∧ Inv h' := by
  obtain ⟨⟨n, m, N⟩, T, M, P, h21⟩ := id I
  obtain ⟨L, hL, t2, t3, tb'⟩ := TP_b I
  have G := N.1
  obtain ⟨r, er, Kr, Vr, LGr, LVr, fr⟩ := c_probe N
  have X : LXc (btN h) L r := ⟨hL, by rw [fr 2 (by omega)]; exact t2, fun i hi => ⟨(tb' i hi).1, by rw [fr 3 (by omega)]; exact (tb' i hi).2.1⟩⟩
  have R : ∀ g, (∀ k, 27 ≤ k → k ≤ 46 → g k = h k) → COo (h 31) (opnC r) (opnM (k33 g)) (f_X2_read 116 r) (f_X12_readAll 1 (k33 g)) := fun g ge =>
    J_read X Vr G (by rw [k33_ob (by decide), ge 31 (by omega) (by omega)]) (by rw [k33_ob (by decide), ge 30 (by omega) (by omega)]; exact t3) (fun i hi => ⟨(tb' i hi).1, by rw [k33_ob (by decide), ge 38 (by omega) (by omega)]; exact (tb' i hi).2.2⟩)
  have uo : ∀ u', FKc (opnC r) u' → ∀ k, k ≠ 2 → (k < 116 ∨ 126 < k) → u' k = h k := fun u' K k a b => by
    rw [K.1 k a (by omega)]
    unfold opnC
    rw [up1_ob a, up1_ob a, fr k b]
  obtain ⟨t, ht, et⟩ := G.2.2.2.2.2.2.2.2.1
  rcases R h (fun k _ _ => rfl) with ⟨u', _, _, n', m', w', c1, _, _, _, V', G', R', K', _, s'⟩ | ⟨u', _, x, c1, _, x1, _, _, K', _⟩
  · have u22 : u' 2 2 = -1 := by rw [s']; unfold opnC; rw [up1_at, upd_ob (by decide), up1_same]
    obtain ⟨u7, hu7⟩ : ∃ u7, up1 u' 2 1 0 = u7 := ⟨_, rfl⟩
    have o7 : ∀ k, k ≠ 2 → u7 k = u' k := fun k a => by rw [← hu7, up1_ob a]
    have q721 : u7 2 1 = 0 := by rw [← hu7, up1_same]
    have q722 : u7 2 2 = -1 := by rw [← hu7, up1_at, upd_ob (by decide), u22]
    have e7 : ∀ k, k ≠ 2 → (k < 116 ∨ 126 < k) → u7 k = h k := fun k a b => by rw [o7 k a, uo u' K' k a b]
    have q16 : u7 100 16 = nI t := by rw [e7 100 (by decide) (by omega), N.2.1.2.2.2.2.2.2.2.2.1, et]
    by_cases c : t < 12
    · obtain ⟨r2, e2, p2⟩ := c_copyFrom (k0 := 100) (k1 := 116) (h := u7) (by omega)
      have f2 := CP_fr p2
      have V7 : CV0 116 u7 n' m' w' := CV0_fr V' fun k x y => o7 k (by omega)
      have V2 := CP_CV0 p2 G'.1.2.2.2.1 V7
      have L2 := CP_LG p2 (LG_fr LGr fun k x y => by rw [o7 k (by omega), K'.1 k (by omega) (by omega)]; unfold opnC; rw [up1_ob (by omega), up1_ob (by omega)])
      have r16 : r2 100 16 = nI t := by rw [V2.2.2.2.2.2.2.2.2.1, R' 2 (by omega), et]
      obtain ⟨h1, hh1⟩ : ∃ h1, up1 (up1 r2 100 16 (nI (t + 1))) 1 14 0 = h1 := ⟨_, rfl⟩
      have o1 : ∀ k, k ≠ 1 → k ≠ 100 → h1 k = r2 k := fun k a b => by rw [← hh1, up1_ob a, up1_ob b]
      have h116 : h1 100 = (up1 r2 100 16 (nI (t + 1))) 100 := by rw [← hh1, up1_ob (by decide)]
      have cl : f_X11_city h = some (Except.ok (nI (t + 1)), h1) := by
        unfold f_X11_city
        rw [er, obS, c1, obS, bnd_eq, bnd_eq, hu7, if_neg (show ¬ b2i true = 0 by decide), if_pos (by rw [q16]; exact (nI_ltI (b := 12) (by omega) (by omega)).mpr c), e2, obS, bnd_eq, bnd_eq, r16, nI_1, hh1, h116, up1_same]
      obtain ⟨g, hg⟩ : ∃ g, up1 h1 50 0 (nI (t + 1)) = g := ⟨_, rfl⟩
      have og : ∀ k, k ≠ 50 → g k = h1 k := fun k a => by rw [← hg, up1_ob a]
      have g50 : g 50 0 = nI (t + 1) := by rw [← hg, up1_same]
      have gh : ∀ k, k ≠ 50 → k ≠ 1 → k ≠ 2 → (k < 100 ∨ (110 < k ∧ k < 116) ∨ 126 < k) → g k = h k := fun k a b c d => by rw [og k a, o1 k b (by omega), f2 k (by omega), e7 k c (by omega)]
      rcases R g (fun k x y => gh k (by omega) (by omega) (by omega) (by omega)) with ⟨u2, g', cc, n2, m2, w2, d1, d2, c14, q31, V9, G9, R9, K9, M9, _⟩ | ⟨u2, g', x, d1, _⟩
      · obtain ⟨y, hy⟩ : ∃ y, up1 (up1 (up1 g' 30 16 (-1)) 31 2 (nI (t + 1))) 30 7 0 = y := ⟨_, rfl⟩
        obtain rfl : u2 = u' := by rw [c1] at d1; exact (congrArg Prod.snd (Option.some.inj d1)).symm
        have w22 : w2 2 = nI t := by rw [R9 2 (by omega), et]
        have y31 : y 31 = upd w2 2 (nI (t + 1)) := by rw [← hy, up1_ob (by decide), up1_at, up1_ob (by decide), q31]
        have yo : ∀ k, k ≠ 30 → k ≠ 31 → y k = g' k := fun k a b => by rw [← hy, up1_ob a, up1_ob b, up1_ob a]
        have y30 : ∀ i, i ≠ 16 → i ≠ 7 → y 30 i = g' 30 i := fun i a b => by rw [← hy, up1_at, upd_ob b, up1_ob (by decide), up1_at, upd_ob a]
        have y7 : y 30 7 = 0 := by rw [← hy, up1_same]
        have y16 : y 30 16 = -1 := by rw [← hy, up1_at, upd_ob (by decide), up1_ob (by decide), up1_same]
        have gk : ∀ k, k ≠ 30 → k ≠ 31 → k ≠ 33 → g' k = g k := fun k a b c => by rw [M9.1 k a b, opn_ob a, k33_ob c]
        have g30 : ∀ i, i ≠ 12 → i ≠ 14 → i ≠ 0 → i ≠ 11 → i ≠ 13 → i ≠ 18 → g' 30 i = h 30 i := fun i a b c d e f => by
          rw [M9.2 i a b, opn_30 c d a e f, k33_ob (by decide), gh 30 (by decide) (by decide) (by decide) (by omega)]
        have yk : ∀ k, k ≠ 30 → k ≠ 31 → k ≠ 33 → k ≠ 50 → y k = h1 k := fun k a b c d => by rw [yo k a b, gk k a b c, og k d]
        have ml : f_X12_city g = some (nI (t + 1), y) := by
          rw [m_cityA, d2, obS, if_neg (nI_pos (by omega))]
          unfold F_X12_city_46
          rw [bnd_eq, if_neg (nI_pos (by omega))]
          unfold F_X12_city_59
          rw [tI0, obS, tff, if_neg (show ¬ (up1 g' 30 16 (-1)) 31 2 = 12 by rw [up1_ob (by decide), q31, w22]; exact fun z => by have := (nI_eq (b := 12) (by omega) (by omega)).mp z; omega)]
          unfold F_X12_city_83
          rw [tI0, obS, tff, bnd_eq, bnd_eq]
          dsimp only
          rw [show (up1 g' 30 16 (-1)) 31 2 = nI t by rw [up1_ob (by decide), q31, w22], nI_1, hy, y31, upd_at]
        have V0 : CV0 116 u2 n2 m2 w2 := V9
        have V27 := CP_CV0 p2 G9.1.2.2.2.1 (CV0_fr V9 fun k x y => o7 k (by omega))
        refine ⟨y, 0, Or.inl ⟨nI (t + 1), h1, nI (t + 1), cl, by rw [hg]; exact ml, ?_, ?_, rfl⟩, by omega, ⟨n2, m2, NOW_rw y31 (tx_Gd (by omega) G9) (CV0_fr (tx_CV V27) fun k x y' => ?_) (LG_cg (fun k hk => ?_) (LG_fr L2 fun k x y' => ?_)) (LV_cg G.1.2.2.2.2 (fun k hk => ?_) (LV_fr N.2.2.2 fun k x y' => ?_))⟩, TPs_0 ?_ ?_ ?_, IMs_fr M ?_ ?_ ?_ (fun k hk => ?_), PAs_no ?_ ?_ y7, ?_⟩
        · show y 30 0 = 0
          rw [y30 0 (by decide) (by decide), M9.2 0 (by decide) (by decide), opn_0]
        · rw [yo 50 (by decide) (by decide), gk 50 (by decide) (by decide) (by decide), g50]
        · rw [yk k (by omega) (by omega) (by omega) (by omega)]
          by_cases z : k = 100
          · rw [z, h116]
          · rw [o1 k (by omega) z, up1_ob z]
        · rw [upd_ob (by omega)]; exact R9 k (by omega)
        · rw [yk k (by omega) (by omega) (by omega) (by omega), o1 k (by omega) (by omega)]
        · rw [upd_ob (by omega)]; exact R9 k (by omega)
        · rw [yk k (by omega) (by omega) (by omega) (by omega), o1 k (by omega) (by omega), f2 k (by omega), e7 k (by omega) (by omega)]
        · rw [yk 2 (by decide) (by decide) (by decide) (by decide), o1 2 (by decide) (by decide), f2 2 (by omega)]; exact q721
        · rw [y30 11 (by decide) (by decide), M9.2 11 (by decide) (by decide), opn_11]
        · rw [y16, yk 2 (by decide) (by decide) (by decide) (by decide), o1 2 (by decide) (by decide), f2 2 (by omega)]; exact q722
        · rw [yk 1 (by decide) (by decide) (by decide) (by decide), ← hh1, up1_at, upd_ob (by decide), up1_ob (by decide), f2 1 (by omega), e7 1 (by decide) (by omega)]
        · rw [y30 6 (by decide) (by decide), g30 6 (by decide) (by decide) (by decide) (by decide) (by decide) (by decide)]
        · rw [yo 32 (by decide) (by decide), gk 32 (by decide) (by decide) (by decide), gh 32 (by decide) (by decide) (by decide) (by omega)]
        · rw [yo k (by omega) (by omega), gk k (by omega) (by omega) (by omega), gh k (by omega) (by omega) (by omega) (by omega)]
        · obtain ⟨F, C, p1, p2', p3, _⟩ := P
          exact ⟨F, p1, by rw [yk 1 (by decide) (by decide) (by decide) (by decide), ← hh1, up1_at, upd_ob (by decide), up1_ob (by decide), f2 1 (by omega), e7 1 (by decide) (by omega)]; exact p3⟩
        · rw [yk 1 (by decide) (by decide) (by decide) (by decide), ← hh1, up1_same]
        · rw [y30 21 (by decide) (by decide), g30 21 (by decide) (by decide) (by decide) (by decide) (by decide) (by decide)]; exact h21
      · rw [c1] at d1
        exact Bool.noConfusion (show true = false from congrArg Prod.fst (Option.some.inj d1))
    · obtain rfl : t = 12 := by omega
      have cl : f_X11_city h = some (Except.error "java/lang/UnsupportedOperationException", u7) := by
        unfold f_X11_city
        rw [er, obS, c1, obS, bnd_eq, bnd_eq, hu7, if_neg (show ¬ b2i true = 0 by decide), if_neg (by rw [q16]; decide)]
      rcases R u7 (fun k x y => e7 k (by omega) (by omega)) with ⟨u2, g', cc, n2, m2, w2, d1, d2, c14, q31, _, _, R9, _, M9, _⟩ | ⟨u2, g', x, d1, _⟩
      · refine ⟨_, 1, Or.inr (Or.inr ⟨u7, 0, cl, ?_, ?_, rfl⟩), by omega, city_no (y := -1) (t := 2) I e7 q721 q722 M9 (by rw [q31]; exact R9)⟩
        · have w22 : w2 2 = nI 12 := by rw [R9 2 (by omega), et]
          rw [m_cityA, d2, obS, if_neg (nI_pos (by omega))]
          unfold F_X12_city_46
          rw [bnd_eq, if_neg (nI_pos (by omega))]
          unfold F_X12_city_59
          rw [tI0, obS, tff, if_pos (show (up1 g' 30 16 (-1)) 31 2 = 12 by rw [up1_ob (by decide), q31, w22]; rfl)]
          unfold F_X12_city_83
          rw [tI1, obS, ttt]
          exact m_rest
        · show _ = (2 : Int32)
          unfold f_X12_thrown
          rw [upA_ob (by decide), up1_same]
      · rw [c1] at d1
        exact Bool.noConfusion (show true = false from congrArg Prod.fst (Option.some.inj d1))
  · obtain ⟨u7, hu7⟩ : ∃ u7, up1 u' 2 1 0 = u7 := ⟨_, rfl⟩
    have o7 : ∀ k, k ≠ 2 → u7 k = u' k := fun k a => by rw [← hu7, up1_ob a]
    have e7 : ∀ k, k ≠ 2 → (k < 116 ∨ 126 < k) → u7 k = h k := fun k a b => by rw [o7 k a, uo u' K' k a b]
    have cl : f_X11_city h = some (Except.error "java/lang/IllegalArgumentException", u7) := by
      unfold f_X11_city
      rw [er, obS, c1, obS, bnd_eq, bnd_eq, hu7, if_pos (show b2i false = 0 from rfl)]
    rcases R u7 (fun k x y => e7 k (by omega) (by omega)) with ⟨u2, g', cc, n2, m2, w2, d1, _⟩ | ⟨u2, g', y, d1, d2, y1, y2, R9, _, M9⟩
    · rw [c1] at d1
      exact Bool.noConfusion (show false = true from congrArg Prod.fst (Option.some.inj d1))
    · obtain rfl : u2 = u' := by rw [c1] at d1; exact (congrArg Prod.snd (Option.some.inj d1)).symm
      refine ⟨_, 1, Or.inr (Or.inl ⟨u7, 0, cl, ?_, ?_, rfl⟩), by omega, city_no (y := nI y) (t := 1) I e7 (by rw [← hu7, up1_same]) (by rw [← hu7, up1_at, upd_ob (by decide), y1]) M9 R9⟩
      · rw [m_cityA, d2, obS, if_pos (show (-1 : Int32) < 0 by decide)]
        dsimp only
        rw [y2]
        unfold F_X12_city_46
        rw [bnd_eq, if_pos (show (-1 : Int32) < 0 by decide)]
        unfold F_X12_city_59
        rw [tI1, obS, ttt]
        exact m_rest
      · unfold f_X12_thrown
        rw [upA_ob (by decide), up1_same]
