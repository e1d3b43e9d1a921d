/-! LAYER 4. gates -/
section GT
variable {n m e : Nat} {w : Row} {h u : Hp}
theorem m_g64 {p : Nat} {x1 : Int32} (g : Gd n m w) (ee : w 4 = nI e) (he : e < 7) (V : HV2 n m e w u) (R : ∀ p, p ≤ m → MR (gnN n m w e) p u) (hp : p < m) :
    ∀ c : Int32 → Int32 → Int32 → Hp → Option (Int32 × Hp), F_X12_gates_64 c x1 (nI (tkN (gnN n m w e) p)) (nI p) FU (-1) u = c (nI (tkN (gnN n m w e) (p + 1))) (fpI (gnN n m w e) (5 - p) (tkN (gnN n m w e) p)) (nI (p + 1)) u := by
  intro c
  have h8 := g.1.2.1
  have h6 := g.1.2.2.2.1
  obtain ⟨G, hGe⟩ : ∃ G, gnN n m w e = G := ⟨_, rfl⟩
  have hG : ∀ p i, i < 8 → G p i ≤ 99 := fun p i hi => by rw [← hGe]; exact gn_99 g hi
  have bd : ∀ k x, k ≤ 6 → cmN G k x ≤ 594 := fun k x hk => Nat.le_trans (cm_b hG k x) (by omega)
  have ⟨t1, t2⟩ := tk_ok (G := G) p
  have k2 : 6 - p = 5 - p + 1 := by omega
  have k3 : 5 - (5 - p) = p := by omega
  have Rp := R p (by omega) (tkN G p) t1
  have hN := m_heldN (R (p + 1) (by omega)) (by omega) t1
  have hI := fun i hi => m_heldI (u := u) (p := p) (x := tkN G p) (i := i) g ee he V (R (p + 1) (by omega)) hp t1 hi
  have tks : tkN G (p + 1) = if cmN G (5 - p) (tkN G p) = cmN G (5 - p + 1) (tkN G p) then tkN G p else tkN G p ||| 2 ^ lsF (fqB G (5 - p) (tkN G p)) 8 0 := rfl
  rw [hGe] at Rp hN hI ⊢
  rw [tks]
  rw [k2] at Rp
  obtain ⟨x, hx⟩ : ∃ x, tkN G p = x := ⟨_, rfl⟩
  rw [hx] at Rp hN hI t1 t2 ⊢
  have b1 := bd (5 - p) x (by omega)
  have b2 := bd (5 - p + 1) x (by omega)
  have Q := loopV (S_X12_gates_64 c x1 (nI x) (nI p)) (fun _ _ => none) (fun q (t : Nat) => q (nI t - 1) u) (n + 1) (fun j t => t = j ∧ (0 < j → ¬ cmN G (5 - p) x = cmN G (5 - p + 1) x) ∧ ∀ i, i + 1 < j → fqB G (5 - p) x i = false)
    (fun r => r = c (nI (if cmN G (5 - p) x = cmN G (5 - p + 1) x then x else x ||| 2 ^ lsF (fqB G (5 - p) x) 8 0)) (fpI G (5 - p) x) (nI (p + 1)) u) (by omega) (fun j t hj hs => ?_) (fun t hs => ?_) 0 ⟨rfl, fun q => absurd q (Nat.lt_irrefl 0), fun i hi => absurd hi (Nat.not_lt_zero _)⟩
  · exact Q
  · obtain ⟨rfl, h0, hz⟩ := hs
    rcases t with _ | t
    · have st : ∀ q : Int32 → Hp → Option (Int32 × Hp), S_X12_gates_64 c x1 (nI x) (nI p) q (nI 0 - 1) u = if cmN G (5 - p) x = cmN G (5 - p + 1) x then c (nI x) (-1) (nI (p + 1)) u else q (nI (0 + 1) - 1) u := fun q => by
        unfold S_X12_gates_64 F_X12_gates_105
        rw [show nI 0 - 1 = -1 from by decide, hN, obS, hA (by omega), gdT (nI_ix (by omega) (by omega)), nI_clamp (by omega), Rp, if_pos (show (-1 : Int32) = -1 from rfl), bnd_eq, Int32.or_zero, nI_1]
        by_cases d : cmN G (5 - p) x = cmN G (5 - p + 1) x
        · rw [if_pos (by rw [d]), if_pos d]
        · rw [if_neg (by rw [zeq (by omega) (by omega)]; exact d), if_neg d]
          rfl
      by_cases d : cmN G (5 - p) x = cmN G (5 - p + 1) x
      · refine Or.inr ⟨_, rfl, fun q => ?_⟩
        show S_X12_gates_64 c x1 (nI x) (nI p) q (nI 0 - 1) u = _
        rw [st, if_pos d, if_pos d]
        unfold fpI
        rw [if_pos d]
      · refine Or.inl ⟨1, ⟨rfl, fun _ => d, fun i hi => absurd hi (by omega)⟩, fun q => ?_⟩
        show S_X12_gates_64 c x1 (nI x) (nI p) q (nI 0 - 1) u = q (nI 1 - 1) u
        rw [st, if_neg d]
    · have ne := h0 (Nat.succ_pos t)
      have ⟨l1, l2, l3⟩ := ls_8 ne
      have ⟨o1, o2, o3⟩ := bx_or x t1 t (by omega)
      have b3 := bd (5 - p) (x ||| 2 ^ t) (by omega)
      have b4 := hG p t (by omega)
      have co := cm_o (G := G) (k := 5 - p) (x := x) (i := t)
      have ge := fm_0 (f := cfN G (5 - p) x) (a := cmN G (5 - p) x) 8
      rw [← cm_s] at ge
      -- the test is that of the first place
      have tst : ((if falB w t = false ∧ bxN x t = false then nI (G p t + cmN G (5 - p) (x ||| 2 ^ t)) else -1) = nI (cmN G (5 - p + 1) x)) ↔ fqB G (5 - p) x t = true := by
        unfold fqB
        rw [k3]
        by_cases d : 0 < G p t
        · have ⟨u1, _⟩ := gn_up (n := n) (m := m) (w := w) (e := e) (p := p) (i := t) (by rw [hGe]; exact d)
          have uf : falB w t = false := by
            rw [up_fal (upB_lt u1)] at u1
            cases z : falB w t
            · rfl
            · rw [z] at u1; exact Bool.noConfusion u1
          cases bx : bxN x t
          · rw [if_pos ⟨uf, rfl⟩, zeq (by omega) (by omega), decide_eq_true d]
            simp
          · rw [if_neg (fun z => Bool.noConfusion z.2)]
            constructor
            · intro z
              exact absurd z.symm (fun y => (zem (by omega)).mp y)
            · intro z
              simp at z
        · rw [decide_eq_false d]
          constructor
          · intro z
            by_cases c : falB w t = false ∧ bxN x t = false
            · rw [if_pos c, zeq (by omega) (by omega)] at z
              omega
            · rw [if_neg c] at z
              exact absurd z.symm (fun y => (zem (by omega)).mp y)
          · intro z
            simp at z
      have st : ∀ q : Int32 → Hp → Option (Int32 × Hp), S_X12_gates_64 c x1 (nI x) (nI p) q (nI (t + 1) - 1) u = if fqB G (5 - p) x t = true then c (nI (x ||| 2 ^ t)) (nI t) (nI (p + 1)) u else q (nI (t + 1 + 1) - 1) u := fun q => by
        unfold S_X12_gates_64 F_X12_gates_105
        rw [tm1, tm1, hI t (by omega), obS, hA (by omega), gdT (nI_ix (by omega) (by omega)), nI_clamp (by omega), Rp, if_neg (show ¬ nI t = -1 from fun z => (zem (by omega)).mp z), bnd_eq, o2, nI_1, nI_1]
        by_cases d : fqB G (5 - p) x t = true
        · rw [if_pos (tst.mpr d), if_pos d]
        · rw [if_neg (fun z => d (tst.mp z)), if_neg d]
      by_cases d : fqB G (5 - p) x t = true
      · have lt : lsF (fqB G (5 - p) x) 8 0 = t := by
          by_cases lt : lsF (fqB G (5 - p) x) 8 0 < t
          · rw [hz _ (by omega)] at l2; exact Bool.noConfusion l2
          · by_cases gt : t < lsF (fqB G (5 - p) x) 8 0
            · rw [l3 t gt] at d; exact Bool.noConfusion d
            · omega
        refine Or.inr ⟨_, rfl, fun q => ?_⟩
        show S_X12_gates_64 c x1 (nI x) (nI p) q (nI (t + 1) - 1) u = _
        rw [st, if_pos d]
        unfold fpI
        rw [if_neg ne, if_neg ne, lt]
      · refine Or.inl ⟨t + 1 + 1, ⟨rfl, fun _ => ne, fun i hi => ?_⟩, fun q => by
          show S_X12_gates_64 c x1 (nI x) (nI p) q (nI (t + 1) - 1) u = q (nI (t + 1 + 1) - 1) u
          rw [st, if_neg d]⟩
        by_cases z : i = t
        · rw [z]; exact Bool.eq_false_iff.mpr d
        · exact hz i (by omega)
  · obtain ⟨rfl, h0, hz⟩ := hs
    have ne := h0 (Nat.succ_pos n)
    have ⟨l1, l2, l3⟩ := ls_8 ne
    generalize lsF (fqB G (5 - p) x) 8 0 = tt at l1 l2 l3
    have l2' := l2
    unfold fqB at l2
    rw [k3] at l2
    have d : 0 < G p tt := of_decide_eq_true (Bool.and_eq_true_iff.mp (Bool.and_eq_true_iff.mp l2).1).1
    have ⟨u1, _⟩ := gn_up (n := n) (m := m) (w := w) (e := e) (p := p) (i := tt) (by rw [hGe]; exact d)
    have := upB_lt u1
    rw [hz _ (by omega)] at l2'
    exact Bool.noConfusion l2'
theorem m_g56 {P : Nat} (g : Gd n m w) (ee : w 4 = nI e) (he : e < 7) (V : HV2 n m e w u) (R : ∀ p, p ≤ m → MR (gnN n m w e) p u) (hP : P < m) :
    F_X12_gates_56 (nI P) FU 0 (-1) 0 u = some (fpI (gnN n m w e) (5 - P) (tkN (gnN n m w e) P), u) := by
  have h6 := g.1.2.2.2.1
  have Q := loop0 (S_X12_gates_56 (nI P)) (fun _ _ _ _ => none) (fun p q => q (nI (tkN (gnN n m w e) p)) (if p = 0 then -1 else fpI (gnN n m w e) (5 - (p - 1)) (tkN (gnN n m w e) (p - 1))) (nI p) u) (P + 1) (some (fpI (gnN n m w e) (5 - P) (tkN (gnN n m w e) P), u)) (by omega) (fun p hp q => ?_) (fun q => ?_)
  · rw [if_pos rfl] at Q
    exact Q
  · show S_X12_gates_56 (nI P) q (nI (tkN (gnN n m w e) p)) (if p = 0 then -1 else fpI (gnN n m w e) (5 - (p - 1)) (tkN (gnN n m w e) (p - 1))) (nI p) u = q (nI (tkN (gnN n m w e) (p + 1))) (if p + 1 = 0 then -1 else fpI (gnN n m w e) (5 - (p + 1 - 1)) (tkN (gnN n m w e) (p + 1 - 1))) (nI (p + 1)) u
    unfold S_X12_gates_56
    rw [if_neg (show ¬ nI P < nI p from fun z => absurd ((nI_ltI (by omega) (by omega)).mp z) (by omega)), m_g64 g ee he V R (by omega), if_neg (Nat.succ_ne_zero p), Nat.add_sub_cancel]
  · show S_X12_gates_56 (nI P) q (nI (tkN (gnN n m w e) (P + 1))) (if P + 1 = 0 then -1 else fpI (gnN n m w e) (5 - (P + 1 - 1)) (tkN (gnN n m w e) (P + 1 - 1))) (nI (P + 1)) u = _
    unfold S_X12_gates_56
    rw [if_pos ((nI_ltI (by omega) (by omega)).mpr (by omega)), if_neg (Nat.succ_ne_zero P), Nat.add_sub_cancel]
theorem c_gates {x : Int32} (N : NOW n m h) (ee : h 31 4 = nI e) (he : e < 7) (Z : ∀ k, 1536 ≤ k → h 20 k = 0) (hx : x = -1 ∨ ∃ p, p < 6 ∧ x = nI p) :
    ∃ u, F_X11_gates_10 x h = some (Except.ok (if x = -1 then nI (cmN (gnN n m (h 31) e) 6 0) else fpI (gnN n m (h 31) e) (5 - x.toNatClampNeg) (tkN (gnN n m (h 31) e) x.toNatClampNeg)), u) ∧ (∀ k, (k ≤ 3 ∨ (27 ≤ k ∧ k ≤ 110) ∨ (132 ≤ k ∧ k < 340) ∨ (500 ≤ k ∧ k ≤ 506) ∨ (532 ≤ k ∧ k ≤ 538)) → u k = h k) ∧ ∀ k, 1536 ≤ k → u 20 k = 0 := by
  have g := N.1
  have h6 := g.1.2.2.2.1
  obtain ⟨r, e1, K1, V, Gl, L, f1⟩ := c_probe N
  have Q := loopW (S_X11_gates_23 x) (fun _ _ => none) (fun q (s : Nat × Hp) => q (nI s.1) s.2) 6 (fun p s => s.1 = p ∧ CV0 116 s.2 n m (nbW (h 31) (min p m)) ∧ LV 500 s.2 (nbW (h 31) (min p m)) ∧ ∀ k, k ≠ 122 → s.2 k = r k)
    (fun q => ∃ u, q = some (Except.ok (if x = -1 then nI (cmN (gnN n m (h 31) e) 6 0) else fpI (gnN n m (h 31) e) (5 - x.toNatClampNeg) (tkN (gnN n m (h 31) e) x.toNatClampNeg)), u) ∧ (∀ k, (k ≤ 3 ∨ (27 ≤ k ∧ k ≤ 110) ∨ (132 ≤ k ∧ k < 340) ∨ (500 ≤ k ∧ k ≤ 506) ∨ (532 ≤ k ∧ k ≤ 538)) → u k = h k) ∧ ∀ k, 1536 ≤ k → u 20 k = 0) (by omega) (fun p s hp hs => ?_) (fun s hs => ?_) (0, r) ⟨rfl, by rw [Nat.zero_min]; exact V, by rw [Nat.zero_min]; exact L, fun _ _ => rfl⟩
  · unfold F_X11_gates_10
    rw [e1, obS]
    exact Q
  · obtain ⟨p', v⟩ := s
    dsimp only at hs
    obtain ⟨hp', v1, v2, v3⟩ := hs
    obtain rfl : p' = p := hp'
    by_cases c : p' < m
    · have mp : min p' m = p' := by omega
      have mp1 : min (p' + 1) m = p' + 1 := by omega
      rw [mp] at v1 v2
      refine ⟨(p' + 1, up1 v 122 p' (-1)), ⟨rfl, ?_, ?_, fun k hk => by dsimp only; rw [up1_ob hk, v3 k hk]⟩, fun q => ?_⟩
      · rw [mp1]
        exact CV0_put v1 h6 c (by dsimp only; exact up1_at) (fun k hk => up1_ob hk)
      · rw [mp1]
        exact LV_cg (nb_Gd g p' (by omega)).1.2.2.2.2 (fun k hk => plW_ob (by omega)) (LV_fr v2 fun k x y => up1_ob (by omega))
      · show S_X11_gates_23 x q (nI p') v = q (nI (p' + 1)) _
        unfold S_X11_gates_23
        rw [if_pos (show nI p' < 6 from (nI_ltI (b := 6) (by omega) (by omega)).mpr hp), c_put v1 h6 c, obS, nI_1]
    · have mp : min p' m = m := by omega
      have mp1 : min (p' + 1) m = m := by omega
      rw [mp] at v1 v2
      refine ⟨(p' + 1, v), ⟨rfl, by rw [mp1]; exact v1, by rw [mp1]; exact v2, v3⟩, fun q => ?_⟩
      show S_X11_gates_23 x q (nI p') v = q (nI (p' + 1)) v
      unfold S_X11_gates_23 f_X1_put
      rw [if_pos (show nI p' < 6 from (nI_ltI (b := 6) (by omega) (by omega)).mpr hp), c_isPerson v1.2.2.2.1.2.1 h6 (by omega), decide_eq_false c, tff, obS, nI_1]
  · obtain ⟨p', v⟩ := s
    dsimp only at hs
    obtain ⟨hp', v1, v2, v3⟩ := hs
    obtain rfl : p' = 6 := hp'
    have mp : min 6 m = m := by omega
    rw [mp] at v1 v2
    have e12 : v 116 12 = nI e := by rw [v1.2.2.2.2.1, nb_ob (by omega) m h6, ee]
    obtain ⟨s, e2, S, _, f2⟩ := c_measure (c := 116) (r := 500) (e := e) (by decide) (Or.inl (by decide)) (by decide) (nb_Gd g m (Nat.le_refl m)) v1 v2 he
    obtain ⟨u, e3, p3, z3, f3⟩ := c_solve (h := s) g he ee (CV0_fr v1 fun k x y => f2 k (by omega) (by omega)) S (fun k hk => by rw [f2 20 (by omega) (by omega), v3 20 (by decide), f1 20 (by omega)]; exact Z k hk)
    refine ⟨_, ⟨u, rfl, fun k hk => by rw [f3 k (by omega) (by omega) (by omega), f2 k (by omega) (by omega), v3 k (by omega), f1 k (by omega)], z3⟩, fun q => ?_⟩
    show S_X11_gates_23 x q (nI 6) v = _
    unfold S_X11_gates_23
    rw [if_neg (show ¬ nI 6 < 6 by decide), e12, e2, obS, e3, obS]
    dsimp only
    rcases hx with rfl | ⟨p, hp, rfl⟩
    · rw [if_pos rfl, if_pos rfl]
    · have ne : ¬ nI p = -1 := fun z => (zem (by omega)).mp z
      rw [if_neg ne, if_neg ne]
      unfold f_X7_placeOf
      rw [if_neg (nI_pos (by omega)), if_pos (show nI p < 6 from (nI_ltI (b := 6) (by omega) (by omega)).mpr hp), gdT (nI_ix hp (by omega)), nI_clamp (by omega), obS, p3 p hp]
end GT
theorem Inv_G {h h1 : Hp} (I : Inv h) (K : ∀ k, (k ≤ 3 ∨ (27 ≤ k ∧ k ≤ 110) ∨ (132 ≤ k ∧ k < 340) ∨ (500 ≤ k ∧ k ≤ 506) ∨ (532 ≤ k ∧ k ≤ 538)) → h1 k = h k) (z : ∀ k, 1536 ≤ k → h1 20 k = 0) : Inv h1 := by
  obtain ⟨⟨n, m, N⟩, T, M, P, h21⟩ := id I
  have J : Inv (upA h1 20 (h 20)) := Inv_KC I (fun k hk => by
    by_cases c : k = 20
    · rw [c, upA_at]
    · rw [upA_ob c, K k (by omega)])
  obtain ⟨b0, i1, i2, i3⟩ := M.2
  exact ⟨⟨n, m, NOW_rw (K 31 (by omega)) N.1 (CV0_fr N.2.1 fun k x y => K k (by omega)) (LG_fr N.2.2.1 fun k x y => K k (by omega)) (LV_fr N.2.2.2 fun k x y => K k (by omega))⟩,
    TPs_fr T (K 2 (by omega)) (K 3 (by omega)) (K 38 (by omega)) (by rw [K 30 (by omega)]) (by rw [K 30 (by omega)]),
    ⟨z, b0, by rw [K 1 (by omega)]; exact i1, by rw [K 30 (by omega)]; exact i2, fun hb => by
      obtain ⟨n', m', x1, x2, x3, x4⟩ := i3 hb
      exact ⟨n', m', by rw [K 32 (by omega)]; exact x1, by rw [K 32 (by omega)]; exact CV0_fr x2 fun k x y => K k (by omega), by rw [K 32 (by omega)]; exact LG_fr x3 fun k x y => K k (by omega), by rw [K 32 (by omega)]; exact LV_fr x4 fun k x y => K k (by omega)⟩⟩,
    PAs_fr P (by rw [K 1 (by omega)]) (by rw [K 1 (by omega)]) (by rw [K 30 (by omega)]) (K 35 (by omega)) (fun k _ => by rw [K 31 (by omega)]) (fun k hk2 => K k (by omega)), by rw [K 30 (by omega)]; exact h21⟩
theorem sp_34 {a : Nat → Int32} {h : Hp} (I : Inv h) : ∃ h' n, St_34 a h h' n ∧ n ≤ 1 ∧ Inv h' := by
  obtain ⟨⟨n, m, N⟩, _, ⟨Z, _⟩, _⟩ := id I
  have g := N.1
  have h6 := g.1.2.2.2.1
  have cm := N.2.1.2.2.2.1.2.1
  obtain ⟨e, he, ee⟩ := g.2.2.2.2.1
  -- both, with a person or none
  have ok : (a 1 = -1 ∨ ∃ p, p < m ∧ a 1 = nI p) → ∃ h' n, St_34 a h h' n ∧ n ≤ 1 ∧ Inv h' := by
    intro hx
    obtain ⟨u, c1, K, z⟩ := c_gates N ee (by omega) Z (hx.imp id fun ⟨p, hp, q⟩ => ⟨p, by omega, q⟩)
    have I1 := Inv_G I K z
    obtain ⟨X, hX⟩ : ∃ X, (if a 1 = -1 then nI (cmN (gnN n m (h 31) e) 6 0) else fpI (gnN n m (h 31) e) (5 - (a 1).toNatClampNeg) (tkN (gnN n m (h 31) e) (a 1).toNatClampNeg)) = X := ⟨_, rfl⟩
    rw [hX] at c1
    have I2 : Inv (up1 u 50 0 X) := Inv_50 I1
    obtain ⟨q, hq⟩ : ∃ q, up1 u 50 0 X = q := ⟨_, rfl⟩
    have qo : ∀ k, k ≠ 50 → q k = u k := fun k x => by rw [← hq, up1_ob x]
    rw [hq] at I2
    have w : (up1 q 30 0 0) 31 = h 31 := by rw [up1_ob (by decide), qo 31 (by decide), K 31 (by omega)]
    obtain ⟨v, m1, V, R, K2, z2⟩ := m_laysGates (h := up1 q 30 0 0) g ee (by omega) w (by rw [up1_at, upd_ob (by decide)]; exact I2.2.2.2.2)
    refine ⟨v, 0, Or.inl ⟨X, u, X, ?_, ?_, by rw [show f_X12_thrown v = v 30 0 from rfl, z2, up1_same], ?_, rfl⟩, by omega, Inv_KM I2 (KM_trans KM_0 K2)⟩
    · unfold f_X11_gates
      rcases hx with z | ⟨p, hp, z⟩
      · rw [if_pos z]; exact c1
      · rw [if_neg (by rw [z]; exact fun y => (zem (by omega)).mp y), z, ckP_i cm h6 hp, obS, exOk, ← z]; exact c1
    · rw [hq, ← hX]
      unfold f_X12_gates F_X12_gates_24
      rw [bnd_eq, tI0, obS]
      dsimp only
      rw [tff, m1, obS]
      have r0 := R 0 (by omega) 0 (by omega)
      rw [show 256 * 0 + 0 = 0 from rfl, show 6 - 0 = 6 from rfl] at r0
      rcases hx with z | ⟨p, hp, z⟩
      · rw [if_pos z, if_pos z, if_pos z, r0]
      · have ne : ¬ a 1 = -1 := by rw [z]; exact fun y => (zem (by omega)).mp y
        rw [if_neg ne, if_neg ne, if_neg ne, z, noP_i (by rw [w]; exact g.1.2.2.1) h6 hp, tff, m_g56 g ee (by omega) V R hp, nI_clamp (by omega)]
    · rw [K2.1 50 (by omega), up1_ob (by decide), ← hq, up1_same]
  by_cases c : a 1 = -1
  · exact ok (Or.inl c)
  · rcases argI (a 1) (n := m) (by omega) with ⟨p, hp, e1⟩ | hx
    · exact ok (Or.inr ⟨p, hp, e1⟩)
    · obtain ⟨h', k, s, l, J⟩ := qEr (c := f_X11_gates (a 1)) (md := f_X12_gates (a 1)) (E := "java/lang/IndexOutOfBoundsException") (t := 1) I ⟨h, by
          unfold f_X11_gates
          rw [if_neg c, ckP_x cm h6 hx, obS, exEr], KC_refl h⟩ (fun q _ qe => bE (by
          unfold f_X12_gates F_X12_gates_24
          rw [bnd_eq, if_neg c, noP_x (by rw [w30' qe]; exact g.1.2.2.1) h6 hx, ttt, tI1, obS]
          rfl))
      exact ⟨h', k, Or.inr s, l, J⟩
