/-! LAYER 4. From a call of the class and one of the model to a step -/
theorem qOk {c : Hp → Option (Except String Int32 × Hp)} {md : Hp → Option (Int32 × Hp)} {h : Hp} {v : Int32} (I : Inv h) (hc : ∃ h1, c h = some (Except.ok v, h1) ∧ KC h h1)
    (hm : ∀ g, Inv g → (∀ k, 27 ≤ k → k ≤ 46 → g k = h k) → ∃ h', md g = some (v, h') ∧ h' 30 0 = 0 ∧ KM g h') :
    ∃ h' n, (∃ (v : Int32) (h1 : Hp) (b : Int32), c h = some (Except.ok v, h1) ∧ md (up1 h1 50 0 v) = some (b, h') ∧ f_X12_thrown h' = 0 ∧ h' 50 0 = b ∧ n = 0) ∧ n ≤ 1 ∧ Inv h' := by
  obtain ⟨h1, c1, K1⟩ := hc
  have I1 : Inv (up1 h1 50 0 v) := Inv_50 (Inv_KC I K1)
  obtain ⟨h', d1, d2, K2⟩ := hm _ I1 (fun k a b => by rw [up1_ob (by omega)]; exact K1 k (by omega))
  exact ⟨h', 0, ⟨v, h1, v, c1, d1, d2, by rw [K2.1 50 (by omega), up1_same], rfl⟩, by omega, Inv_KM I1 K2⟩
theorem qEr {c : Hp → Option (Except String Int32 × Hp)} {md : Hp → Option (Int32 × Hp)} {h : Hp} {E : String} {t : Int32} (I : Inv h) (hc : ∃ h1, c h = some (Except.error E, h1) ∧ KC h h1)
    (hm : ∀ g, Inv g → (∀ k, 27 ≤ k → k ≤ 46 → g k = h k) → ∃ b h', md g = some (b, h') ∧ h' 30 0 = t ∧ KM g h') :
    ∃ h' n, (∃ (h1 : Hp) (b : Int32), c h = some (Except.error E, h1) ∧ md h1 = some (b, h') ∧ f_X12_thrown h' = t ∧ n = 1) ∧ n ≤ 1 ∧ Inv h' := by
  obtain ⟨h1, c1, K1⟩ := hc
  have I1 : Inv h1 := Inv_KC I K1
  obtain ⟨b, h', d1, d2, K2⟩ := hm _ I1 (fun k a b => K1 k (by omega))
  exact ⟨h', 1, ⟨h1, b, c1, d1, d2, rfl⟩, by omega, Inv_KM I1 K2⟩
theorem qOkB {c : Hp → Option (Except String Bool × Hp)} {md : Hp → Option (Bool × Hp)} {h : Hp} {v : Bool} (I : Inv h) (hc : ∃ h1, c h = some (Except.ok v, h1) ∧ KC h h1)
    (hm : ∀ g, Inv g → (∀ k, 27 ≤ k → k ≤ 46 → g k = h k) → ∃ h', md g = some (v, h') ∧ h' 30 0 = 0 ∧ KM g h') :
    ∃ h' n, (∃ (v : Bool) (h1 : Hp) (b : Bool), c h = some (Except.ok v, h1) ∧ md (up1 h1 50 0 (b2i v)) = some (b, h') ∧ f_X12_thrown h' = 0 ∧ h' 50 0 = b2i b ∧ n = 0) ∧ n ≤ 1 ∧ Inv h' := by
  obtain ⟨h1, c1, K1⟩ := hc
  have I1 : Inv (up1 h1 50 0 (b2i v)) := Inv_50 (Inv_KC I K1)
  obtain ⟨h', d1, d2, K2⟩ := hm _ I1 (fun k a b => by rw [up1_ob (by omega)]; exact K1 k (by omega))
  exact ⟨h', 0, ⟨v, h1, v, c1, d1, d2, by rw [K2.1 50 (by omega), up1_same], rfl⟩, by omega, Inv_KM I1 K2⟩
theorem qErB {c : Hp → Option (Except String Bool × Hp)} {md : Hp → Option (Bool × Hp)} {h : Hp} {E : String} {t : Int32} (I : Inv h) (hc : ∃ h1, c h = some (Except.error E, h1) ∧ KC h h1)
    (hm : ∀ g, Inv g → (∀ k, 27 ≤ k → k ≤ 46 → g k = h k) → ∃ b h', md g = some (b, h') ∧ h' 30 0 = t ∧ KM g h') :
    ∃ h' n, (∃ (h1 : Hp) (b : Bool), c h = some (Except.error E, h1) ∧ md h1 = some (b, h') ∧ f_X12_thrown h' = t ∧ n = 1) ∧ n ≤ 1 ∧ Inv h' := by
  obtain ⟨h1, c1, K1⟩ := hc
  have I1 : Inv h1 := Inv_KC I K1
  obtain ⟨b, h', d1, d2, K2⟩ := hm _ I1 (fun k a b => K1 k (by omega))
  exact ⟨h', 1, ⟨h1, b, c1, d1, d2, rfl⟩, by omega, Inv_KM I1 K2⟩
theorem qNo {c md : Hp → Option (Int32 × Hp)} {h : Hp} {v : Int32} (I : Inv h) (hc : ∃ h1, c h = some (v, h1) ∧ KC h h1)
    (hm : ∀ g, Inv g → (∀ k, 27 ≤ k → k ≤ 46 → g k = h k) → ∃ h', md g = some (v, h') ∧ KM g h') :
    ∃ h' n, (∃ (v : Int32) (h1 : Hp), c h = some (v, h1) ∧ md h1 = some (v, h') ∧ n = 0) ∧ n ≤ 1 ∧ Inv h' := by
  obtain ⟨h1, c1, K1⟩ := hc
  have I1 : Inv h1 := Inv_KC I K1
  obtain ⟨h', d1, K2⟩ := hm _ I1 (fun k a b => K1 k (by omega))
  exact ⟨h', 0, ⟨v, h1, c1, d1, rfl⟩, by omega, Inv_KM I1 K2⟩
theorem qPu {c : Hp → Option Int32} {md : Hp → Option (Int32 × Hp)} {h : Hp} {v : Int32} (I : Inv h) (hc : c h = some v) (hm : ∃ h', md h = some (v, h') ∧ KM h h') :
    ∃ h' n, (∃ v : Int32, c h = some v ∧ md h = some (v, h') ∧ n = 0) ∧ n ≤ 1 ∧ Inv h' := by
  obtain ⟨h', d1, K2⟩ := hm
  exact ⟨h', 0, ⟨v, hc, d1, rfl⟩, by omega, Inv_KM I K2⟩
theorem stOr {A B : Nat → Prop} {C : Hp → Prop} {h' : Hp} {f : Hp → Nat → Prop} (q : ∃ h' n, f h' n ∧ n ≤ 1 ∧ C h') (k : ∀ h' n, f h' n → A n) : True := trivial
theorem NOWg {h g : Hp} {n m : Nat} (N : NOW n m h) (e : ∀ k, 27 ≤ k → k ≤ 46 → g k = h k) : Gd n m (g 31) := by rw [e 31 (by decide) (by decide)]; exact N.1
/-! part -/
theorem m_part_x {g : Hp} {n m : Nat} {x y : Int32} (G : GdN n m (g 31)) (hx : (x < 0 ∨ nI n ≤ x) ∨ (y < 0 ∨ nI n ≤ y)) : ∃ b h', f_X12_part x y g = some (b, h') ∧ h' 30 0 = 1 ∧ KM g h' := by
  have w1 : (up1 g 30 0 0) 31 = g 31 := up1_ob (by decide)
  have fin : F_X12_part_27 x y 1 (up1 g 30 0 0) = some (0, up1 (up1 g 30 0 0) 30 0 1) := by
    unfold F_X12_part_27; rw [tI1, obS]; rfl
  refine ⟨0, up1 (up1 g 30 0 0) 30 0 1, ?_, up1_same, KM_trans KM_0 KM_0⟩
  unfold f_X12_part
  rw [bnd_eq]
  rcases hx with hx | hy
  · rw [noH_x (by rw [w1]; exact G.1) G.2.1 hx, ttt, fin]
  · rw [noH_x (x := y) (by rw [w1]; exact G.1) G.2.1 hy, ttt, fin, ite_self]
theorem sp_6 {a : Nat → Int32} {h : Hp} (I : Inv h) : ∃ h' n, St_6 a h h' n ∧ n ≤ 1 ∧ Inv h' := by
  obtain ⟨⟨n, m, N⟩, _⟩ := id I
  have h8 := N.1.1.2.1
  have cn := N.2.1.2.2.2.1.1
  have bad : ((a 1 < 0 ∨ nI n ≤ a 1) ∨ (a 2 < 0 ∨ nI n ≤ a 2)) → (f_X11_part (a 1) (a 2) h = some (Except.error "java/lang/IndexOutOfBoundsException", h)) → ∃ h' n, St_6 a h h' n ∧ n ≤ 1 ∧ Inv h' := by
    intro hx ce
    obtain ⟨h', k, s, l, J⟩ := qEr (c := f_X11_part (a 1) (a 2)) (md := f_X12_part (a 1) (a 2)) I ⟨h, ce, KC_refl h⟩ (fun g _ e => m_part_x (NOWg N e).1 hx)
    exact ⟨h', k, Or.inr s, l, J⟩
  rcases argI (a 1) (n := n) (by omega) with ⟨i, hi, e1⟩ | hx
  · rcases argI (a 2) (n := n) (by omega) with ⟨o, ho, e2⟩ | hy
    · obtain ⟨h', k, s, l, J⟩ := qOk (c := f_X11_part (a 1) (a 2)) (md := f_X12_part (a 1) (a 2)) (v := ptR (h 31) i o) I ⟨h, by
          rw [e1, e2]
          unfold f_X11_part
          rw [ckH_i cn h8 hi, obS, exOk, ckH_i cn h8 ho, obS, exOk, c_partOf N.2.1 N.1 (by omega) (by omega), obS], KC_refl h⟩ (fun g _ e => by
          have G := (NOWg N e).1
          have w1 : (up1 g 30 0 0) 31 = g 31 := up1_ob (by decide)
          refine ⟨up1 g 30 0 0, ?_, up1_same, KM_0⟩
          rw [e1, e2]
          unfold f_X12_part F_X12_part_27
          rw [bnd_eq, noH_i (by rw [w1]; exact G.1) h8 hi, tff, noH_i (by rw [w1]; exact G.1) h8 ho, tff, tI0, obS]
          dsimp only
          rw [tff, m_partOf (by omega) (by omega), obS, w1, e 31 (by decide) (by decide)]
          rfl)
      exact ⟨h', k, Or.inl s, l, J⟩
    · exact bad (Or.inr hy) (by rw [e1]; unfold f_X11_part; rw [ckH_i cn h8 hi, obS, exOk, ckH_x cn h8 hy, obS, exEr])
  · exact bad (Or.inl hx) (by unfold f_X11_part; rw [ckH_x cn h8 hx, obS, exEr])
/-! count -/
theorem sp_53 {a : Nat → Int32} {h : Hp} (I : Inv h) : ∃ h' n, St_53 a h h' n ∧ n ≤ 1 ∧ Inv h' := by
  obtain ⟨⟨n, m, N⟩, _, _, ⟨F, C, _, _, _, p4, p5, _⟩, _⟩ := id I
  have g := N.1
  have h8 := g.1.2.1
  have H := N.2.1
  let V : Int32 := if a 1 = 0 then h 31 0 else if a 1 = 1 then h 31 1 else if a 1 = 2 then h 31 2 else if a 1 = 3 then (if h 31 3 = 1 then h 31 492 else -1) else if a 1 = 4 then h 31 4 else if a 1 = 5 then h 31 5
    else if a 1 = 6 then h 31 6 else if a 1 = 7 then h 31 7 else if a 1 = 8 then orTo (upS (h 31)) n else if a 1 = 9 then allW n (h 31) else if a 1 = 10 then h 31 8 else if a 1 = 11 then nI C else -1
  refine qNo (c := f_X11_count (a 1)) (md := f_X12_count (a 1)) (v := V) I ?_ (fun q _ e => ?_)
  · unfold f_X11_count
    show ∃ h1, _ = some (V, h1) ∧ _
    by_cases k0 : a 1 = 0
    · exact ⟨h, by show _ = some ((if a 1 = 0 then _ else _), h); rw [if_pos k0, if_pos k0, H.2.2.2.1.1, g.1.1], KC_refl h⟩
    by_cases k1 : a 1 = 1
    · exact ⟨h, by show _ = some ((if a 1 = 0 then _ else _), h); rw [if_neg k0, if_neg k0, if_pos k1, if_pos k1, H.2.2.2.1.2.1, g.1.2.2.1], KC_refl h⟩
    by_cases k2 : a 1 = 2
    · exact ⟨h, by show _ = some ((if a 1 = 0 then _ else _), h); rw [if_neg k0, if_neg k0, if_neg k1, if_neg k1, if_pos k2, if_pos k2, H.2.2.2.2.2.2.2.2.1], KC_refl h⟩
    by_cases k3 : a 1 = 3
    · refine ⟨h, ?_, KC_refl h⟩
      show _ = some ((if a 1 = 0 then _ else _), h)
      rw [if_neg k0, if_neg k0, if_neg k1, if_neg k1, if_neg k2, if_neg k2, if_pos k3, if_pos k3]
      have := N.2.2.2.1
      by_cases z : h 31 3 = 1
      · rw [if_pos z] at this ⊢; rw [this]
      · rw [if_neg z] at this ⊢; rw [this]
    by_cases k4 : a 1 = 4
    · exact ⟨h, by show _ = some ((if a 1 = 0 then _ else _), h); rw [if_neg k0, if_neg k0, if_neg k1, if_neg k1, if_neg k2, if_neg k2, if_neg k3, if_neg k3, if_pos k4, if_pos k4, H.2.2.2.2.1], KC_refl h⟩
    by_cases k5 : a 1 = 5
    · exact ⟨h, by show _ = some ((if a 1 = 0 then _ else _), h); rw [if_neg k0, if_neg k0, if_neg k1, if_neg k1, if_neg k2, if_neg k2, if_neg k3, if_neg k3, if_neg k4, if_neg k4, if_pos k5, if_pos k5, H.2.2.2.2.2.1], KC_refl h⟩
    by_cases k6 : a 1 = 6
    · exact ⟨h, by show _ = some ((if a 1 = 0 then _ else _), h); rw [if_neg k0, if_neg k0, if_neg k1, if_neg k1, if_neg k2, if_neg k2, if_neg k3, if_neg k3, if_neg k4, if_neg k4, if_neg k5, if_neg k5, if_pos k6, if_pos k6, H.2.2.2.2.2.2.1], KC_refl h⟩
    by_cases k7 : a 1 = 7
    · exact ⟨h, by show _ = some ((if a 1 = 0 then _ else _), h); rw [if_neg k0, if_neg k0, if_neg k1, if_neg k1, if_neg k2, if_neg k2, if_neg k3, if_neg k3, if_neg k4, if_neg k4, if_neg k5, if_neg k5, if_neg k6, if_neg k6, if_pos k7, if_pos k7, H.2.2.2.2.2.2.2.1], KC_refl h⟩
    by_cases k8 : a 1 = 8
    · refine ⟨h, ?_, KC_refl h⟩
      show _ = some ((if a 1 = 0 then _ else _), h)
      rw [if_neg k0, if_neg k0, if_neg k1, if_neg k1, if_neg k2, if_neg k2, if_neg k3, if_neg k3, if_neg k4, if_neg k4, if_neg k5, if_neg k5, if_neg k6, if_neg k6, if_neg k7, if_neg k7, if_pos k8, if_pos k8, H.2.2.2.1.2.2, orTo_8 (n := n) h8]
      rfl
    by_cases k9 : a 1 = 9
    · obtain ⟨h1, e1, S, K⟩ := c_measured N
      refine ⟨h1, ?_, K⟩
      show _ = some ((if a 1 = 0 then _ else _), h1)
      rw [if_neg k0, if_neg k0, if_neg k1, if_neg k1, if_neg k2, if_neg k2, if_neg k3, if_neg k3, if_neg k4, if_neg k4, if_neg k5, if_neg k5, if_neg k6, if_neg k6, if_neg k7, if_neg k7, if_neg k8, if_neg k8, if_pos k9, if_pos k9, e1, obS, c_allBear h8 S, obS]
    by_cases k10 : a 1 = 10
    · refine ⟨h, ?_, KC_refl h⟩
      obtain ⟨L, _, l2, l3, _⟩ := N.2.2.1
      show _ = some ((if a 1 = 0 then _ else _), h)
      rw [if_neg k0, if_neg k0, if_neg k1, if_neg k1, if_neg k2, if_neg k2, if_neg k3, if_neg k3, if_neg k4, if_neg k4, if_neg k5, if_neg k5, if_neg k6, if_neg k6, if_neg k7, if_neg k7, if_neg k8, if_neg k8, if_neg k9, if_neg k9, if_pos k10, if_pos k10, l2]
      exact congrArg (fun v => some (v, h)) l3
    refine ⟨h, ?_, KC_refl h⟩
    show _ = some ((if a 1 = 0 then _ else _), h)
    rw [if_neg k0, if_neg k0, if_neg k1, if_neg k1, if_neg k2, if_neg k2, if_neg k3, if_neg k3, if_neg k4, if_neg k4, if_neg k5, if_neg k5, if_neg k6, if_neg k6, if_neg k7, if_neg k7, if_neg k8, if_neg k8, if_neg k9, if_neg k9, if_neg k10, if_neg k10]
    by_cases k11 : a 1 = 11
    · rw [if_pos k11, if_pos k11, p4]
    · rw [if_neg k11, if_neg k11]
  · have G := (NOWg N e).1
    have w1 : (up1 q 30 0 0) 31 = q 31 := up1_ob (by decide)
    have e31 := e 31 (by decide) (by decide)
    obtain ⟨u, e1, f1, l1⟩ := m_laysE (h := up1 q 30 0 0) (n := n) (by rw [w1]; exact G.1) h8
    have K : KM q u := KM_trans KM_0 (KM_ES f1)
    have u31 : u 31 = h 31 := by rw [K.1 31 (by omega), e31]
    refine ⟨u, ?_, K⟩
    unfold f_X12_count
    rw [bnd_eq, e1, obS]
    have x106 : (∃ k, k ≤ 7 ∧ a 1 = nI k) → F_X12_count_106 (a 1) u = some (u 31 (a 1).toNatClampNeg, u) := by
      rintro ⟨k, hk, ek⟩
      unfold F_X12_count_106
      rw [ek, show f_X12_in (nI k) 0 7 u = true from in_ok (a := 0) (b := 7) (by omega) hk (by omega), ttt, gdT (nI_ix (by omega) (by omega))]
    have n106 : (¬ ∃ k, k ≤ 7 ∧ a 1 = nI k) → F_X12_count_106 (a 1) u = some (-1, u) := by
      intro hk
      unfold F_X12_count_106
      have : f_X12_in (a 1) 0 7 u = false := by
        rcases argI (a 1) (n := 8) (by omega) with ⟨i, hi, e1⟩ | hx
        · exact absurd ⟨i, by omega, e1⟩ hk
        · rcases hx with z | z
          · exact in_lo z
          · exact in_hi (le_hi (b := 7) (by omega) z)
      rw [this, tff]
    show _ = some (V, u)
    show _ = some ((if a 1 = 0 then _ else _), u)
    have r7 : u 30 7 = nI C := by rw [K.2 7 (by decide) (by decide) (by decide), e 30 (by decide) (by decide)]; exact p5
    have rs : f_X12_standing u = some (orTo (upS (h 31)) n) := by rw [std_eq (by rw [u31]; exact g.1.1) h8, u31]
    have rb : f_X12_bearsAll u = some (allW n (h 31)) := by rw [m_allB (n := n) (m := m) (by rw [u31]; exact g.1) l1, u31]
    by_cases c : ∃ k, k ≤ 12 ∧ a 1 = nI k
    · obtain ⟨k, hk, ek⟩ := c
      have kk : k = 0 ∨ k = 1 ∨ k = 2 ∨ k = 3 ∨ k = 4 ∨ k = 5 ∨ k = 6 ∨ k = 7 ∨ k = 8 ∨ k = 9 ∨ k = 10 ∨ k = 11 ∨ k = 12 := by omega
      rcases kk with rfl | rfl | rfl | rfl | rfl | rfl | rfl | rfl | rfl | rfl | rfl | rfl | rfl
      · have x := x106 ⟨0, by omega, ek⟩
        rw [ek, nI_clamp (by omega), u31] at x
        rw [ek]
        simp (disch := omega) only [reduceIte, ↓zbn, zgd, zcl, zlt, zeq, zn0, zp0, ze0, zem, zsuc, zob, ztl, zfl, ztle, zfle, zte, zfe, zft, toB0, toB1, i10, i01, zl1, zg1, zq1, zl2, zg2, zq2, zl3, zg3, zq3, zl4, zg4, zq4, zl5, zg5, zq5, zl6, zg6, zq6, zl7, zg7, zq7, zl8, zg8, zq8, zl9, zg9, zq9, zl10, zg10, zq10, zl11, zg11, zq11, zl12, zg12, zq12, zl13, zg13, zq13, zl14, zg14, zq14, zl15, zg15, zq15, zl16, zg16, zq16, zl20, zg20, zq20, zl32, zg32, zq32, zl40, zg40, zq40, zl48, zg48, zq48, zl49, zg49, zq49, zl57, zg57, zq57, zl59, zg59, zq59, zl60, zg60, zq60, zl64, zg64, zq64, zl65, zg65, zq65, zl66, zg66, zq66, zl70, zg70, zq70, zl97, zg97, zq97, zl99, zg99, zq99, zl100, zg100, zq100, zl122, zg122, zq122, zl126, zg126, zq126, zl256, zg256, zq256, zl257, zg257, zq257, zl360, zg360, zq360, zl400, zg400, zq400, zl492, zg492, zq492, zl520, zg520, zq520, zl849, zg849, zq849, zl999, zg999, zq999, zl1341, zg1341, zq1341, zl1792, zg1792, zq1792, zl5412, zg5412, zq5412, x]
      · have x := x106 ⟨1, by omega, ek⟩
        rw [ek, nI_clamp (by omega), u31] at x
        rw [ek]
        simp (disch := omega) only [reduceIte, ↓zbn, zgd, zcl, zlt, zeq, zn0, zp0, ze0, zem, zsuc, zob, ztl, zfl, ztle, zfle, zte, zfe, zft, toB0, toB1, i10, i01, zl1, zg1, zq1, zl2, zg2, zq2, zl3, zg3, zq3, zl4, zg4, zq4, zl5, zg5, zq5, zl6, zg6, zq6, zl7, zg7, zq7, zl8, zg8, zq8, zl9, zg9, zq9, zl10, zg10, zq10, zl11, zg11, zq11, zl12, zg12, zq12, zl13, zg13, zq13, zl14, zg14, zq14, zl15, zg15, zq15, zl16, zg16, zq16, zl20, zg20, zq20, zl32, zg32, zq32, zl40, zg40, zq40, zl48, zg48, zq48, zl49, zg49, zq49, zl57, zg57, zq57, zl59, zg59, zq59, zl60, zg60, zq60, zl64, zg64, zq64, zl65, zg65, zq65, zl66, zg66, zq66, zl70, zg70, zq70, zl97, zg97, zq97, zl99, zg99, zq99, zl100, zg100, zq100, zl122, zg122, zq122, zl126, zg126, zq126, zl256, zg256, zq256, zl257, zg257, zq257, zl360, zg360, zq360, zl400, zg400, zq400, zl492, zg492, zq492, zl520, zg520, zq520, zl849, zg849, zq849, zl999, zg999, zq999, zl1341, zg1341, zq1341, zl1792, zg1792, zq1792, zl5412, zg5412, zq5412, x]
      · have x := x106 ⟨2, by omega, ek⟩
        rw [ek, nI_clamp (by omega), u31] at x
        rw [ek]
        simp (disch := omega) only [reduceIte, ↓zbn, zgd, zcl, zlt, zeq, zn0, zp0, ze0, zem, zsuc, zob, ztl, zfl, ztle, zfle, zte, zfe, zft, toB0, toB1, i10, i01, zl1, zg1, zq1, zl2, zg2, zq2, zl3, zg3, zq3, zl4, zg4, zq4, zl5, zg5, zq5, zl6, zg6, zq6, zl7, zg7, zq7, zl8, zg8, zq8, zl9, zg9, zq9, zl10, zg10, zq10, zl11, zg11, zq11, zl12, zg12, zq12, zl13, zg13, zq13, zl14, zg14, zq14, zl15, zg15, zq15, zl16, zg16, zq16, zl20, zg20, zq20, zl32, zg32, zq32, zl40, zg40, zq40, zl48, zg48, zq48, zl49, zg49, zq49, zl57, zg57, zq57, zl59, zg59, zq59, zl60, zg60, zq60, zl64, zg64, zq64, zl65, zg65, zq65, zl66, zg66, zq66, zl70, zg70, zq70, zl97, zg97, zq97, zl99, zg99, zq99, zl100, zg100, zq100, zl122, zg122, zq122, zl126, zg126, zq126, zl256, zg256, zq256, zl257, zg257, zq257, zl360, zg360, zq360, zl400, zg400, zq400, zl492, zg492, zq492, zl520, zg520, zq520, zl849, zg849, zq849, zl999, zg999, zq999, zl1341, zg1341, zq1341, zl1792, zg1792, zq1792, zl5412, zg5412, zq5412, x]
      · rw [ek, u31]
        simp (disch := omega) only [reduceIte, ↓zbn, zgd, zcl, zlt, zeq, zn0, zp0, ze0, zem, zsuc, zob, ztl, zfl, ztle, zfle, zte, zfe, zft, toB0, toB1, i10, i01, zl1, zg1, zq1, zl2, zg2, zq2, zl3, zg3, zq3, zl4, zg4, zq4, zl5, zg5, zq5, zl6, zg6, zq6, zl7, zg7, zq7, zl8, zg8, zq8, zl9, zg9, zq9, zl10, zg10, zq10, zl11, zg11, zq11, zl12, zg12, zq12, zl13, zg13, zq13, zl14, zg14, zq14, zl15, zg15, zq15, zl16, zg16, zq16, zl20, zg20, zq20, zl32, zg32, zq32, zl40, zg40, zq40, zl48, zg48, zq48, zl49, zg49, zq49, zl57, zg57, zq57, zl59, zg59, zq59, zl60, zg60, zq60, zl64, zg64, zq64, zl65, zg65, zq65, zl66, zg66, zq66, zl70, zg70, zq70, zl97, zg97, zq97, zl99, zg99, zq99, zl100, zg100, zq100, zl122, zg122, zq122, zl126, zg126, zq126, zl256, zg256, zq256, zl257, zg257, zq257, zl360, zg360, zq360, zl400, zg400, zq400, zl492, zg492, zq492, zl520, zg520, zq520, zl849, zg849, zq849, zl999, zg999, zq999, zl1341, zg1341, zq1341, zl1792, zg1792, zq1792, zl5412, zg5412, zq5412]
        split <;> rfl
      · have x := x106 ⟨4, by omega, ek⟩
        rw [ek, nI_clamp (by omega), u31] at x
        rw [ek]
        simp (disch := omega) only [reduceIte, ↓zbn, zgd, zcl, zlt, zeq, zn0, zp0, ze0, zem, zsuc, zob, ztl, zfl, ztle, zfle, zte, zfe, zft, toB0, toB1, i10, i01, zl1, zg1, zq1, zl2, zg2, zq2, zl3, zg3, zq3, zl4, zg4, zq4, zl5, zg5, zq5, zl6, zg6, zq6, zl7, zg7, zq7, zl8, zg8, zq8, zl9, zg9, zq9, zl10, zg10, zq10, zl11, zg11, zq11, zl12, zg12, zq12, zl13, zg13, zq13, zl14, zg14, zq14, zl15, zg15, zq15, zl16, zg16, zq16, zl20, zg20, zq20, zl32, zg32, zq32, zl40, zg40, zq40, zl48, zg48, zq48, zl49, zg49, zq49, zl57, zg57, zq57, zl59, zg59, zq59, zl60, zg60, zq60, zl64, zg64, zq64, zl65, zg65, zq65, zl66, zg66, zq66, zl70, zg70, zq70, zl97, zg97, zq97, zl99, zg99, zq99, zl100, zg100, zq100, zl122, zg122, zq122, zl126, zg126, zq126, zl256, zg256, zq256, zl257, zg257, zq257, zl360, zg360, zq360, zl400, zg400, zq400, zl492, zg492, zq492, zl520, zg520, zq520, zl849, zg849, zq849, zl999, zg999, zq999, zl1341, zg1341, zq1341, zl1792, zg1792, zq1792, zl5412, zg5412, zq5412, x]
      · have x := x106 ⟨5, by omega, ek⟩
        rw [ek, nI_clamp (by omega), u31] at x
        rw [ek]
        simp (disch := omega) only [reduceIte, ↓zbn, zgd, zcl, zlt, zeq, zn0, zp0, ze0, zem, zsuc, zob, ztl, zfl, ztle, zfle, zte, zfe, zft, toB0, toB1, i10, i01, zl1, zg1, zq1, zl2, zg2, zq2, zl3, zg3, zq3, zl4, zg4, zq4, zl5, zg5, zq5, zl6, zg6, zq6, zl7, zg7, zq7, zl8, zg8, zq8, zl9, zg9, zq9, zl10, zg10, zq10, zl11, zg11, zq11, zl12, zg12, zq12, zl13, zg13, zq13, zl14, zg14, zq14, zl15, zg15, zq15, zl16, zg16, zq16, zl20, zg20, zq20, zl32, zg32, zq32, zl40, zg40, zq40, zl48, zg48, zq48, zl49, zg49, zq49, zl57, zg57, zq57, zl59, zg59, zq59, zl60, zg60, zq60, zl64, zg64, zq64, zl65, zg65, zq65, zl66, zg66, zq66, zl70, zg70, zq70, zl97, zg97, zq97, zl99, zg99, zq99, zl100, zg100, zq100, zl122, zg122, zq122, zl126, zg126, zq126, zl256, zg256, zq256, zl257, zg257, zq257, zl360, zg360, zq360, zl400, zg400, zq400, zl492, zg492, zq492, zl520, zg520, zq520, zl849, zg849, zq849, zl999, zg999, zq999, zl1341, zg1341, zq1341, zl1792, zg1792, zq1792, zl5412, zg5412, zq5412, x]
      · have x := x106 ⟨6, by omega, ek⟩
        rw [ek, nI_clamp (by omega), u31] at x
        rw [ek]
        simp (disch := omega) only [reduceIte, ↓zbn, zgd, zcl, zlt, zeq, zn0, zp0, ze0, zem, zsuc, zob, ztl, zfl, ztle, zfle, zte, zfe, zft, toB0, toB1, i10, i01, zl1, zg1, zq1, zl2, zg2, zq2, zl3, zg3, zq3, zl4, zg4, zq4, zl5, zg5, zq5, zl6, zg6, zq6, zl7, zg7, zq7, zl8, zg8, zq8, zl9, zg9, zq9, zl10, zg10, zq10, zl11, zg11, zq11, zl12, zg12, zq12, zl13, zg13, zq13, zl14, zg14, zq14, zl15, zg15, zq15, zl16, zg16, zq16, zl20, zg20, zq20, zl32, zg32, zq32, zl40, zg40, zq40, zl48, zg48, zq48, zl49, zg49, zq49, zl57, zg57, zq57, zl59, zg59, zq59, zl60, zg60, zq60, zl64, zg64, zq64, zl65, zg65, zq65, zl66, zg66, zq66, zl70, zg70, zq70, zl97, zg97, zq97, zl99, zg99, zq99, zl100, zg100, zq100, zl122, zg122, zq122, zl126, zg126, zq126, zl256, zg256, zq256, zl257, zg257, zq257, zl360, zg360, zq360, zl400, zg400, zq400, zl492, zg492, zq492, zl520, zg520, zq520, zl849, zg849, zq849, zl999, zg999, zq999, zl1341, zg1341, zq1341, zl1792, zg1792, zq1792, zl5412, zg5412, zq5412, x]
      · have x := x106 ⟨7, by omega, ek⟩
        rw [ek, nI_clamp (by omega), u31] at x
        rw [ek]
        simp (disch := omega) only [reduceIte, ↓zbn, zgd, zcl, zlt, zeq, zn0, zp0, ze0, zem, zsuc, zob, ztl, zfl, ztle, zfle, zte, zfe, zft, toB0, toB1, i10, i01, zl1, zg1, zq1, zl2, zg2, zq2, zl3, zg3, zq3, zl4, zg4, zq4, zl5, zg5, zq5, zl6, zg6, zq6, zl7, zg7, zq7, zl8, zg8, zq8, zl9, zg9, zq9, zl10, zg10, zq10, zl11, zg11, zq11, zl12, zg12, zq12, zl13, zg13, zq13, zl14, zg14, zq14, zl15, zg15, zq15, zl16, zg16, zq16, zl20, zg20, zq20, zl32, zg32, zq32, zl40, zg40, zq40, zl48, zg48, zq48, zl49, zg49, zq49, zl57, zg57, zq57, zl59, zg59, zq59, zl60, zg60, zq60, zl64, zg64, zq64, zl65, zg65, zq65, zl66, zg66, zq66, zl70, zg70, zq70, zl97, zg97, zq97, zl99, zg99, zq99, zl100, zg100, zq100, zl122, zg122, zq122, zl126, zg126, zq126, zl256, zg256, zq256, zl257, zg257, zq257, zl360, zg360, zq360, zl400, zg400, zq400, zl492, zg492, zq492, zl520, zg520, zq520, zl849, zg849, zq849, zl999, zg999, zq999, zl1341, zg1341, zq1341, zl1792, zg1792, zq1792, zl5412, zg5412, zq5412, x]
      · rw [ek]
        simp (disch := omega) only [reduceIte, ↓zbn, zgd, zcl, zlt, zeq, zn0, zp0, ze0, zem, zsuc, zob, ztl, zfl, ztle, zfle, zte, zfe, zft, toB0, toB1, i10, i01, zl1, zg1, zq1, zl2, zg2, zq2, zl3, zg3, zq3, zl4, zg4, zq4, zl5, zg5, zq5, zl6, zg6, zq6, zl7, zg7, zq7, zl8, zg8, zq8, zl9, zg9, zq9, zl10, zg10, zq10, zl11, zg11, zq11, zl12, zg12, zq12, zl13, zg13, zq13, zl14, zg14, zq14, zl15, zg15, zq15, zl16, zg16, zq16, zl20, zg20, zq20, zl32, zg32, zq32, zl40, zg40, zq40, zl48, zg48, zq48, zl49, zg49, zq49, zl57, zg57, zq57, zl59, zg59, zq59, zl60, zg60, zq60, zl64, zg64, zq64, zl65, zg65, zq65, zl66, zg66, zq66, zl70, zg70, zq70, zl97, zg97, zq97, zl99, zg99, zq99, zl100, zg100, zq100, zl122, zg122, zq122, zl126, zg126, zq126, zl256, zg256, zq256, zl257, zg257, zq257, zl360, zg360, zq360, zl400, zg400, zq400, zl492, zg492, zq492, zl520, zg520, zq520, zl849, zg849, zq849, zl999, zg999, zq999, zl1341, zg1341, zq1341, zl1792, zg1792, zq1792, zl5412, zg5412, zq5412, rs]
      · rw [ek]
        simp (disch := omega) only [reduceIte, ↓zbn, zgd, zcl, zlt, zeq, zn0, zp0, ze0, zem, zsuc, zob, ztl, zfl, ztle, zfle, zte, zfe, zft, toB0, toB1, i10, i01, zl1, zg1, zq1, zl2, zg2, zq2, zl3, zg3, zq3, zl4, zg4, zq4, zl5, zg5, zq5, zl6, zg6, zq6, zl7, zg7, zq7, zl8, zg8, zq8, zl9, zg9, zq9, zl10, zg10, zq10, zl11, zg11, zq11, zl12, zg12, zq12, zl13, zg13, zq13, zl14, zg14, zq14, zl15, zg15, zq15, zl16, zg16, zq16, zl20, zg20, zq20, zl32, zg32, zq32, zl40, zg40, zq40, zl48, zg48, zq48, zl49, zg49, zq49, zl57, zg57, zq57, zl59, zg59, zq59, zl60, zg60, zq60, zl64, zg64, zq64, zl65, zg65, zq65, zl66, zg66, zq66, zl70, zg70, zq70, zl97, zg97, zq97, zl99, zg99, zq99, zl100, zg100, zq100, zl122, zg122, zq122, zl126, zg126, zq126, zl256, zg256, zq256, zl257, zg257, zq257, zl360, zg360, zq360, zl400, zg400, zq400, zl492, zg492, zq492, zl520, zg520, zq520, zl849, zg849, zq849, zl999, zg999, zq999, zl1341, zg1341, zq1341, zl1792, zg1792, zq1792, zl5412, zg5412, zq5412, rb]
      · rw [ek, u31]
        simp (disch := omega) only [reduceIte, ↓zbn, zgd, zcl, zlt, zeq, zn0, zp0, ze0, zem, zsuc, zob, ztl, zfl, ztle, zfle, zte, zfe, zft, toB0, toB1, i10, i01, zl1, zg1, zq1, zl2, zg2, zq2, zl3, zg3, zq3, zl4, zg4, zq4, zl5, zg5, zq5, zl6, zg6, zq6, zl7, zg7, zq7, zl8, zg8, zq8, zl9, zg9, zq9, zl10, zg10, zq10, zl11, zg11, zq11, zl12, zg12, zq12, zl13, zg13, zq13, zl14, zg14, zq14, zl15, zg15, zq15, zl16, zg16, zq16, zl20, zg20, zq20, zl32, zg32, zq32, zl40, zg40, zq40, zl48, zg48, zq48, zl49, zg49, zq49, zl57, zg57, zq57, zl59, zg59, zq59, zl60, zg60, zq60, zl64, zg64, zq64, zl65, zg65, zq65, zl66, zg66, zq66, zl70, zg70, zq70, zl97, zg97, zq97, zl99, zg99, zq99, zl100, zg100, zq100, zl122, zg122, zq122, zl126, zg126, zq126, zl256, zg256, zq256, zl257, zg257, zq257, zl360, zg360, zq360, zl400, zg400, zq400, zl492, zg492, zq492, zl520, zg520, zq520, zl849, zg849, zq849, zl999, zg999, zq999, zl1341, zg1341, zq1341, zl1792, zg1792, zq1792, zl5412, zg5412, zq5412]
      · rw [ek, r7]
        simp (disch := omega) only [reduceIte, ↓zbn, zgd, zcl, zlt, zeq, zn0, zp0, ze0, zem, zsuc, zob, ztl, zfl, ztle, zfle, zte, zfe, zft, toB0, toB1, i10, i01, zl1, zg1, zq1, zl2, zg2, zq2, zl3, zg3, zq3, zl4, zg4, zq4, zl5, zg5, zq5, zl6, zg6, zq6, zl7, zg7, zq7, zl8, zg8, zq8, zl9, zg9, zq9, zl10, zg10, zq10, zl11, zg11, zq11, zl12, zg12, zq12, zl13, zg13, zq13, zl14, zg14, zq14, zl15, zg15, zq15, zl16, zg16, zq16, zl20, zg20, zq20, zl32, zg32, zq32, zl40, zg40, zq40, zl48, zg48, zq48, zl49, zg49, zq49, zl57, zg57, zq57, zl59, zg59, zq59, zl60, zg60, zq60, zl64, zg64, zq64, zl65, zg65, zq65, zl66, zg66, zq66, zl70, zg70, zq70, zl97, zg97, zq97, zl99, zg99, zq99, zl100, zg100, zq100, zl122, zg122, zq122, zl126, zg126, zq126, zl256, zg256, zq256, zl257, zg257, zq257, zl360, zg360, zq360, zl400, zg400, zq400, zl492, zg492, zq492, zl520, zg520, zq520, zl849, zg849, zq849, zl999, zg999, zq999, zl1341, zg1341, zq1341, zl1792, zg1792, zq1792, zl5412, zg5412, zq5412]
      · have x := n106 (by
          rintro ⟨k, hk, e2⟩
          rw [ek, nI_eq (by omega) (by omega)] at e2
          omega)
        rw [ek] at x
        rw [ek]
        simp (disch := omega) only [reduceIte, ↓zbn, zgd, zcl, zlt, zeq, zn0, zp0, ze0, zem, zsuc, zob, ztl, zfl, ztle, zfle, zte, zfe, zft, toB0, toB1, i10, i01, zl1, zg1, zq1, zl2, zg2, zq2, zl3, zg3, zq3, zl4, zg4, zq4, zl5, zg5, zq5, zl6, zg6, zq6, zl7, zg7, zq7, zl8, zg8, zq8, zl9, zg9, zq9, zl10, zg10, zq10, zl11, zg11, zq11, zl12, zg12, zq12, zl13, zg13, zq13, zl14, zg14, zq14, zl15, zg15, zq15, zl16, zg16, zq16, zl20, zg20, zq20, zl32, zg32, zq32, zl40, zg40, zq40, zl48, zg48, zq48, zl49, zg49, zq49, zl57, zg57, zq57, zl59, zg59, zq59, zl60, zg60, zq60, zl64, zg64, zq64, zl65, zg65, zq65, zl66, zg66, zq66, zl70, zg70, zq70, zl97, zg97, zq97, zl99, zg99, zq99, zl100, zg100, zq100, zl122, zg122, zq122, zl126, zg126, zq126, zl256, zg256, zq256, zl257, zg257, zq257, zl360, zg360, zq360, zl400, zg400, zq400, zl492, zg492, zq492, zl520, zg520, zq520, zl849, zg849, zq849, zl999, zg999, zq999, zl1341, zg1341, zq1341, zl1792, zg1792, zq1792, zl5412, zg5412, zq5412, x]
    · have ne : ∀ k, k ≤ 12 → ¬ a 1 = nI k := fun k hk q => c ⟨k, hk, q⟩
      have x := n106 (fun ⟨k, hk, q⟩ => c ⟨k, by omega, q⟩)
      rw [if_neg (show ¬ a 1 = 0 from ne 0 (by omega)), if_neg (show ¬ a 1 = 1 from ne 1 (by omega)), if_neg (show ¬ a 1 = 2 from ne 2 (by omega)), if_neg (show ¬ a 1 = 3 from ne 3 (by omega)), if_neg (show ¬ a 1 = 3 from ne 3 (by omega)),
        if_neg (show ¬ a 1 = 4 from ne 4 (by omega)), if_neg (show ¬ a 1 = 4 from ne 4 (by omega)), if_neg (show ¬ a 1 = 5 from ne 5 (by omega)), if_neg (show ¬ a 1 = 5 from ne 5 (by omega)), if_neg (show ¬ a 1 = 6 from ne 6 (by omega)), if_neg (show ¬ a 1 = 6 from ne 6 (by omega)),
        if_neg (show ¬ a 1 = 7 from ne 7 (by omega)), if_neg (show ¬ a 1 = 7 from ne 7 (by omega)), if_neg (show ¬ a 1 = 8 from ne 8 (by omega)), if_neg (show ¬ a 1 = 8 from ne 8 (by omega)), if_neg (show ¬ a 1 = 9 from ne 9 (by omega)), if_neg (show ¬ a 1 = 9 from ne 9 (by omega)),
        if_neg (show ¬ a 1 = 10 from ne 10 (by omega)), if_neg (show ¬ a 1 = 10 from ne 10 (by omega)), if_neg (show ¬ a 1 = 11 from ne 11 (by omega)), if_neg (show ¬ a 1 = 11 from ne 11 (by omega)), x]
