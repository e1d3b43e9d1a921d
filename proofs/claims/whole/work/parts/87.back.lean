/-! LAYER 4. image, back, undo -/
theorem cm_1341 {k : Nat} {a b : Row} (h : k < 1341) : mixR a b 1341 k = a k := mix_i h
theorem sp_51 {a : Nat → Int32} {h : Hp} (I : Inv h) : ∃ h' n, St_51 a h h' n ∧ n ≤ 1 ∧ Inv h' := by
  obtain ⟨⟨n, m, g, H, l, v⟩, T, M, P, h21⟩ := I
  have h6 := g.1.2.2.2.1
  obtain ⟨b1, c1, p1⟩ := c_copyFrom (k0 := 132) (k1 := 100) (h := h) (by omega)
  obtain ⟨b2, c2, p2⟩ := c_copyLaw (k0 := 532) (k1 := 500) (h := b1) (by omega)
  have f1 := CP_fr p1
  have f2 := p2.2.2.2.2
  obtain ⟨b3, hb3⟩ : ∃ b3, up1 b2 1 11 1 = b3 := ⟨_, rfl⟩
  have ec : f_X11_image h = some b3 := by
    unfold f_X11_image
    rw [c1, obS, c2, obS, bnd_eq, hb3]
  have o3 : ∀ k, k ≠ 1 → ¬ (132 ≤ k ∧ k ≤ 142) → ¬ (532 ≤ k ∧ k ≤ 538) → b3 k = h k := fun k x y z => by
    rw [← hb3, up1_ob x, f2 k (by omega), f1 k (by omega)]
  have o31 : ∀ i, i ≠ 11 → b3 1 i = h 1 i := fun i x => by rw [← hb3, up1_at, upd_ob x, f2 1 (by omega), f1 1 (by omega)]
  obtain ⟨h', hh'⟩ : ∃ h', up1 (upA (up1 b3 30 0 0) 32 (mixR (b3 31) (b3 32) 1341)) 30 6 1 = h' := ⟨_, rfl⟩
  have o4 : ∀ k, k ≠ 30 → k ≠ 32 → h' k = b3 k := fun k x y => by rw [← hh', up1_ob x, upA_ob y, up1_ob x]
  have o30 : ∀ i, i ≠ 0 → i ≠ 6 → h' 30 i = b3 30 i := fun i x y => by rw [← hh', up1_at, upd_ob y, upA_ob (by decide), up1_at, upd_ob x]
  have e6 : h' 30 6 = 1 := by rw [← hh', up1_at, upd_at]
  have e32 : h' 32 = mixR (h 31) (b3 32) 1341 := by rw [← hh', up1_ob (by decide), upA_at, o3 31 (by decide) (by omega) (by omega)]
  have o : ∀ k, k ≠ 1 → k ≠ 30 → k ≠ 32 → ¬ (132 ≤ k ∧ k ≤ 142) → ¬ (532 ≤ k ∧ k ≤ 538) → h' k = h k := fun k x y z u w => by rw [o4 k y z, o3 k x u w]
  have e30 : ∀ i, i ≠ 0 → i ≠ 6 → h' 30 i = h 30 i := fun i x y => by rw [o30 i x y, o3 30 (by decide) (by omega) (by omega)]
  have e31 : h' 31 = h 31 := o 31 (by decide) (by decide) (by decide) (by omega) (by omega)
  have e1 : ∀ i, i ≠ 11 → h' 1 i = h 1 i := fun i x => by rw [o4 1 (by decide) (by decide), o31 i x]
  have cg : ∀ k, k < 1341 → mixR (h 31) (b3 32) 1341 k = h 31 k := fun k hk => mix_i hk
  refine ⟨h', 0, ⟨b3, ec, by rw [m_image, hh'], rfl⟩, by omega, ⟨n, m, NOW_rw e31 g (CV0_fr H fun k x y => o k (by omega) (by omega) (by omega) (by omega) (by omega)) (LG_fr l fun k x y => o k (by omega) (by omega) (by omega) (by omega) (by omega)) (LV_fr v fun k x y => o k (by omega) (by omega) (by omega) (by omega) (by omega))⟩,
    TPs_fr T (o 2 (by decide) (by decide) (by decide) (by omega) (by omega)) (o 3 (by decide) (by decide) (by decide) (by omega) (by omega)) (o 38 (by decide) (by decide) (by decide) (by omega) (by omega)) (e30 11 (by decide) (by decide)) (e30 16 (by decide) (by decide)), ⟨fun k hk => by rw [o 20 (by decide) (by decide) (by decide) (by omega) (by omega)]; exact M.1 k hk, true, ?_, e6, fun _ => ⟨n, m, ?_, ?_, ?_, ?_⟩⟩,
    PAs_fr P (e1 13 (by decide)) (e1 14 (by decide)) (e30 7 (by decide) (by decide)) (o 35 (by decide) (by decide) (by decide) (by omega) (by omega)) (fun k hk => by rw [e31]) (fun k hk => o k (by omega) (by omega) (by omega) (by omega) (by omega)), by rw [e30 21 (by decide) (by decide)]; exact h21⟩
  · rw [o4 1 (by decide) (by decide), ← hb3, up1_at, upd_at]; rfl
  · rw [e32]; exact Gd_cg cg g
  · rw [e32]
    exact CV0_cg h6 (fun k hk => cg k (by omega)) (CV0_fr (CP_CV0 p1 h6 H) fun k x y => by rw [o4 k (by omega) (by omega), ← hb3, up1_ob (by omega), f2 k (by omega)])
  · rw [e32]
    exact LG_cg (fun k hk => cg k (by omega)) (LG_fr (CP_LG p1 l) fun k x y => by rw [o4 k (by omega) (by omega), ← hb3, up1_ob (by omega), f2 k (by omega)])
  · rw [e32]
    exact LV_cg g.1.2.2.2.2 (fun k hk => cg k (by omega)) (LV_fr (CPL_LV p2 g.1.2.2.2.2 (LV_fr v fun k x y => f1 k (by omega))) fun k x y => by rw [o4 k (by omega) (by omega), ← hb3, up1_ob (by omega)])
theorem m_back {h : Hp} (hb : h 30 6 = 1) : f_X12_back h = some (true, up1 (upA (up1 h 30 0 0) 31 (mixR (h 32) (h 31) 1341)) 30 7 0) := by
  have o1 : (up1 h 30 0 0) 31 = h 31 := up1_ob (by decide)
  have o2 : (up1 h 30 0 0) 32 = h 32 := up1_ob (by decide)
  have Q := loop0 S_X12_back_16 (fun _ _ => none) (fun j q => q (nI j) (upA (up1 h 30 0 0) 31 (mixR (h 32) (h 31) j))) 1341 (some (true, up1 (upA (up1 h 30 0 0) 31 (mixR (h 32) (h 31) 1341)) 30 7 0)) (by omega) (fun j hj q => ?_) (fun q => ?_)
  · rw [mix_0, ← o1, up_id] at Q
    unfold f_X12_back
    rw [bnd_eq, up1_at, upd_ob (by decide), hb, if_neg (by decide)]
    exact Q
  · show S_X12_back_16 q (nI j) (upA (up1 h 30 0 0) 31 (mixR (h 32) (h 31) j)) = q (nI (j + 1)) (upA (up1 h 30 0 0) 31 (mixR (h 32) (h 31) (j + 1)))
    unfold S_X12_back_16
    rw [show (1341 : Int32) = nI 1341 from rfl, if_pos ((nI_ltI (by omega) (by omega)).mpr hj), gdT (nI_ix (by omega) (by omega)), gdT (nI_ix (by omega) (by omega)), bnd_eq, nI_clamp (by omega), up1_upA, upA_ob (by decide), o2, mix_s, nI_1]
  · show S_X12_back_16 q (nI 1341) _ = _
    unfold S_X12_back_16
    rw [show (1341 : Int32) = nI 1341 from rfl, if_neg (by decide), bnd_eq]
theorem m_back0 {h : Hp} (hb : h 30 6 = 0) : f_X12_back h = some (false, up1 h 30 0 0) := by
  unfold f_X12_back
  rw [bnd_eq, up1_at, upd_ob (by decide), hb, if_pos rfl]
theorem sp_52 {a : Nat → Int32} {h : Hp} (I : Inv h) : ∃ h' n, St_52 a h h' n ∧ n ≤ 1 ∧ Inv h' := by
  have I0 := I
  obtain ⟨⟨n, m, g, H, l, v⟩, T, M, P, h21⟩ := I
  obtain ⟨F, C, q1, q2, q3, q4, q5, q6⟩ := id P
  obtain ⟨z20, b0, i1, i2, i3⟩ := id M
  cases b0
  · refine ⟨up1 h 30 0 0, 0, ⟨false, h, ?_, m_back0 i2, rfl⟩, by omega, Inv_KM I0 KM_0⟩
    unfold f_X11_back
    rw [i1, if_pos (show bI false = 0 from rfl)]
  · obtain ⟨n', m', x1, x2, x3, x4⟩ := i3 rfl
    have h6 := x1.1.2.2.2.1
    obtain ⟨b1, c1, p1⟩ := c_copyFrom (k0 := 100) (k1 := 132) (h := h) (by omega)
    obtain ⟨b2, c2, p2⟩ := c_copyLaw (k0 := 500) (k1 := 532) (h := b1) (by omega)
    have f1 := CP_fr p1
    have f2 := p2.2.2.2.2
    obtain ⟨b3, hb3⟩ : ∃ b3, up1 b2 1 14 0 = b3 := ⟨_, rfl⟩
    have ec : f_X11_back h = some (true, b3) := by
      unfold f_X11_back
      rw [i1, if_neg (by decide), c1, obS, c2, obS, bnd_eq, hb3]
    have o3 : ∀ k, k ≠ 1 → ¬ (100 ≤ k ∧ k ≤ 110) → ¬ (500 ≤ k ∧ k ≤ 506) → b3 k = h k := fun k x y z => by
      rw [← hb3, up1_ob x, f2 k (by omega), f1 k (by omega)]
    have o31 : ∀ i, i ≠ 14 → b3 1 i = h 1 i := fun i x => by rw [← hb3, up1_at, upd_ob x, f2 1 (by omega), f1 1 (by omega)]
    have b306 : b3 30 6 = 1 := by rw [o3 30 (by decide) (by omega) (by omega)]; exact i2
    obtain ⟨h', hh'⟩ : ∃ h', up1 (upA (up1 b3 30 0 0) 31 (mixR (b3 32) (b3 31) 1341)) 30 7 0 = h' := ⟨_, rfl⟩
    have o4 : ∀ k, k ≠ 30 → k ≠ 31 → h' k = b3 k := fun k x y => by rw [← hh', up1_ob x, upA_ob y, up1_ob x]
    have o30 : ∀ i, i ≠ 0 → i ≠ 7 → h' 30 i = b3 30 i := fun i x y => by rw [← hh', up1_at, upd_ob y, upA_ob (by decide), up1_at, upd_ob x]
    have e7 : h' 30 7 = 0 := by rw [← hh', up1_at, upd_at]
    have e31 : h' 31 = mixR (h 32) (b3 31) 1341 := by rw [← hh', up1_ob (by decide), upA_at, o3 32 (by decide) (by omega) (by omega)]
    have o : ∀ k, k ≠ 1 → k ≠ 30 → k ≠ 31 → ¬ (100 ≤ k ∧ k ≤ 110) → ¬ (500 ≤ k ∧ k ≤ 506) → h' k = h k := fun k x y z u w => by rw [o4 k y z, o3 k x u w]
    have e30 : ∀ i, i ≠ 0 → i ≠ 7 → h' 30 i = h 30 i := fun i x y => by rw [o30 i x y, o3 30 (by decide) (by omega) (by omega)]
    have e1 : ∀ i, i ≠ 14 → h' 1 i = h 1 i := fun i x => by rw [o4 1 (by decide) (by decide), o31 i x]
    have e14 : h' 1 14 = 0 := by rw [o4 1 (by decide) (by decide), ← hb3, up1_at, upd_at]
    have cg : ∀ k, k < 1341 → mixR (h 32) (b3 31) 1341 k = h 32 k := fun k hk => mix_i hk
    refine ⟨h', 0, ⟨true, b3, ec, by rw [m_back b306, hh'], rfl⟩, by omega, ⟨n', m', NOW_rw e31 (Gd_cg cg x1) ?_ ?_ ?_⟩,
      TPs_fr T (o 2 (by decide) (by decide) (by decide) (by omega) (by omega)) (o 3 (by decide) (by decide) (by decide) (by omega) (by omega)) (o 38 (by decide) (by decide) (by decide) (by omega) (by omega)) (e30 11 (by decide) (by decide)) (e30 16 (by decide) (by decide)),
      IMs_fr M (e1 11 (by decide)) (e30 6 (by decide) (by decide)) (o 32 (by decide) (by decide) (by decide) (by omega) (by omega)) (fun k hk => o k (by omega) (by omega) (by omega) (by omega) (by omega)),
      PAs_no ⟨F, q1, by rw [e1 13 (by decide)]; exact q3⟩ e14 e7, by rw [e30 21 (by decide) (by decide)]; exact h21⟩
    · exact CV0_cg h6 (fun k hk => cg k (by omega)) (CV0_fr (CP_CV0 p1 h6 x2) fun k x y => by rw [o4 k (by omega) (by omega), ← hb3, up1_ob (by omega), f2 k (by omega)])
    · exact LG_cg (fun k hk => cg k (by omega)) (LG_fr (CP_LG p1 x3) fun k x y => by rw [o4 k (by omega) (by omega), ← hb3, up1_ob (by omega), f2 k (by omega)])
    · exact LV_cg x1.1.2.2.2.2 (fun k hk => cg k (by omega)) (LV_fr (CPL_LV p2 x1.1.2.2.2.2 (LV_fr x4 fun k x y => f1 k (by omega))) fun k x y => by rw [o4 k (by omega) (by omega), ← hb3, up1_ob (by omega)])
/-! undo -/
theorem m_undo {h : Hp} {C : Nat} (hC : C < 12) (hb : h 30 7 = nI (C + 1)) : f_X12_undo h = some (true, upA (up1 (up1 h 30 0 0) 30 7 (nI C)) 31 (actR h C)) := by
  obtain ⟨u, hu⟩ : ∃ u, up1 (up1 h 30 0 0) 30 7 (nI C) = u := ⟨_, rfl⟩
  have o1 : u 31 = h 31 := by rw [← hu, up1_ob (by decide), up1_ob (by decide)]
  have o2 : u 35 = h 35 := by rw [← hu, up1_ob (by decide), up1_ob (by decide)]
  have o7 : u 30 7 = nI C := by rw [← hu, up1_at, upd_at]
  have eR : actR h C = mixR (fun k => h 35 (492 * C + k)) (h 31) 492 := rfl
  have Q := loop0 S_X12_undo_26 (fun _ _ => none) (fun j q => q (nI j) (upA u 31 (mixR (fun k => h 35 (492 * C + k)) (h 31) j))) 492 (some (true, upA u 31 (mixR (fun k => h 35 (492 * C + k)) (h 31) 492))) (by omega) (fun j hj q => ?_) (fun q => ?_)
  · rw [mix_0, ← o1, up_id] at Q
    unfold f_X12_undo
    rw [bnd_eq, up1_at, upd_ob (by decide), hb, if_neg (by rw [show (0 : Int32) = nI 0 from rfl, nI_eq (by omega) (by omega)]; omega), zprs (by omega), Nat.add_sub_cancel, bnd_eq, hu, eR, ← o1]
    exact Q
  · show S_X12_undo_26 q (nI j) (upA u 31 (mixR (fun k => h 35 (492 * C + k)) (h 31) j)) = q (nI (j + 1)) (upA u 31 (mixR (fun k => h 35 (492 * C + k)) (h 31) (j + 1)))
    unfold S_X12_undo_26
    rw [show (492 : Int32) = nI 492 from rfl, if_pos ((nI_ltI (by omega) (by omega)).mpr hj), upA_ob (by decide), upA_ob (by decide), o7, zmul, zadd, gdT (nI_ix (by omega) (by omega)), gdT (nI_ix (by omega) (by omega)), bnd_eq, nI_clamp (by omega), nI_clamp (by omega), up1_upA, o2, ← mix_s, nI_1]
  · show S_X12_undo_26 q (nI 492) _ = _
    unfold S_X12_undo_26
    rw [show (492 : Int32) = nI 492 from rfl, if_neg (by decide)]
theorem c_pastAt {h : Hp} {F j : Nat} (hF : F < 12) (hj : j < 100) (e : h 1 13 = nI F) : f_X11_pastAt (nI j) h = some (some (slotN F j)) ∧ cityB (slotN F j) = true := by
  have lt : (F + j) % 12 < 12 := Nat.mod_lt _ (by omega)
  constructor
  · unfold f_X11_pastAt
    rw [bnd_eq, e, zadd, show (12 : Int32) = nI 12 from rfl, zrm (by omega) (by omega) (by omega), if_neg (nI_pos (by omega)), if_pos ((nI_ltI (by omega) (by omega)).mpr lt), gdT (nI_ix lt (by omega)), nI_clamp (by omega)]
    rfl
  · unfold cityB slotN
    rw [decide_eq_true (by omega), decide_eq_true (by omega), Bool.true_and, Bool.true_and, beq_iff_eq]
    omega
theorem sp_50 {a : Nat → Int32} {h : Hp} (I : Inv h) : ∃ h' n, St_50 a h h' n ∧ n ≤ 1 ∧ Inv h' := by
  have I0 := I
  obtain ⟨⟨n, m, g, H, l, v⟩, T, M, P, h21⟩ := I
  obtain ⟨F, C, q1, q2, q3, q4, q5, q6⟩ := id P
  rcases C with _ | C
  · refine ⟨up1 h 30 0 0, 0, ⟨false, h, ?_, ?_, rfl⟩, by omega, Inv_KM I0 KM_0⟩
    · unfold f_X11_undo
      rw [q4, if_neg (by decide)]
    · unfold f_X12_undo
      rw [bnd_eq, up1_at, upd_ob (by decide), q5, if_pos (show nI 0 = 0 from rfl)]
  · obtain ⟨n', m', x1, x2, x3, x4⟩ := q6 C (by omega)
    have h6 := x1.1.2.2.2.1
    obtain ⟨pa, cb⟩ := c_pastAt (h := h) q1 (show C < 100 by omega) q3
    have sl : 148 ≤ slotN F C ∧ slotN F C + 10 < 340 := by unfold slotN; omega
    obtain ⟨b1, c1, p1⟩ := c_copyFrom (k0 := 100) (k1 := slotN F C) (h := h) (by omega)
    have f1 := CP_fr p1
    have b14 : b1 1 14 = nI (C + 1) := by rw [f1 1 (by omega)]; exact q4
    obtain ⟨b3, hb3⟩ : ∃ b3, up1 b1 1 14 (nI C) = b3 := ⟨_, rfl⟩
    have ec : f_X11_undo h = some (true, b3) := by
      unfold f_X11_undo
      rw [q4, if_pos (show (0 : Int32) < nI (C + 1) from (nI_ltI (a := 0) (b := C + 1) (by omega) (by omega)).mpr (by omega)), zprs (by omega), Nat.add_sub_cancel, pa, obS]
      show gd (cityB (slotN F C) = true) _ = _
      rw [gdT cb, c1, obS, bnd_eq, b14, zprs (by omega), Nat.add_sub_cancel, hb3]
    have o3 : ∀ k, k ≠ 1 → ¬ (100 ≤ k ∧ k ≤ 110) → b3 k = h k := fun k x y => by
      rw [← hb3, up1_ob x, f1 k (by omega)]
    have o31 : ∀ i, i ≠ 14 → b3 1 i = h 1 i := fun i x => by rw [← hb3, up1_at, upd_ob x, f1 1 (by omega)]
    have b7 : b3 30 7 = nI (C + 1) := by rw [o3 30 (by decide) (by omega)]; exact q5
    have eR : actR b3 C = actR h C := actR_eq (o3 35 (by decide) (by omega)) fun k _ => by rw [o3 31 (by decide) (by omega)]
    obtain ⟨h', hh'⟩ : ∃ h', upA (up1 (up1 b3 30 0 0) 30 7 (nI C)) 31 (actR b3 C) = h' := ⟨_, rfl⟩
    have o4 : ∀ k, k ≠ 30 → k ≠ 31 → h' k = b3 k := fun k x y => by rw [← hh', upA_ob y, up1_ob x, up1_ob x]
    have o30 : ∀ i, i ≠ 0 → i ≠ 7 → h' 30 i = b3 30 i := fun i x y => by rw [← hh', upA_ob (by decide), up1_at, upd_ob y, up1_at, upd_ob x]
    have e7 : h' 30 7 = nI C := by rw [← hh', upA_ob (by decide), up1_at, upd_at]
    have e31 : h' 31 = actR h C := by rw [← hh', upA_at, eR]
    have o : ∀ k, k ≠ 1 → k ≠ 30 → k ≠ 31 → ¬ (100 ≤ k ∧ k ≤ 110) → h' k = h k := fun k x y z u => by rw [o4 k y z, o3 k x u]
    have e30 : ∀ i, i ≠ 0 → i ≠ 7 → h' 30 i = h 30 i := fun i x y => by rw [o30 i x y, o3 30 (by decide) (by omega)]
    have e1 : ∀ i, i ≠ 14 → h' 1 i = h 1 i := fun i x => by rw [o4 1 (by decide) (by decide), o31 i x]
    have e14 : h' 1 14 = nI C := by rw [o4 1 (by decide) (by decide), ← hb3, up1_at, upd_at]
    have ew : ∀ k, 492 ≤ k → h' 31 k = h 31 k := fun k hk => by rw [e31]; unfold actR; rw [if_neg (by omega)]
    have eact : ∀ j, actR h' j = actR h j := fun j => actR_eq (o 35 (by decide) (by decide) (by decide) (by omega)) ew
    have e33 : actR h C 3 = h 31 3 := x4
    refine ⟨h', 0, ⟨true, b3, ec, by rw [m_undo (by omega) b7, hh'], rfl⟩, by omega, ⟨n', m', NOW_rw e31 x1 ?_ ?_ ?_⟩,
      TPs_fr T (o 2 (by decide) (by decide) (by decide) (by omega)) (o 3 (by decide) (by decide) (by decide) (by omega)) (o 38 (by decide) (by decide) (by decide) (by omega)) (e30 11 (by decide) (by decide)) (e30 16 (by decide) (by decide)),
      IMs_fr M (e1 11 (by decide)) (e30 6 (by decide) (by decide)) (o 32 (by decide) (by decide) (by decide) (by omega)) (fun k hk => o k (by omega) (by omega) (by omega) (by omega)),
      ⟨F, C, q1, by omega, by rw [e1 13 (by decide)]; exact q3, e14, e7, fun j hj => ?_⟩, by rw [e30 21 (by decide) (by decide)]; exact h21⟩
    · exact CV0_fr (CP_CV0 p1 h6 x2) fun k x y => by rw [o4 k (by omega) (by omega), ← hb3, up1_ob (by omega)]
    · exact LG_fr (CP_LG p1 x3) fun k x y => by rw [o4 k (by omega) (by omega), ← hb3, up1_ob (by omega)]
    · exact LV_cg g.1.2.2.2.2 (fun k hk => by
        rcases hk with rfl | hk
        · exact e33
        · unfold actR; rw [if_neg (by omega)]) (LV_fr v fun k x y => o k (by omega) (by omega) (by omega) (by omega))
    · obtain ⟨n2, m2, y1, y2, y3, y4⟩ := q6 j (by omega)
      have sj : 148 ≤ slotN F j ∧ slotN F j + 10 < 340 := by unfold slotN; omega
      exact ⟨n2, m2, by rw [eact]; exact y1, by rw [eact]; exact CV0_fr y2 fun k x y => o k (by omega) (by omega) (by omega) (by omega), by rw [eact]; exact LG_fr y3 fun k x y => o k (by omega) (by omega) (by omega) (by omega), by rw [eact, e31, e33]; exact y4⟩
