/-! LAYER 4. end -/
theorem Inv_tp {h h' : Hp} (I : Inv h) (T : TPs h') (hk : ∀ k, (k = 1 ∨ k = 20 ∨ k = 31 ∨ k = 32 ∨ k = 35 ∨ (100 ≤ k ∧ k ≤ 110) ∨ (132 ≤ k ∧ k < 340) ∨ (500 ≤ k ∧ k ≤ 506) ∨ (532 ≤ k ∧ k ≤ 538)) → h' k = h k) (h30 : ∀ i, (i = 6 ∨ i = 7 ∨ i = 21) → h' 30 i = h 30 i) : Inv h' := by
  obtain ⟨⟨n, m, N⟩, _, M, P, h21⟩ := I
  exact ⟨⟨n, m, NOW_rw (hk 31 (by omega)) N.1 (CV0_fr N.2.1 fun k x y => hk k (by omega)) (LG_fr N.2.2.1 fun k x y => hk k (by omega)) (LV_fr N.2.2.2 fun k x y => hk k (by omega))⟩, T,
    IMs_fr M (by rw [hk 1 (by omega)]) (h30 6 (by omega)) (hk 32 (by omega)) (fun k hk2 => hk k (by omega)), PAs_fr P (by rw [hk 1 (by omega)]) (by rw [hk 1 (by omega)]) (h30 7 (by omega)) (hk 35 (by omega)) (fun k _ => by rw [hk 31 (by omega)]) (fun k hk2 => hk k (by omega)), by rw [h30 21 (by omega)]; exact h21⟩
theorem sp_1 {a : Nat → Int32} {h : Hp} (I : Inv h) : ∃ h' n, St_1 a h h' n ∧ n ≤ 1 ∧ Inv h' := by
  obtain ⟨_, ⟨L, t1, t2, t3, t4, t5⟩, _⟩ := id I
  have e11 : (up1 h 30 0 0) 30 11 = nI L := by rw [up1_at, upd_ob (by decide)]; exact t3
  rcases argA (a 1) (b := L) (by omega) with ⟨k, hk, e1⟩ | hx
  · obtain ⟨u, hu⟩ : ∃ u, up1 h 2 1 (nI k) = u := ⟨_, rfl⟩
    have uo : ∀ j, j ≠ 2 → u j = h j := fun j x => by rw [← hu, up1_ob x]
    have u2 : ∀ i, i ≠ 1 → u 2 i = h 2 i := fun i x => by rw [← hu, up1_at, upd_ob x]
    refine ⟨up1 (up1 u 30 0 0) 30 11 (nI k), 0, ⟨true, u, ?_, ?_, rfl⟩, by omega, Inv_tp I ⟨k, by omega, ?_, ?_, fun i hi => ?_, ?_⟩ (fun j hj => by rw [up1_ob (by omega), up1_ob (by omega), uo j (by omega)]) (fun i hi => by rw [up1_at, upd_ob (by omega), up1_at, upd_ob (by omega), uo 30 (by decide)])⟩
    · unfold f_X11_end
      rw [e1, t2, if_neg (nI_pos (by omega)), if_neg (fun z => absurd ((nI_ltI (by omega) (by omega)).mp z) (by omega)), bnd_eq, hu]
    · unfold f_X12_end
      rw [bnd_eq, e1, if_neg (nI_pos (by omega)), show (up1 u 30 0 0) 30 11 = nI L by rw [up1_at, upd_ob (by decide), uo 30 (by decide)]; exact t3, if_neg (fun z => absurd ((nI_ltI (by omega) (by omega)).mp z) (by omega)), bnd_eq]
    · rw [up1_ob (by decide), up1_ob (by decide), ← hu, up1_at, upd_at]
    · rw [up1_at, upd_at]
    · obtain ⟨b, x, y, z⟩ := t4 i (by omega)
      exact ⟨b, x, by rw [up1_ob (by decide), up1_ob (by decide), uo 3 (by decide)]; exact y, by rw [up1_ob (by decide), up1_ob (by decide), uo 38 (by decide)]; exact z⟩
    · rw [up1_ob (by decide), up1_ob (by decide), u2 2 (by decide), up1_at, upd_ob (by decide), up1_at, upd_ob (by decide), uo 30 (by decide)]
      exact t5
  · refine ⟨up1 h 30 0 0, 0, ⟨false, h, ?_, ?_, rfl⟩, by omega, Inv_KM I KM_0⟩
    · unfold f_X11_end
      rw [t2]
      rcases hx with z | z
      · rw [if_pos z]
      · rw [if_pos z, ite_self]
    · unfold f_X12_end
      rw [bnd_eq, e11]
      rcases hx with z | z
      · rw [if_pos z]
      · rw [if_pos z, ite_self]
