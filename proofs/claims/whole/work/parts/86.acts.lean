/-! LAYER 4. Frames of the invariant's parts; seed, image, back, undo -/
theorem TPs_fr {h h' : Hp} (T : TPs h) (e2 : h' 2 = h 2) (e3 : h' 3 = h 3) (e38 : h' 38 = h 38) (e11 : h' 30 11 = h 30 11) (e16 : h' 30 16 = h 30 16) : TPs h' := by
  obtain ⟨L, t1, t2, t3, t4, t5⟩ := T
  exact ⟨L, t1, by rw [e2]; exact t2, by rw [e11]; exact t3, fun i hi => by rw [e3, e38]; exact t4 i hi, by rw [e2, e16]; exact t5⟩
theorem IMs_fr {h h' : Hp} (T : IMs h) (e1 : h' 1 11 = h 1 11) (e6 : h' 30 6 = h 30 6) (e32 : h' 32 = h 32) (hk : ∀ k, k = 20 ∨ (132 ≤ k ∧ k ≤ 142) ∨ (532 ≤ k ∧ k ≤ 538) → h' k = h k) : IMs h' := by
  obtain ⟨z20, b0, i1, i2, i3⟩ := T
  refine ⟨fun k hk2 => by rw [hk 20 (by omega)]; exact z20 k hk2, b0, by rw [e1]; exact i1, by rw [e6]; exact i2, fun hb => ?_⟩
  obtain ⟨n', m', x1, x2, x3, x4⟩ := i3 hb
  exact ⟨n', m', by rw [e32]; exact x1, by rw [e32]; exact CV0_fr x2 fun k x y => hk k (by omega), by rw [e32]; exact LG_fr x3 fun k x y => hk k (by omega), by rw [e32]; exact LV_fr x4 fun k x y => hk k (by omega)⟩
theorem actR_eq {h h' : Hp} {j : Nat} (e35 : h' 35 = h 35) (ew : ∀ k, 492 ≤ k → h' 31 k = h 31 k) : actR h' j = actR h j :=
  funext fun k => by
    unfold actR
    by_cases c : k < 492
    · rw [if_pos c, if_pos c, e35]
    · rw [if_neg c, if_neg c, ew k (by omega)]
theorem PAs_fr {h h' : Hp} (T : PAs h) (e13 : h' 1 13 = h 1 13) (e14 : h' 1 14 = h 1 14) (e7 : h' 30 7 = h 30 7) (e35 : h' 35 = h 35) (ew : ∀ k, (k = 3 ∨ 492 ≤ k) → h' 31 k = h 31 k) (hk : ∀ k, 148 ≤ k ∧ k < 340 → h' k = h k) : PAs h' := by
  obtain ⟨F, C, p1, p2, p3, p4, p5, p6⟩ := T
  refine ⟨F, C, p1, p2, by rw [e13]; exact p3, by rw [e14]; exact p4, by rw [e7]; exact p5, fun j hj => ?_⟩
  have eact : actR h' j = actR h j := actR_eq e35 fun k a => ew k (Or.inr a)
  obtain ⟨n', m', x1, x2, x3, x4⟩ := p6 j hj
  have sl : 148 ≤ slotN F j ∧ slotN F j + 10 < 340 := by unfold slotN; omega
  exact ⟨n', m', by rw [eact]; exact x1, by rw [eact]; exact CV0_fr x2 fun k x y => hk k (by omega), by rw [eact]; exact LG_fr x3 fun k x y => hk k (by omega), by rw [eact, ew 3 (Or.inl rfl)]; exact x4⟩
theorem PAs_no {h' : Hp} (e13 : ∃ F, F < 12 ∧ h' 1 13 = nI F) (e14 : h' 1 14 = 0) (e7 : h' 30 7 = 0) : PAs h' := by
  obtain ⟨F, a, b⟩ := e13
  exact ⟨F, 0, a, by omega, b, e14, e7, fun j hj => absurd hj (Nat.not_lt_zero j)⟩
theorem NOW_rw {n m : Nat} {h : Hp} {w : Row} (e : h 31 = w) (g : Gd n m w) (a : CV0 100 h n m w) (b : LG 100 h w) (c : LV 500 h w) : NOW n m h := by
  subst e; exact ⟨g, a, b, c⟩
theorem sp_49 {a : Nat → Int32} {h : Hp} (I : Inv h) : ∃ h' n, St_49 a h h' n ∧ n ≤ 1 ∧ Inv h' := by
  obtain ⟨⟨n, m, g, H, l, v⟩, T, M, P, h21⟩ := I
  have h6 := g.1.2.2.2.1
  refine ⟨up1 (up1 (up1 h 100 17 (a 1)) 30 0 0) 31 9 (a 1), 0, ⟨h 100 17, up1 h 100 17 (a 1), rfl, ?_, rfl⟩, by omega, ?_⟩
  · unfold f_X12_seed
    rw [bnd_eq, bnd_eq, up1_ob (by decide), up1_ob (by decide), H.2.2.2.2.2.2.2.2.2]
  · have e : ∀ k, k ≠ 100 → k ≠ 30 → k ≠ 31 → (up1 (up1 (up1 h 100 17 (a 1)) 30 0 0) 31 9 (a 1)) k = h k := fun k x y z => by rw [up1_ob z, up1_ob y, up1_ob x]
    have e31 : (up1 (up1 (up1 h 100 17 (a 1)) 30 0 0) 31 9 (a 1)) 31 = upd (h 31) 9 (a 1) := by rw [up1_at, up1_ob (by decide), up1_ob (by decide)]
    have e100 : (up1 (up1 (up1 h 100 17 (a 1)) 30 0 0) 31 9 (a 1)) 100 = upd (h 100) 17 (a 1) := by rw [up1_ob (by decide), up1_ob (by decide), up1_at]
    have e30 : ∀ i, i ≠ 0 → (up1 (up1 (up1 h 100 17 (a 1)) 30 0 0) 31 9 (a 1)) 30 i = h 30 i := fun i x => by rw [up1_ob (by decide), up1_at, upd_ob x, up1_ob (by decide)]
    have H1 : CV0 100 (up1 h 100 17 (a 1)) n m (upd (h 31) 9 (a 1)) := CV0_seed H h6 up1_at (fun k hk => up1_ob hk)
    refine ⟨⟨n, m, NOW_rw e31 (seed_Gd g) (CV0_fr H1 fun k x y => by rw [up1_ob (by omega), up1_ob (by omega)]) ?_ ?_⟩, TPs_fr T (e 2 (by decide) (by decide) (by decide)) (e 3 (by decide) (by decide) (by decide)) (e 38 (by decide) (by decide) (by decide)) (e30 11 (by decide)) (e30 16 (by decide)), IMs_fr M (by rw [e 1 (by decide) (by decide) (by decide)]) (e30 6 (by decide)) (e 32 (by decide) (by decide) (by decide)) (fun k hk => e k (by omega) (by omega) (by omega)), PAs_fr P (by rw [e 1 (by decide) (by decide) (by decide)]) (by rw [e 1 (by decide) (by decide) (by decide)]) (e30 7 (by decide)) (e 35 (by decide) (by decide) (by decide)) (fun k hk => by rw [e31, upd_ob (by omega)]) (fun k hk => e k (by omega) (by omega) (by omega)), by rw [e30 21 (by decide)]; exact h21⟩
    · exact LG_cg (fun k hk => upd_ob (by omega)) (LG_fr l fun k x y => e k (by omega) (by omega) (by omega))
    · exact LV_cg g.1.2.2.2.2 (fun k hk => upd_ob (by omega)) (LV_fr v fun k x y => e k (by omega) (by omega) (by omega))
/-! rows copied -/
def mixR (a b : Row) (j : Nat) : Row := fun k => if k < j then a k else b k
theorem mix_s {a b : Row} {j : Nat} : upd (mixR a b j) j (a j) = mixR a b (j + 1) :=
  funext fun k => by
    unfold mixR
    by_cases c : k = j
    · rw [c, upd_at, if_pos (Nat.lt_succ_self j)]
    · rw [upd_ob c]
      by_cases d : k < j
      · rw [if_pos d, if_pos (by omega)]
      · rw [if_neg d, if_neg (by omega)]
theorem mix_0 {a b : Row} : mixR a b 0 = b := funext fun k => if_neg (Nat.not_lt_zero k)
theorem mix_i {a b : Row} {j k : Nat} (h : k < j) : mixR a b j k = a k := if_pos h
theorem mix_o {a b : Row} {j k : Nat} (h : ¬ k < j) : mixR a b j k = b k := if_neg h
theorem up_id {h : Hp} {k : Nat} : upA h k (h k) = h := funext fun i => by
  by_cases c : i = k
  · rw [c, upA_at]
  · rw [upA_ob c]
theorem m_image {h : Hp} : f_X12_image h = some (up1 (upA (up1 h 30 0 0) 32 (mixR (h 31) (h 32) 1341)) 30 6 1) := by
  have o1 : (up1 h 30 0 0) 31 = h 31 := up1_ob (by decide)
  have o2 : (up1 h 30 0 0) 32 = h 32 := up1_ob (by decide)
  have Q := loop0 S_X12_image_7 (fun _ _ => none) (fun j q => q (nI j) (upA (up1 h 30 0 0) 32 (mixR (h 31) (h 32) j))) 1341 (some (up1 (upA (up1 h 30 0 0) 32 (mixR (h 31) (h 32) 1341)) 30 6 1)) (by omega) (fun j hj q => ?_) (fun q => ?_)
  · rw [mix_0, ← o2, up_id] at Q
    unfold f_X12_image
    rw [bnd_eq]
    exact Q
  · show S_X12_image_7 q (nI j) (upA (up1 h 30 0 0) 32 (mixR (h 31) (h 32) j)) = q (nI (j + 1)) (upA (up1 h 30 0 0) 32 (mixR (h 31) (h 32) (j + 1)))
    unfold S_X12_image_7
    rw [show (1341 : Int32) = nI 1341 from rfl, if_pos ((nI_ltI (by omega) (by omega)).mpr hj), gdT (nI_ix (by omega) (by omega)), gdT (nI_ix (by omega) (by omega)), bnd_eq, nI_clamp (by omega), up1_upA, upA_ob (by decide), o1, mix_s, nI_1]
  · show S_X12_image_7 q (nI 1341) _ = _
    unfold S_X12_image_7
    rw [show (1341 : Int32) = nI 1341 from rfl, if_neg (by decide), bnd_eq]
