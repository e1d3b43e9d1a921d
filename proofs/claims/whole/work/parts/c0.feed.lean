/-! LAYER 4. feed -/
theorem sh_bits : ∀ k, k < 4 → ((((24 - 8 * nI k) &&& 31).toBitVec.smod 32).toNat = 24 - 8 * k) ∧ ((((24 - 8 * nI k : Int32).toUInt32 &&& Int32.toUInt32 31).toBitVec % 32)) = BitVec.ofNat 32 (24 - 8 * k) := by decide +kernel
theorem ushr_255 {x : Int32} {k : Nat} (hk : k < 4) : ushr x (24 - 8 * nI k) &&& 255 = shr x (24 - 8 * nI k) &&& 255 := by
  obtain ⟨b1, b2⟩ := sh_bits k hk
  apply tb_ext
  intro i hi
  rw [tb_and, tb_and]
  by_cases z : i < 8
  · congr 1
    have e1 : (shr x (24 - 8 * nI k)).toBitVec = x.toBitVec.sshiftRight (24 - 8 * k) := by
      unfold shr
      rw [Int32.toBitVec_shiftRight]
      show x.toBitVec.sshiftRight ((((24 - 8 * nI k) &&& 31).toBitVec.smod 32).toNat) = _
      rw [b1]
    have e2 : (ushr x (24 - 8 * nI k)).toBitVec = x.toBitVec >>> (24 - 8 * k) := by
      unfold ushr
      show (x.toBitVec >>> ((((24 - 8 * nI k : Int32).toUInt32 &&& Int32.toUInt32 31).toBitVec % 32))) = _
      rw [b2]
      show x.toBitVec >>> (BitVec.ofNat 32 (24 - 8 * k)).toNat = _
      rw [BitVec.toNat_ofNat, Nat.mod_eq_of_lt (by omega)]
    unfold tb
    rw [e1, e2, BitVec.getLsbD_sshiftRight, BitVec.getLsbD_ushiftRight, if_pos (by omega), decide_eq_false (by omega)]
    rfl
  · have : tb 255 i = false :=
      (show ∀ k, k < 32 → ¬ k < 8 → tb 255 k = false by decide +kernel) i hi z
    rw [this, Bool.and_false, Bool.and_false]
theorem by_low (x : Int32) : (x &&& 255).toInt8 = x.toInt8 := by
  apply Int8.toBitVec_inj.1
  apply BitVec.eq_of_getLsbD_eq
  intro i hi
  have h2 : (255 : Int32).toBitVec.getLsbD i = true := by
    have : ∀ j : Fin 8, (255 : Int32).toBitVec.getLsbD j.val = true := by decide +kernel
    exact this ⟨i, hi⟩
  have h4 : (x &&& 255).toBitVec.getLsbD i = x.toBitVec.getLsbD i := by
    show (x.toBitVec &&& (255 : Int32).toBitVec).getLsbD i = _
    rw [BitVec.getLsbD_and, h2, Bool.and_true]
  have h3 : i < 32 := by omega
  first
    | (show (((x &&& 255).toBitVec).signExtend 8).getLsbD i = (x.toBitVec.signExtend 8).getLsbD i; rw [BitVec.getLsbD_signExtend, BitVec.getLsbD_signExtend, if_pos h3, if_pos h3, h4])
    | (show (((x &&& 255).toBitVec).setWidth 8).getLsbD i = (x.toBitVec.setWidth 8).getLsbD i; rw [BitVec.getLsbD_setWidth, BitVec.getLsbD_setWidth, h4])
    | (simp [hi, h3, h4]; done)
theorem byS_8 : ∀ b, b < 256 → (nI b).toInt8.toInt32 = byS b := by decide +kernel
theorem by_val (x : Int32) {k : Nat} (hk : k < 4) : ∃ b, b < 256 ∧ ushr x (24 - 8 * nI k) &&& 255 = nI b ∧ vp_nar .byte ((shr x (24 - 8 * nI k)).toInt8.toInt32) = byS b := by
  obtain ⟨b, hb, e⟩ := pk_andE (ushr x (24 - 8 * nI k)) (m := 255) 8 (by decide)
  have hb' : b < 256 := hb
  refine ⟨b, hb', e, ?_⟩
  rw [pk_vb, ← by_low, ← ushr_255 hk, e, byS_8 b hb']
theorem sh_nx : ∀ k, k < 4 → 24 - 8 * nI k + (-8) = 24 - 8 * nI (k + 1) ∧ ¬ (24 - 8 * nI k < 0) := by decide +kernel
/-- k numbers more of the row X behind L bytes -/
def FDc (X : Nat → Int32) (L : Nat) (h : Hp) (k : Nat) (u : Hp) : Prop := u 2 1 = nI (L + k) ∧ (∀ i, i ≠ 1 → u 2 i = h 2 i) ∧ (∀ i, i < L → u 3 i = h 3 i) ∧ (∀ i, i < k → u 3 (L + i) = ushr (X (i / 4)) (24 - 8 * nI (i % 4)) &&& 255) ∧ ∀ j, j ≠ 2 → j ≠ 3 → u j = h j
theorem c_append {X : Nat → Int32} {L k : Nat} {h u : Hp} (hL : L + 20 ≤ 400) (hk : k < 5) (H : FDc X L h (4 * k) u) : ∃ u', f_X10_append (X k) u = some u' ∧ FDc X L h (4 * (k + 1)) u' := by
  have Q := loopW (S_X10_append_3 (X k)) (fun _ _ => none) (fun q (s : Nat × Hp) => q (24 - 8 * nI s.1) s.2) 4 (fun j s => s.1 = j ∧ FDc X L h (4 * k + j) s.2)
    (fun r => ∃ u', r = some u' ∧ FDc X L h (4 * (k + 1)) u') (by omega) (fun j s hj hs => ?_) (fun s hs => ?_) (0, u) ⟨rfl, H⟩
  · dsimp only at Q
    rw [show (24 : Int32) - 8 * nI 0 = 24 from by decide] at Q
    exact Q
  · obtain ⟨j', v⟩ := s
    dsimp only at hs
    obtain ⟨hj', v1, v2, v3, v4, v5⟩ := hs
    obtain rfl : j' = j := hj'
    obtain ⟨sn, sp⟩ := sh_nx j' hj
    refine ⟨(j' + 1, up1 (up1 v 3 (L + (4 * k + j')) (ushr (X k) (24 - 8 * nI j') &&& 255)) 2 1 (nI (L + (4 * k + j') + 1))), ⟨rfl, by dsimp only; rw [up1_same]; rfl, fun i hi => by dsimp only; rw [up1_at, upd_ob hi, up1_ob (by decide), v2 i hi], fun i hi => by dsimp only; rw [up1_ob (by decide), up1_at, upd_ob (by omega), v3 i hi], fun i hi => ?_, fun i x y => by dsimp only; rw [up1_ob x, up1_ob y, v5 i x y]⟩, fun q => ?_⟩
    · dsimp only
      rw [up1_ob (by decide), up1_at]
      by_cases c : i = 4 * k + j'
      · rw [c, upd_at, show (4 * k + j') / 4 = k by omega, show (4 * k + j') % 4 = j' by omega]
      · rw [upd_ob (by omega), v4 i (by omega)]
    · show S_X10_append_3 (X k) q (24 - 8 * nI j') v = q (24 - 8 * nI (j' + 1)) _
      unfold S_X10_append_3
      rw [if_neg sp, v1, if_neg (nI_pos (by omega)), show (400 : Int32) = nI 400 from rfl, if_pos ((nI_ltI (by omega) (by omega)).mpr (by omega)), gdT (nI_ix (by omega) (by omega)), bnd_eq, bnd_eq, nI_clamp (by omega), up1_ob (by decide), v1, nI_1, sn]
  · obtain ⟨j', v⟩ := s
    dsimp only at hs
    obtain ⟨hj', Hv⟩ := hs
    obtain rfl : j' = 4 := hj'
    refine ⟨_, ⟨v, rfl, Hv⟩, fun q => ?_⟩
    show S_X10_append_3 (X k) q (24 - 8 * nI 4) v = some v
    unfold S_X10_append_3
    rw [if_pos (by decide)]
def X5 (a : Nat → Int32) : Nat → Int32 := fun k => a (k + 1)
theorem c_feed {a : Nat → Int32} {L : Nat} {h : Hp} (hL : L + 20 ≤ 400) (e : h 2 1 = nI L) : ∃ u, f_X11_feed (a 1) (a 2) (a 3) (a 4) (a 5) h = some (nI (L + 20), u) ∧ FDc (X5 a) L h 20 u := by
  obtain ⟨u1, e1, H1⟩ := c_append (X := X5 a) (k := 0) (h := h) (u := h) hL (by omega) ⟨e, fun _ _ => rfl, fun _ _ => rfl, fun i hi => absurd hi (Nat.not_lt_zero i), fun _ _ _ => rfl⟩
  obtain ⟨u2, e2, H2⟩ := c_append (k := 1) hL (by omega) H1
  obtain ⟨u3, e3, H3⟩ := c_append (k := 2) hL (by omega) H2
  obtain ⟨u4, e4, H4⟩ := c_append (k := 3) hL (by omega) H3
  obtain ⟨u5, e5, H5⟩ := c_append (k := 4) hL (by omega) H4
  refine ⟨u5, ?_, H5⟩
  unfold f_X11_feed
  rw [e, show nI L + 20 = nI (L + 20) from zadd L 20, show (400 : Int32) = nI 400 from rfl, if_neg (fun z => absurd ((nI_ltI (by omega) (by omega)).mp z) (by omega)),
    show a 1 = X5 a 0 from rfl, e1, obS, show a 2 = X5 a 1 from rfl, e2, obS, show a 3 = X5 a 2 from rfl, e3, obS, show a 4 = X5 a 3 from rfl, e4, obS, show a 5 = X5 a 4 from rfl, e5, obS, H5.1]
def FDm (X : Nat → Int32) (L : Nat) (h : Hp) (k : Nat) (u : Hp) : Prop := (∀ i, i ≠ 0 → u 30 i = h 30 i) ∧ (∀ i, i < 5 → u 39 i = X i) ∧ (∀ i, i < L → u 38 i = h 38 i) ∧ (∀ i, i < k → u 38 (L + i) = vp_nar .byte ((shr (X (i / 4)) (24 - 8 * nI (i % 4))).toInt8.toInt32)) ∧ ∀ j, j ≠ 30 → j ≠ 38 → j ≠ 39 → u j = h j
theorem m_feed {a : Nat → Int32} {L : Nat} {h : Hp} (hL : L + 20 ≤ 400) (e : h 30 11 = nI L) : ∃ u, f_X12_feed (a 1) (a 2) (a 3) (a 4) (a 5) h = some (nI (L + 20), up1 u 30 11 (nI (L + 20))) ∧ FDm (X5 a) L h 20 u := by
  obtain ⟨w, hw⟩ : ∃ w, up1 (up1 (up1 (up1 (up1 (up1 h 30 0 0) 39 0 (a 1)) 39 1 (a 2)) 39 2 (a 3)) 39 3 (a 4)) 39 4 (a 5) = w := ⟨_, rfl⟩
  have H0 : FDm (X5 a) L h 0 w := by
    refine ⟨fun i hi => ?_, fun i hi => ?_, fun i _ => ?_, fun i hi => absurd hi (Nat.not_lt_zero i), fun j x y z => ?_⟩
    · rw [← hw, up1_ob (by decide), up1_ob (by decide), up1_ob (by decide), up1_ob (by decide), up1_ob (by decide), up1_at, upd_ob hi]
    · rw [← hw]
      have k : i = 0 ∨ i = 1 ∨ i = 2 ∨ i = 3 ∨ i = 4 := by omega
      rcases k with rfl | rfl | rfl | rfl | rfl
      · rw [up1_at, upd_ob (by decide), up1_at, upd_ob (by decide), up1_at, upd_ob (by decide), up1_at, upd_ob (by decide), up1_at, upd_at]; rfl
      · rw [up1_at, upd_ob (by decide), up1_at, upd_ob (by decide), up1_at, upd_ob (by decide), up1_at, upd_at]; rfl
      · rw [up1_at, upd_ob (by decide), up1_at, upd_ob (by decide), up1_at, upd_at]; rfl
      · rw [up1_at, upd_ob (by decide), up1_at, upd_at]; rfl
      · rw [up1_at, upd_at]; rfl
    · rw [← hw, up1_ob (by decide), up1_ob (by decide), up1_ob (by decide), up1_ob (by decide), up1_ob (by decide), up1_ob (by decide)]
    · rw [← hw, up1_ob z, up1_ob z, up1_ob z, up1_ob z, up1_ob z, up1_ob x]
  have Q := loopW S_X12_feed_60 (fun _ _ => none) (fun q (s : Nat × Hp) => q (nI s.1) s.2) 20 (fun j s => s.1 = j ∧ FDm (X5 a) L h j s.2)
    (fun r => ∃ u, r = some (nI (L + 20), up1 u 30 11 (nI (L + 20))) ∧ FDm (X5 a) L h 20 u) (by omega) (fun j s hj hs => ?_) (fun s hs => ?_) (0, w) ⟨rfl, H0⟩
  · unfold f_X12_feed
    rw [bnd_eq, up1_at, upd_ob (by decide), e, show nI L + 20 = nI (L + 20) from zadd L 20, show (400 : Int32) = nI 400 from rfl, if_neg (fun z => absurd ((nI_ltI (by omega) (by omega)).mp z) (by omega)), bnd_eq, bnd_eq, bnd_eq, bnd_eq, bnd_eq, hw]
    exact Q
  · obtain ⟨j', v⟩ := s
    dsimp only at hs
    obtain ⟨hj', v1, v2, v3, v4, v5⟩ := hs
    obtain rfl : j' = j := hj'
    refine ⟨(j' + 1, up1 v 38 (L + j') (vp_nar .byte ((shr (X5 a (j' / 4)) (24 - 8 * nI (j' % 4))).toInt8.toInt32))), ⟨rfl, fun i hi => by dsimp only; rw [up1_ob (by decide), v1 i hi], fun i hi => by dsimp only; rw [up1_ob (by decide), v2 i hi], fun i hi => by dsimp only; rw [up1_at, upd_ob (by omega), v3 i hi], fun i hi => ?_, fun i x y z => by dsimp only; rw [up1_ob y, v5 i x y z]⟩, fun q => ?_⟩
    · dsimp only
      rw [up1_at]
      by_cases c : i = j'
      · rw [c, upd_at]
      · rw [upd_ob (by omega), v4 i (by omega)]
    · show S_X12_feed_60 q (nI j') v = q (nI (j' + 1)) _
      unfold S_X12_feed_60
      rw [show (20 : Int32) = nI 20 from rfl, if_pos ((nI_ltI (by omega) (by omega)).mpr hj), show (4 : Int32) = nI 4 from rfl, zdv (by omega) (by omega) (by omega), zrm (by omega) (by omega) (by omega), gdT (nI_ix (by omega) (by omega)), v1 11 (by decide), e, zadd, gdT (nI_ix (by omega) (by omega)), bnd_eq, nI_clamp (by omega), nI_clamp (by omega), v2 _ (by omega), nI_1]
  · obtain ⟨j', v⟩ := s
    dsimp only at hs
    obtain ⟨hj', Hv⟩ := hs
    obtain rfl : j' = 20 := hj'
    refine ⟨_, ⟨v, rfl, Hv⟩, fun q => ?_⟩
    show S_X12_feed_60 q (nI 20) v = _
    unfold S_X12_feed_60
    rw [show (20 : Int32) = nI 20 from rfl, if_neg (by decide), bnd_eq, Hv.1 11 (by decide), e, zadd, up1_same]
theorem sp_0 {a : Nat → Int32} {h : Hp} (I : Inv h) : ∃ h' n, St_0 a h h' n ∧ n ≤ 1 ∧ Inv h' := by
  obtain ⟨_, ⟨L, t1, t2, t3, t4, t5⟩, _⟩ := id I
  by_cases c : L + 20 ≤ 400
  · obtain ⟨u, e1, c1, c2, c3, c4, c5⟩ := c_feed (a := a) c t2
    obtain ⟨v, e2, m1, m2, m3, m4, m5⟩ := m_feed (a := a) (h := u) c (by rw [c5 30 (by decide) (by decide)]; exact t3)
    refine ⟨_, 0, ⟨_, u, e1, e2, rfl⟩, by omega, Inv_tp I ⟨L + 20, c, ?_, up1_same, fun i hi => ?_, ?_⟩ (fun j hj => by rw [up1_ob (by omega), m5 j (by omega) (by omega) (by omega), c5 j (by omega) (by omega)]) (fun i hi => by rw [up1_at, upd_ob (by omega), m1 i (by omega), c5 30 (by decide) (by decide)])⟩
    · rw [up1_ob (by decide), m5 2 (by decide) (by decide) (by decide), c1]
    · rw [up1_ob (by decide), up1_ob (by decide), m5 3 (by decide) (by decide) (by decide)]
      by_cases d : i < L
      · obtain ⟨b, x, y, z⟩ := t4 i d
        exact ⟨b, x, by rw [c3 i d]; exact y, by rw [m3 i d, c5 38 (by decide) (by decide)]; exact z⟩
      · obtain ⟨j, rfl⟩ : ∃ j, i = L + j := ⟨i - L, by omega⟩
        obtain ⟨b, x, y, z⟩ := by_val (X5 a (j / 4)) (k := j % 4) (by omega)
        exact ⟨b, x, by rw [c4 j (by omega)]; exact y, by rw [m4 j (by omega)]; exact z⟩
    · rw [up1_ob (by decide), m5 2 (by decide) (by decide) (by decide), c2 2 (by decide), up1_at, upd_ob (by decide), m1 16 (by decide), c5 30 (by decide) (by decide)]
      exact t5
  · refine qNo (c := f_X11_feed (a 1) (a 2) (a 3) (a 4) (a 5)) (md := f_X12_feed (a 1) (a 2) (a 3) (a 4) (a 5)) (v := -1) I ⟨h, ?_, KC_refl h⟩ (fun q _ qe => ⟨up1 q 30 0 0, ?_, KM_0⟩)
    · unfold f_X11_feed
      rw [t2, show nI L + 20 = nI (L + 20) from zadd L 20, show (400 : Int32) = nI 400 from rfl, if_pos ((nI_ltI (by omega) (by omega)).mpr (by omega))]
    · unfold f_X12_feed
      rw [bnd_eq, up1_at, upd_ob (by decide), qe 30 (by omega) (by omega), t3, show nI L + 20 = nI (L + 20) from zadd L 20, show (400 : Int32) = nI 400 from rfl, if_pos ((nI_ltI (by omega) (by omega)).mpr (by omega))]
