/-! LAYER 4. order, means -/
/-- both sides, where the tape is right -/
theorem od_both {h : Hp} (I : Inv h) {n m L : Nat} (N : NOW n m h) (t2 : h 2 1 = nI L) (t3 : h 30 11 = nI L) (tb' : ∀ i, i < L → btN h i < 256 ∧ h 3 i = nI (btN h i) ∧ h 38 i = byS (btN h i)) (f : tdB n (h 31) (btN h) L = true) :
    L ≤ 5 ∧ stSet (bstO n m L (h 31) (dsB (btN h) L)) ∧ (∃ u, f_X8_solve 100 500 (orTo (dsB (btN h) L) 8) (up1 h 2 1 0) = some u ∧ u 15 1 = (bstO n m L (h 31) (dsB (btN h) L)).1 ∧ (∀ p, p < L → u 16 p = nI ((bstO n m L (h 31) (dsB (btN h) L)).2 p)) ∧ KC (up1 h 2 1 0) u ∧ cnt (dsB (btN h) L) 8 = L) ∧
      ∀ g : Hp, (∀ k, 27 ≤ k → k ≤ 46 → g k = h k) → f_X12_isOrder (usM g) = some true ∧ ∃ v, f_X12_bestOrder (usM g) = some ((bstO n m L (h 31) (dsB (btN h) L)).1, v) ∧ (∀ p, p < L → v 42 p = nI ((bstO n m L (h 31) (dsB (btN h) L)).2 p)) ∧ KM (usM g) v ∧ v 30 0 = 0 ∧ v 30 13 = nI L := by
  have G := N.1
  have h8 := G.1.2.1
  have ⟨f1, f2⟩ := Bool.and_eq_true_iff.mp f
  have hE : L ≤ 5 := of_decide_eq_true f1
  have cE := ds_cnt h8 L f2
  have tu : ∀ x, x < 8 → dsB (btN h) L x = true → upB n (h 31) x = true := fun x _ d => ds_up f2 d
  have Nr : NOW n m (up1 h 2 1 0) := NOW_rw (up1_ob (by decide)) G (CV0_fr N.2.1 fun k x y => up1_ob (by omega)) (LG_fr N.2.2.1 fun k x y => up1_ob (by omega)) (LV_fr N.2.2.2 fun k x y => up1_ob (by omega))
  have r31 : (up1 h 2 1 0) 31 = h 31 := up1_ob (by decide)
  obtain ⟨u, e1, u1, u2, set, K⟩ := c_solveO (told := dsB (btN h) L) Nr hE cE (by rw [r31]; exact tu)
  rw [r31] at u1 u2 set
  refine ⟨hE, set, ⟨u, e1, u1, u2, K, cE⟩, fun g ge => ?_⟩
  have e31 : usM g 31 = h 31 := by rw [us_ob (by decide), ge 31 (by omega) (by omega)]
  have e13 : usM g 30 13 = nI L := by rw [us_13, ge 30 (by omega) (by omega), t3]
  have e38 : usM g 38 = h 38 := by rw [us_ob (by decide), ge 38 (by omega) (by omega)]
  refine ⟨by rw [m_isOrder (n := n) (m := m) (E := L) (b := btN h) (by rw [e31]; exact G) (by omega) e13 (fun i hi => ⟨(tb' i hi).1, by rw [e38]; exact (tb' i hi).2.2⟩), e31, f], ?_⟩
  obtain ⟨v, e2, Kv, v42⟩ := m_bestOrder (h := usM g) (E := L) (b := btN h) G hE e31 e13 (by rw [us_30 (by decide) (by decide) (by decide) (by decide), ge 30 (by omega) (by omega)]; exact I.2.2.2.2) (fun i hi => by
    have lt := upB_lt (toF_t f2 i hi).1
    exact ⟨lt, by rw [e38, (tb' i hi).2.2, byS_lo (by omega)]⟩)
  have em := stM_end (n := n) (m := m) (w := h 31) (told := dsB (btN h) L) rfl cE
  rw [em] at e2 v42
  exact ⟨v, e2, v42 set, KZ_KM Kv, by rw [Kv.2 0 (by decide) (by decide), us_0], by rw [Kv.2 13 (by decide) (by decide), e13]⟩
theorem od_bad {h : Hp} {n m L : Nat} (N : NOW n m h) (hL : L ≤ 400) (t3 : h 30 11 = nI L) (tb' : ∀ i, i < L → btN h i < 256 ∧ h 3 i = nI (btN h i) ∧ h 38 i = byS (btN h i)) (f : tdB n (h 31) (btN h) L = false) (g : Hp) (ge : ∀ k, 27 ≤ k → k ≤ 46 → g k = h k) : f_X12_isOrder (usM g) = some false := by
  have e31 : usM g 31 = h 31 := by rw [us_ob (by decide), ge 31 (by omega) (by omega)]
  have e13 : usM g 30 13 = nI L := by rw [us_13, ge 30 (by omega) (by omega), t3]
  have e38 : usM g 38 = h 38 := by rw [us_ob (by decide), ge 38 (by omega) (by omega)]
  rw [m_isOrder (n := n) (m := m) (E := L) (b := btN h) (by rw [e31]; exact N.1) hL e13 (fun i hi => ⟨(tb' i hi).1, by rw [e38]; exact (tb' i hi).2.2⟩), e31, f]
theorem sp_24 {a : Nat → Int32} {h : Hp} (I : Inv h) : ∃ h' n, St_24 a h h' n ∧ n ≤ 1 ∧ Inv h' := by
  obtain ⟨⟨n, m, N⟩, _⟩ := id I
  obtain ⟨L, hL, t2, t3, tb'⟩ := TP_b I
  have ct := c_told (E := L) (b := btN h) N.2.1 N.1.1.2.1 hL t2 (fun i hi => ⟨(tb' i hi).1, (tb' i hi).2.1⟩)
  cases f : tdB n (h 31) (btN h) L
  · rw [f, tff] at ct
    obtain ⟨h', k, s, l, J⟩ := qErT (c := f_X11_means) (md := f_X12_means) (E := "java/lang/IllegalArgumentException") (t := 1) I ⟨_, by unfold f_X11_means; rw [ct, obS, exEr], KC_refl _⟩ (fun g ge => by
      refine ⟨0, up1 (usM g) 30 0 1, ?_, up1_same, usT⟩
      unfold f_X12_means F_X12_means_17
      rw [m_uses, obS, od_bad N hL t3 tb' f g ge, obS, tff, tI1, obS]
      rfl)
    exact ⟨h', k, Or.inr s, l, J⟩
  · rw [f, ttt] at ct
    obtain ⟨hE, set, ⟨u, e1, u1, u2, K, cE⟩, md⟩ := od_both I N t2 t3 tb' f
    obtain ⟨h', k, s, l, J⟩ := qOkT (c := f_X11_means) (md := f_X12_means) (v := (bstO n m L (h 31) (dsB (btN h) L)).1) I ⟨u, by
      unfold f_X11_means
      rw [ct, obS, exOk, e1, obS, u1], K⟩ (fun g ge => by
      obtain ⟨m1, v, m2, v42, Kv, z, _⟩ := md g ge
      refine ⟨v, ?_, z, Kv⟩
      unfold f_X12_means F_X12_means_17
      rw [m_uses, obS, m1, obS, ttt, tI0, obS]
      dsimp only
      rw [tff, m2, obS])
    exact ⟨h', k, Or.inl s, l, J⟩
theorem sp_23 {a : Nat → Int32} {h : Hp} (I : Inv h) : ∃ h' n, St_23 a h h' n ∧ n ≤ 1 ∧ Inv h' := by
  obtain ⟨⟨n, m, N⟩, _⟩ := id I
  obtain ⟨L, hL, t2, t3, tb'⟩ := TP_b I
  have ct := c_told (E := L) (b := btN h) N.2.1 N.1.1.2.1 hL t2 (fun i hi => ⟨(tb' i hi).1, (tb' i hi).2.1⟩)
  cases f : tdB n (h 31) (btN h) L
  · rw [f, tff] at ct
    obtain ⟨h', k, s, l, J⟩ := qErT (c := f_X11_order (a 1)) (md := f_X12_order (a 1)) (E := "java/lang/IllegalArgumentException") (t := 1) I ⟨_, by unfold f_X11_order; rw [ct, obS, exEr], KC_refl _⟩ (fun g ge => by
      refine ⟨0, up1 (usM g) 30 0 1, ?_, up1_same, usT⟩
      unfold f_X12_order F_X12_order_17
      rw [m_uses, obS, od_bad N hL t3 tb' f g ge, obS, tff, tI1, obS]
      rfl)
    exact ⟨h', k, Or.inr s, l, J⟩
  · rw [f, ttt] at ct
    obtain ⟨hE, set, ⟨u, e1, u1, u2, K, cE⟩, md⟩ := od_both I N t2 t3 tb' f
    have bc : f_J6_bitCount_0f7a4 (orTo (dsB (btN h) L) 8) u = nI L := by rw [bcount8, cE]
    rcases argI (a 1) (n := L) (by omega) with ⟨k, hk, ek⟩ | hx
    · obtain ⟨h', k, s, l, J⟩ := qOkT (c := f_X11_order (a 1)) (md := f_X12_order (a 1)) (v := nI ((bstO n m L (h 31) (dsB (btN h) L)).2 k)) I ⟨u, by
        unfold f_X11_order
        rw [ct, obS, exOk, e1, obS, bc, ek, if_neg (nI_pos (by omega)), if_pos ((nI_ltI (by omega) (by omega)).mpr hk), if_pos (show nI k < 5 from (nI_ltI (b := 5) (by omega) (by omega)).mpr (by omega)), gdT (nI_ix (by omega) (by omega)), nI_clamp (by omega), u2 k hk], K⟩ (fun g ge => by
        obtain ⟨m1, v, m2, v42, Kv, z, z13⟩ := md g ge
        refine ⟨v, ?_, z, Kv⟩
        unfold f_X12_order F_X12_order_17
        rw [m_uses, obS, m1, obS, ttt, tI0, obS]
        dsimp only
        rw [tff, m2, obS]
        dsimp only
        have ic : f_X12_in (a 1) 0 (v 30 13 - 1) v = true := by
          rw [z13, zprs (by omega), ek]
          exact in_ok (a := 0) (b := L - 1) (by omega) (by omega) (by omega)
        rw [if_pos ic, ek, gdT (nI_ix (by omega) (by omega)), nI_clamp (by omega), v42 k hk])
      exact ⟨h', k, Or.inl s, l, J⟩
    · obtain ⟨h', k, s, l, J⟩ := qOkT (c := f_X11_order (a 1)) (md := f_X12_order (a 1)) (v := -1) I ⟨u, by
        unfold f_X11_order
        rw [ct, obS, exOk, e1, obS, bc]
        rcases hx with z | z
        · rw [if_pos z]
        · rw [if_neg (show ¬ a 1 < nI L from fun y => absurd (Int32.lt_of_lt_of_le y z) Int32.lt_irrefl), ite_self], K⟩ (fun g ge => by
        obtain ⟨m1, v, m2, v42, Kv, z, z13⟩ := md g ge
        refine ⟨v, ?_, z, Kv⟩
        unfold f_X12_order F_X12_order_17
        rw [m_uses, obS, m1, obS, ttt, tI0, obS]
        dsimp only
        rw [tff, m2, obS]
        dsimp only
        have ic : f_X12_in (a 1) 0 (v 30 13 - 1) v = false := by
          rw [z13]
          exact inL (by omega) hx
        rw [if_neg (by rw [ic]; exact fun z => Bool.noConfusion z)])
      exact ⟨h', k, Or.inl s, l, J⟩
