/-! LAYER 4. Asked falls: falls, rounds, weakest -/
theorem m_keepsM {h : Hp} : f_X12_keepsAll h = some (upA h 34 (mixR (h 31) (h 34) 492)) := by
  have Q := loop0 S_X12_keepsAll_2 (fun _ _ => none) (fun j q => q (nI j) (upA h 34 (mixR (h 31) (h 34) j))) 492 (some (upA h 34 (mixR (h 31) (h 34) 492))) (by omega) (fun j hj q => ?_) (fun q => ?_)
  · rw [mix_0, up_id] at Q
    exact Q
  · show S_X12_keepsAll_2 q (nI j) (upA h 34 (mixR (h 31) (h 34) j)) = q (nI (j + 1)) (upA h 34 (mixR (h 31) (h 34) (j + 1)))
    unfold S_X12_keepsAll_2
    rw [show (492 : Int32) = nI 492 from rfl, if_pos ((nI_ltI (by omega) (by omega)).mpr hj), gdT (nI_ix (by omega) (by omega)), gdT (nI_ix (by omega) (by omega)), bnd_eq, nI_clamp (by omega), up1_upA, upA_ob (by decide), mix_s, nI_1]
  · show S_X12_keepsAll_2 q (nI 492) _ = _
    unfold S_X12_keepsAll_2
    rw [show (492 : Int32) = nI 492 from rfl, if_neg (by decide)]
theorem m_backM {h : Hp} : f_X12_bringsBack h = some (upA h 31 (mixR (h 34) (h 31) 492)) := by
  have Q := loop0 S_X12_bringsBack_2 (fun _ _ => none) (fun j q => q (nI j) (upA h 31 (mixR (h 34) (h 31) j))) 492 (some (upA h 31 (mixR (h 34) (h 31) 492))) (by omega) (fun j hj q => ?_) (fun q => ?_)
  · rw [mix_0, up_id] at Q
    exact Q
  · show S_X12_bringsBack_2 q (nI j) (upA h 31 (mixR (h 34) (h 31) j)) = q (nI (j + 1)) (upA h 31 (mixR (h 34) (h 31) (j + 1)))
    unfold S_X12_bringsBack_2
    rw [show (492 : Int32) = nI 492 from rfl, if_pos ((nI_ltI (by omega) (by omega)).mpr hj), gdT (nI_ix (by omega) (by omega)), gdT (nI_ix (by omega) (by omega)), bnd_eq, nI_clamp (by omega), up1_upA, upA_ob (by decide), mix_s, nI_1]
  · show S_X12_bringsBack_2 q (nI 492) _ = _
    unfold S_X12_bringsBack_2
    rw [show (492 : Int32) = nI 492 from rfl, if_neg (by decide)]
/-- the row w0 is kept -/
def KEPT (w0 : Row) (h : Hp) : Prop := (∀ k, k < 492 → h 34 k = w0 k) ∧ ∀ k, 492 ≤ k → h 31 k = w0 k
theorem back_31 {h : Hp} {w0 : Row} (K : KEPT w0 h) : (upA h 31 (mixR (h 34) (h 31) 492)) 31 = w0 := by
  rw [upA_at]
  funext k
  by_cases c : k < 492
  · rw [mix_i c]; exact K.1 k c
  · rw [mix_o c]; exact K.2 k (by omega)
theorem keep_K {h : Hp} : KEPT (h 31) (upA h 34 (mixR (h 31) (h 34) 492)) :=
  ⟨fun k hk => by rw [upA_at, mix_i hk], fun k hk => by rw [upA_ob (by decide)]⟩
/-- rows of asking that last -/
def KT (h h' : Hp) : Prop := (∀ k, (k < 30 ∨ 46 < k ∨ k = 32 ∨ k = 34 ∨ k = 35 ∨ k = 38) → h' k = h k) ∧ ∀ i, i ≠ 20 → i ≠ 22 → h' 30 i = h 30 i
theorem m_wouldFall {h : Hp} {n m : Nat} {e : Int32} {w0 : Row} (g : GdN n m (h 31)) (h21 : h 30 21 = 0) (K : KEPT w0 h) :
    ∃ h', f_X12_wouldFall e h = some ((fallW n m e 0 (h 31)).1, h') ∧ h' 31 = w0 ∧ h' 30 22 = nI (fallW n m e 0 (h 31)).2.1 ∧ KT h h' := by
  obtain ⟨u, e1, w1, r1, f1, _⟩ := m_allFall (e := e) g
  rw [h21] at e1 w1 r1
  have Ku : KEPT w0 u := ⟨fun k hk => by rw [f1 34 (by decide) (by decide) (by decide) (by decide) (by decide)]; exact K.1 k hk, fun k hk => by rw [w1]; exact (fl_ob g.2.1 g.2.2.2.1 (by omega) 9 0 (h 31)).trans (K.2 k hk)⟩
  refine ⟨_, ?_, back_31 Ku, by rw [upA_ob (by decide), r1, upd_at], ⟨fun k hk => by rw [upA_ob (by omega), f1 k (by omega) (by omega) (by omega) (by omega) (by omega)], fun i x y => by rw [upA_ob (by decide), r1, upd_ob y, upd_ob x]⟩⟩
  unfold f_X12_wouldFall
  rw [e1, obS]
  dsimp only
  rw [m_backM, obS]
theorem KM_34 {h : Hp} {w : Row} : KM h (upA h 34 w) := ⟨fun k hk => upA_ob (by omega), fun i _ _ _ => by rw [upA_ob (by decide)]⟩
theorem KM_KT {h h' : Hp} (K : KT h h') (e : h' 31 = h 31) : KM h h' := ⟨fun k hk => by
  by_cases c : k = 31
  · rw [c, e]
  · exact K.1 k (by omega), fun i _ x y => K.2 i x y⟩
theorem m_fallsIn {h : Hp} {n m : Nat} {e : Int32} (g : GdN n m (h 31)) (h21 : h 30 21 = 0) :
    ∃ h', f_X12_fallsIn e h = some ((fallW n m e 0 (h 31)).1, h') ∧ h' 30 22 = nI (fallW n m e 0 (h 31)).2.1 ∧ h' 31 = h 31 ∧ KM h h' ∧ h' 30 0 = h 30 0 := by
  have u31 : (upA h 34 (mixR (h 31) (h 34) 492)) 31 = h 31 := upA_ob (by decide)
  obtain ⟨h', e1, w1, r1, K1⟩ := m_wouldFall (h := upA h 34 (mixR (h 31) (h 34) 492)) (e := e) (w0 := h 31) (n := n) (m := m) (by rw [u31]; exact g) (by rw [upA_ob (by decide)]; exact h21) keep_K
  rw [u31] at e1 r1
  refine ⟨h', ?_, r1, w1, KM_trans KM_34 (KM_KT K1 (by rw [w1, u31])), by rw [K1.2 0 (by decide) (by decide), upA_ob (by decide)]⟩
  unfold f_X12_fallsIn
  rw [m_keepsM, obS, e1, obS]
theorem NOW_KC {n m : Nat} {h h' : Hp} (N : NOW n m h) (K : KC h h') : NOW n m h' :=
  NOW_rw (K 31 (by omega)) N.1 (CV0_fr N.2.1 fun k x y => K k (by omega)) (LG_fr N.2.2.1 fun k x y => K k (by omega)) (LV_fr N.2.2.2 fun k x y => K k (by omega))
theorem NOW_KM {n m : Nat} {h h' : Hp} (N : NOW n m h) (K : KM h h') : NOW n m h' :=
  NOW_rw (K.1 31 (by omega)) N.1 (CV0_fr N.2.1 fun k x y => K.1 k (by omega)) (LG_fr N.2.2.1 fun k x y => K.1 k (by omega)) (LV_fr N.2.2.2 fun k x y => K.1 k (by omega))
/-- the probe is the city -/
theorem c_probe {h : Hp} {n m : Nat} (N : NOW n m h) : ∃ r, f_X1_copyFrom 116 100 h = some r ∧ KC h r ∧ CV0 116 r n m (h 31) ∧ LG 116 r (h 31) ∧ LV 500 r (h 31) ∧ ∀ k, (k < 116 ∨ 126 < k) → r k = h k := by
  obtain ⟨r, e, p⟩ := c_copyFrom (k0 := 116) (k1 := 100) (h := h) (by omega)
  have f := CP_fr p
  exact ⟨r, e, fun k hk => f k (by omega), CP_CV0 p N.1.1.2.2.2.1 N.2.1, CP_LG p N.2.2.1, LV_fr N.2.2.2 fun k x y => f k (by omega), fun k hk => f k (by omega)⟩
theorem KC_pr {a b : Hp} (f : ∀ k, (k < 116 ∨ 116 + 10 < k) → (k < 4 ∨ 14 < k) → k ≠ 500 + 7 → b k = a k) : KC a b := fun k hk => f k (by omega) (by omega) (by omega)
theorem c_fallsNow {h : Hp} {n m e : Nat} (N : NOW n m h) (he : e < 7) :
    ∃ h', f_X11_fallsNow (nI e) h = some ((fallW n m (nI e) 0 (h 31)).1, h') ∧ KC h h' ∧ h' 4 1 = nI (fallW n m (nI e) 0 (h 31)).2.1 := by
  obtain ⟨r, e1, K1, V, G, L, _⟩ := c_probe N
  obtain ⟨h', e2, _, _, _, t, _, f⟩ := c_fall (c := 116) (r := 500) (e := e) (by decide) (Or.inl (by decide)) (by decide) N.1 V (LG_LW G) L he
  refine ⟨h', ?_, KC_trans K1 (KC_pr f), t⟩
  unfold f_X11_fallsNow
  rw [e1, obS, e2, obS]
theorem sp_16 {a : Nat → Int32} {h : Hp} (I : Inv h) : ∃ h' n, St_16 a h h' n ∧ n ≤ 1 ∧ Inv h' := by
  obtain ⟨⟨n, m, N⟩, _⟩ := id I
  rcases argI (a 1) (n := 7) (by omega) with ⟨e, he, e1⟩ | hx
  · obtain ⟨h1, c1, K1, _⟩ := c_fallsNow N he
    obtain ⟨h', k, s, l, J⟩ := qOk (c := f_X11_falls (a 1)) (md := f_X12_falls (a 1)) (v := (fallW n m (nI e) 0 (h 31)).1) I ⟨h1, by
        unfold f_X11_falls
        rw [e1, ckE_i he, obS, exOk, c1, obS], K1⟩ (fun q J qe => by
        have q21 := J.2.2.2.2
        have w := w30' qe
        obtain ⟨h', e2, _, _, K2, z⟩ := m_fallsIn (h := up1 q 30 0 0) (n := n) (m := m) (e := nI e) (by rw [w]; exact N.1.1) (by rw [up1_at, upd_ob (by decide)]; exact q21)
        refine ⟨h', ?_, by rw [z, up1_at, upd_at], KM_trans KM_0 K2⟩
        unfold f_X12_falls
        rw [bnd_eq, e1, noE_i he, tIf, obS]
        dsimp only
        rw [tff, e2, obS, w])
    exact ⟨h', k, Or.inl s, l, J⟩
  · obtain ⟨h', k, s, l, J⟩ := qEr (c := f_X11_falls (a 1)) (md := f_X12_falls (a 1)) (E := "java/lang/IndexOutOfBoundsException") (t := 1) I ⟨h, by
        unfold f_X11_falls
        rw [ckE_x hx, obS, exEr], KC_refl h⟩ (fun q _ qe => bE (by
        unfold f_X12_falls
        rw [bnd_eq, noE_x hx, tIt, obS]; rfl))
    exact ⟨h', k, Or.inr s, l, J⟩
theorem sp_17 {a : Nat → Int32} {h : Hp} (I : Inv h) : ∃ h' n, St_17 a h h' n ∧ n ≤ 1 ∧ Inv h' := by
  obtain ⟨⟨n, m, N⟩, _⟩ := id I
  rcases argI (a 1) (n := 7) (by omega) with ⟨e, he, e1⟩ | hx
  · obtain ⟨h1, c1, K1, t1⟩ := c_fallsNow N he
    obtain ⟨h', k, s, l, J⟩ := qOk (c := f_X11_rounds (a 1)) (md := f_X12_rounds (a 1)) (v := nI (fallW n m (nI e) 0 (h 31)).2.1) I ⟨h1, by
        unfold f_X11_rounds
        rw [e1, ckE_i he, obS, exOk, c1, obS, ← t1], K1⟩ (fun q J qe => by
        have q21 := J.2.2.2.2
        have w := w30' qe
        obtain ⟨h', e2, t2, _, K2, z⟩ := m_fallsIn (h := up1 q 30 0 0) (n := n) (m := m) (e := nI e) (by rw [w]; exact N.1.1) (by rw [up1_at, upd_ob (by decide)]; exact q21)
        refine ⟨h', ?_, by rw [z, up1_at, upd_at], KM_trans KM_0 K2⟩
        unfold f_X12_rounds
        rw [bnd_eq, e1, noE_i he, tIf, obS]
        dsimp only
        rw [w] at t2
        rw [tff, e2, obS, ← t2])
    exact ⟨h', k, Or.inl s, l, J⟩
  · obtain ⟨h', k, s, l, J⟩ := qEr (c := f_X11_rounds (a 1)) (md := f_X12_rounds (a 1)) (E := "java/lang/IndexOutOfBoundsException") (t := 1) I ⟨h, by
        unfold f_X11_rounds
        rw [ckE_x hx, obS, exEr], KC_refl h⟩ (fun q _ qe => bE (by
        unfold f_X12_rounds
        rw [bnd_eq, noE_x hx, tIt, obS]; rfl))
    exact ⟨h', k, Or.inr s, l, J⟩
