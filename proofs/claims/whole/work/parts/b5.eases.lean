/-! LAYER 4. eases of the model -/
theorem m_easeOne {u : Hp} {n m i o : Nat} (g : Gd n m (u 31)) (h21 : u 30 21 = 0) (hi : i < n) (ho : o < n) (h1 : upB n (u 31) i = true) (h2 : upB n (u 31) o = true) (cc : i ≠ o) :
    ∃ r s t v, f_X12_keepsAll u = some r ∧ f_X12_weds (nI i) (nI o) r = some s ∧ f_X12_mostSags s = some (seW n m (u 31) i o, t) ∧ f_X12_bringsBack t = some v ∧ KM u v ∧ v 30 0 = u 30 0 := by
  have h8 := g.1.2.1
  have gw := wd_Gd g (show i < 8 by omega) (show o < 8 by omega) h1 h2 cc
  obtain ⟨r, hr⟩ : ∃ r, upA u 34 (mixR (u 31) (u 34) 492) = r := ⟨_, rfl⟩
  have ro : ∀ k, k ≠ 34 → r k = u k := fun k x => by rw [← hr, upA_ob x]
  have Kr : KEPT (u 31) r := by rw [← hr]; exact keep_K
  obtain ⟨s, hs⟩ : ∃ s, upA r 31 (wdW (u 31) i o) = s := ⟨_, rfl⟩
  have so : ∀ k, k ≠ 31 → s k = r k := fun k x => by rw [← hs, upA_ob x]
  have s31 : s 31 = wdW (u 31) i o := by rw [← hs, upA_at]
  obtain ⟨t, e3, K3, z3, t34⟩ := m_mostSags (h := s) (n := n) (m := m) (by rw [s31]; exact gw) (by rw [so 30 (by decide), ro 30 (by decide)]; exact h21)
  have Kt : KEPT (u 31) t := ⟨fun k hk => by rw [t34, so 34 (by decide)]; exact Kr.1 k hk, fun k hk => by rw [K3.1 31 (by omega), s31]; exact wd_ob (by omega) (by omega) (by omega)⟩
  refine ⟨r, s, t, _, by rw [m_keepsM, hr], by rw [m_wedsW (by omega) (by omega) cc, ro 31 (by decide), hs], by rw [e3, s31, wd_ob (by omega) (by omega) (by omega)]; rfl, m_backM, ⟨fun k hk => ?_, fun x a b c => by rw [upA_ob (by decide), K3.2 x a b c, so 30 (by decide), ro 30 (by decide)]⟩, by rw [upA_ob (by decide), z3, so 30 (by decide), ro 30 (by decide)]⟩
  by_cases c : k = 31
  · rw [c, back_31 Kt]
  · rw [upA_ob c, K3.1 k hk, so k c, ro k (by omega)]
theorem m_eases {h : Hp} {n m : Nat} {L : Int32} (g : Gd n m (h 31)) (h21 : h 30 21 = 0) : ∃ h1, F_X12_eases_14 FU (-1) L 0 h = some ((esW n m (h 31) L n).2, h1) ∧ KM h h1 ∧ h1 30 0 = h 30 0 := by
  have h8 := g.1.2.1
  have Q := loopW S_X12_eases_14 (fun _ _ _ _ => none) (fun q (s : Nat × Hp) => q (esW n m (h 31) L s.1).2 (esW n m (h 31) L s.1).1 (nI s.1) s.2) n (fun j s => s.1 = j ∧ KM h s.2 ∧ s.2 30 0 = h 30 0)
    (fun r => ∃ h1, r = some ((esW n m (h 31) L n).2, h1) ∧ KM h h1 ∧ h1 30 0 = h 30 0) (by omega) (fun j s hj hs => ?_) (fun s hs => ?_) (0, h) ⟨rfl, KM_refl h, rfl⟩
  · exact Q
  · obtain ⟨j', u⟩ := s
    dsimp only at hs
    obtain ⟨hj', K, z⟩ := hs
    obtain rfl : j' = j := hj'
    have u31 : u 31 = h 31 := K.1 31 (by omega)
    obtain ⟨X, hX⟩ : ∃ X, esW n m (h 31) L j' = X := ⟨_, rfl⟩
    have hX' : esW n m (h 31) L (j' + 1) = esI n m (h 31) j' X (n - 1 - j') := by rw [← es_t h8, ← hX]; rfl
    have inner := loopQ (fun (c : Int32 → Int32 → Int32 → Hp → Option (Int32 × Hp)) k => F_X12_eases_27 c (nI j') k) (fun c q => S_X12_eases_27 c (nI j') q) (fun c k => rfl) (fun q (s : Nat × Hp) => q (esI n m (h 31) j' X s.1).2 (esI n m (h 31) j' X s.1).1 (nI (j' + 1 + s.1)) s.2) (n - 1 - j')
      (fun i s => s.1 = i ∧ KM h s.2 ∧ s.2 30 0 = h 30 0) (fun r => ∃ h1, (KM h h1 ∧ h1 30 0 = h 30 0) ∧ r = fun c => c (esI n m (h 31) j' X (n - 1 - j')).2 (esI n m (h 31) j' X (n - 1 - j')).1 (nI (j' + 1)) h1) (by omega) (fun i s hi hs => ?_) (fun s hs => ?_) (0, u) ⟨rfl, K, z⟩
    · obtain ⟨u', K', e'⟩ := inner
      refine ⟨(j' + 1, u'), ⟨rfl, K'⟩, fun q => ?_⟩
      show S_X12_eases_14 q (esW n m (h 31) L j').2 (esW n m (h 31) L j').1 (nI j') u = q (esW n m (h 31) L (j' + 1)).2 (esW n m (h 31) L (j' + 1)).1 (nI (j' + 1)) u'
      have t := congrFun e' q
      dsimp only at t
      rw [hX', hX]
      unfold S_X12_eases_14
      rw [m_houses, u31, itP g.1.1 hj (by omega), nI_1]
      exact t
    · obtain ⟨i', v⟩ := s
      dsimp only at hs
      obtain ⟨hi', Kv, zv⟩ := hs
      obtain rfl : i' = i := hi'
      have v31 : v 31 = h 31 := Kv.1 31 (by omega)
      have v21 : v 30 21 = 0 := by rw [Kv.2 21 (by decide) (by decide) (by decide)]; exact h21
      obtain ⟨Y, hY⟩ : ∃ Y, esI n m (h 31) j' X i' = Y := ⟨_, rfl⟩
      have hY' : esI n m (h 31) j' X (i' + 1) = esP n m (h 31) j' (j' + 1 + i') Y := by rw [← hY]; rfl
      have e8 : (8 : Int32) * nI j' + nI (j' + 1 + i') = nI (8 * j' + (j' + 1 + i')) := by rw [show (8 : Int32) = nI 8 from rfl, zmul, zadd]
      cases c1 : falB (h 31) j'
      · cases c2 : falB (h 31) (j' + 1 + i')
        · have u1 : upB n (h 31) j' = true := by rw [up_fal hj, c1]; rfl
          have u2 : upB n (h 31) (j' + 1 + i') = true := by rw [up_fal (by omega), c2]; rfl
          obtain ⟨r1, r2, r3, v', e1, e2, e3, e4, K2, z2⟩ := m_easeOne (u := v) (n := n) (m := m) (i := j') (o := j' + 1 + i') (by rw [v31]; exact g) v21 hj (by omega) (by rw [v31]; exact u1) (by rw [v31]; exact u2) (by omega)
          rw [v31] at e3
          refine Or.inl ⟨(i' + 1, v'), ⟨rfl, KM_trans Kv K2, z2.trans zv⟩, fun c q => ?_⟩
          show S_X12_eases_27 c (nI j') q (esI n m (h 31) j' X i').2 (esI n m (h 31) j' X i').1 (nI (j' + 1 + i')) v = q (esI n m (h 31) j' X (i' + 1)).2 (esI n m (h 31) j' X (i' + 1)).1 (nI (j' + 1 + (i' + 1))) v'
          rw [hY', hY]
          unfold S_X12_eases_27 esP
          rw [m_houses, v31, itP g.1.1 (show j' + 1 + i' < n by omega) (by omega), m_isF (by omega), v31, c1, obS, tff, m_isF (by omega), v31, c2, obS, tff, e1, obS, e2, obS, e3, obS]
          dsimp only
          rw [e4, obS, u1, u2, Bool.and_self, ttt]
          unfold F_X12_eases_94
          rw [e8, bnd_eq, bnd_eq, nI_1]
          unfold imin
          by_cases d : seW n m (h 31) j' (j' + 1 + i') < Y.1
          · rw [if_pos d, if_pos d, if_pos d]; rfl
          · rw [if_neg d, if_neg d, if_neg d]; rfl
        · have u2 : upB n (h 31) (j' + 1 + i') = false := by rw [up_fal (by omega), c2]; rfl
          refine Or.inl ⟨(i' + 1, v), ⟨rfl, Kv, zv⟩, fun c q => ?_⟩
          show S_X12_eases_27 c (nI j') q (esI n m (h 31) j' X i').2 (esI n m (h 31) j' X i').1 (nI (j' + 1 + i')) v = q (esI n m (h 31) j' X (i' + 1)).2 (esI n m (h 31) j' X (i' + 1)).1 (nI (j' + 1 + (i' + 1))) v
          rw [hY', hY]
          unfold S_X12_eases_27 esP
          rw [m_houses, v31, itP g.1.1 (show j' + 1 + i' < n by omega) (by omega), m_isF (by omega), v31, c1, obS, tff, m_isF (by omega), v31, c2, obS, ttt, u2, Bool.and_false, tff, nI_1]
          rfl
      · have u1 : upB n (h 31) j' = false := by rw [up_fal hj, c1]; rfl
        refine Or.inl ⟨(i' + 1, v), ⟨rfl, Kv, zv⟩, fun c q => ?_⟩
        show S_X12_eases_27 c (nI j') q (esI n m (h 31) j' X i').2 (esI n m (h 31) j' X i').1 (nI (j' + 1 + i')) v = q (esI n m (h 31) j' X (i' + 1)).2 (esI n m (h 31) j' X (i' + 1)).1 (nI (j' + 1 + (i' + 1))) v
        rw [hY', hY]
        unfold S_X12_eases_27 esP
        rw [m_houses, v31, itP g.1.1 (show j' + 1 + i' < n by omega) (by omega), m_isF (by omega), v31, c1, obS, ttt, u1, Bool.false_and, tff, nI_1]
        rfl
    · obtain ⟨i', v⟩ := s
      dsimp only at hs
      obtain ⟨hi', Kv⟩ := hs
      subst hi'
      refine ⟨_, ⟨v, Kv, rfl⟩, fun c q => ?_⟩
      show S_X12_eases_27 c (nI j') q (esI n m (h 31) j' X (n - 1 - j')).2 (esI n m (h 31) j' X (n - 1 - j')).1 (nI (j' + 1 + (n - 1 - j'))) v = c (esI n m (h 31) j' X (n - 1 - j')).2 (esI n m (h 31) j' X (n - 1 - j')).1 (nI (j' + 1)) v
      have v31 : v 31 = h 31 := Kv.1.1 31 (by omega)
      unfold S_X12_eases_27
      rw [show nI (j' + 1 + (n - 1 - j')) = nI n from congrArg nI (by omega), m_houses, v31, itN g.1.1 (by omega), nI_1]
  · obtain ⟨j', u⟩ := s
    dsimp only at hs
    obtain ⟨hj', K, z⟩ := hs
    obtain rfl : n = j' := hj'.symm
    have u31 : u 31 = h 31 := K.1 31 (by omega)
    refine ⟨_, ⟨u, rfl, K, z⟩, fun q => ?_⟩
    show S_X12_eases_14 q (esW n m (h 31) L n).2 (esW n m (h 31) L n).1 (nI n) u = _
    unfold S_X12_eases_14
    rw [m_houses, u31, itN g.1.1 (by omega)]
theorem sp_27 {a : Nat → Int32} {h : Hp} (I : Inv h) : ∃ h' n, St_27 a h h' n ∧ n ≤ 1 ∧ Inv h' := by
  obtain ⟨⟨n, m, N⟩, _⟩ := id I
  have h8 := N.1.1.2.1
  obtain ⟨r, e1, S, K⟩ := c_measured N
  have Nr := NOW_KC N K
  have r31 := KC_31 K
  obtain ⟨s, e2, K2⟩ := c_eases (L := (msW n m (h 31) (h 31 4) n).2) Nr
  have V := Nr.2.1
  rw [r31] at e2 V
  exact qNo (c := f_X11_eases) (md := f_X12_eases) (v := (esW n m (h 31) (msW n m (h 31) (h 31 4) n).2 n).2) I ⟨s, by
      unfold f_X11_eases
      rw [e1, obS, V.2.2.2.1.2.2, c_greatest h8 S, obS, e2], KC_trans K K2⟩ (fun q J qe => by
    have w := w30' qe
    obtain ⟨t, e, K2, _, _⟩ := m_mostSags (h := up1 q 30 0 0) (n := n) (m := m) (by rw [w]; exact N.1) (by rw [up1_at, upd_ob (by decide)]; exact J.2.2.2.2)
    rw [w] at e
    have t31 : t 31 = h 31 := (K2.1 31 (by omega)).trans w
    obtain ⟨v, e3, K3, _⟩ := m_eases (h := t) (n := n) (m := m) (L := (msW n m (h 31) (h 31 4) n).2) (by rw [t31]; exact N.1) (by rw [K2.2 21 (by decide) (by decide) (by decide), up1_at, upd_ob (by decide)]; exact J.2.2.2.2)
    rw [t31] at e3
    refine ⟨v, ?_, KM_trans KM_0 (KM_trans K2 K3)⟩
    unfold f_X12_eases
    rw [bnd_eq, e, obS, e3])
