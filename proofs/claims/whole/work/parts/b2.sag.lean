/-! LAYER 4. sagging of the model -/
theorem far_lt {b t : Nat} (hb : b ≤ 891) (ht : t ≤ 2790) : (-1000000 : Int32) < nI b - nI t := by
  rw [Int32.lt_iff_toInt_lt, pk_sub_toInt (by omega) (by omega)]
  show (-1000000 : Int) < _
  omega
theorem ms_bd {n m : Nat} {w : Row} {e : Int32} (g : Gd n m w) : ∀ N, N ≤ 8 → (msW n m w e N).1 = true → ∃ b t, b ≤ 891 ∧ t ≤ 2790 ∧ (msW n m w e N).2 = nI b - nI t
  | 0, _, h => Bool.noConfusion h
  | N + 1, hN, h => by
    have ih := ms_bd (e := e) g N (by omega)
    have h' : (msF n m w e N (msW n m w e N)).1 = true := h
    show ∃ b t, b ≤ 891 ∧ t ≤ 2790 ∧ (msF n m w e N (msW n m w e N)).2 = nI b - nI t
    unfold msF at h' ⊢
    by_cases u : upB n w N = true
    · rw [if_pos u] at h' ⊢
      obtain ⟨b, t, b1, t1, _, _, q⟩ := sg_N (e := e) g (show N < 8 by omega)
      show ∃ b t, b ≤ 891 ∧ t ≤ 2790 ∧ (if (msW n m w e N).1 = false ∨ (msW n m w e N).2 < sgW n m w e 0 N then sgW n m w e 0 N else (msW n m w e N).2) = nI b - nI t
      by_cases c : (msW n m w e N).1 = false ∨ (msW n m w e N).2 < sgW n m w e 0 N
      · rw [if_pos c]; exact ⟨b, t, b1, t1, q⟩
      · rw [if_neg c]
        have c' : (msW n m w e N).1 = true := by
          cases z : (msW n m w e N).1
          · exact absurd (Or.inl z) c
          · rfl
        exact ih c'
    · rw [if_neg u] at h' ⊢
      exact ih h'
theorem ms_0 {n m : Nat} {w : Row} {e : Int32} : ∀ N, (msW n m w e N).1 = false → (msW n m w e N).2 = 0
  | 0, _ => rfl
  | N + 1, h => by
    have h' : (msF n m w e N (msW n m w e N)).1 = false := h
    show (msF n m w e N (msW n m w e N)).2 = 0
    unfold msF at h' ⊢
    by_cases u : upB n w N = true
    · rw [if_pos u] at h'; exact Bool.noConfusion h'
    · rw [if_neg u] at h' ⊢; exact ms_0 N h'
def msX (n m : Nat) (w : Row) (e : Int32) (N : Nat) : Int32 := if (msW n m w e N).1 then (msW n m w e N).2 else -1000000
theorem m_mostSags {h : Hp} {n m : Nat} (g : Gd n m (h 31)) (h21 : h 30 21 = 0) : ∃ h1, f_X12_mostSags h = some ((msW n m (h 31) (h 31 4) n).2, h1) ∧ KM h h1 ∧ h1 30 0 = h 30 0 ∧ h1 34 = h 34 := by
  have h8 := g.1.2.1
  obtain ⟨p, e1, l1, p31, p30, K1⟩ := m_laysNow g.1
  have p34 : p 34 = h 34 := by
    have := e1
    unfold f_X12_laysNow at this
    rw [bnd_eq] at this
    obtain ⟨z, ez, fz, _⟩ := m_laysE (h := up1 h 30 20 (h 31 4)) (n := n) (by rw [up1_ob (by decide)]; exact g.1.1) h8
    rw [ez, obS] at this
    rw [← Option.some.inj this, fz 34 (by decide) (by decide) (by decide), up1_ob (by decide)]
  have p20 : p 30 20 = h 31 4 := by rw [p30, upd_at]
  have p21 : p 30 21 = 0 := by rw [p30, upd_ob (by decide)]; exact h21
  have Q := loopW S_X12_mostSags_10 (fun _ _ _ => none) (fun q (s : Nat × Hp) => q (msX n m (h 31) (h 31 4) s.1) (nI s.1) s.2) n (fun j s => s.1 = j ∧ ∀ k, k ≠ 40 → s.2 k = p k)
    (fun r => ∃ h1, r = some ((msW n m (h 31) (h 31 4) n).2, h1) ∧ KM h h1 ∧ h1 30 0 = h 30 0 ∧ h1 34 = h 34) (by omega) (fun j s hj hs => ?_) (fun s hs => ?_) (0, p) ⟨rfl, fun _ _ => rfl⟩
  · unfold f_X12_mostSags
    rw [e1, obS]
    exact Q
  · obtain ⟨j', u⟩ := s
    dsimp only at hs
    obtain ⟨hj', K⟩ := hs
    obtain rfl : j' = j := hj'
    have u31 : u 31 = h 31 := (K 31 (by decide)).trans p31
    have lu : laid n u := fun i hi => by rw [K 36 (by decide), l1 i hi, p31, u31]
    cases hu : falB (h 31) j'
    · obtain ⟨v, e2⟩ := m_sagsNow (h := u) (n := n) (m := m) (i := j') lu (by rw [u31]; exact g.1) (by omega)
      rw [u31, K 30 (by decide), p20, p21] at e2
      refine ⟨(j' + 1, upA u 40 v), ⟨rfl, fun k hk => (upA_ob hk).trans (K k hk)⟩, fun q => ?_⟩
      show S_X12_mostSags_10 q (msX n m (h 31) (h 31 4) j') (nI j') u = q (msX n m (h 31) (h 31 4) (j' + 1)) (nI (j' + 1)) (upA u 40 v)
      unfold S_X12_mostSags_10
      rw [m_houses, u31, itP g.1.1 hj (by omega), m_isF (by omega), u31, obS, hu, tff, e2, obS, bnd_eq, nI_1]
      congr 1
      have up : upB n (h 31) j' = true := by rw [up_fal hj, hu]; rfl
      obtain ⟨b, t, b1, t1, _, _, qs⟩ := sg_N (e := h 31 4) g (show j' < 8 by omega)
      unfold msX
      show _ = if (msF n m (h 31) (h 31 4) j' (msW n m (h 31) (h 31 4) j')).1 = true then (msF n m (h 31) (h 31 4) j' (msW n m (h 31) (h 31 4) j')).2 else -1000000
      unfold msF
      rw [if_pos up]
      dsimp only
      rw [if_pos (rfl : true = true)]
      unfold imax
      cases z : (msW n m (h 31) (h 31 4) j').1
      · rw [tff, if_pos (Or.inl rfl), if_pos (by rw [qs]; exact far_lt b1 t1)]
      · rw [ttt]
        by_cases c : (msW n m (h 31) (h 31 4) j').2 < sgW n m (h 31) (h 31 4) 0 j'
        · rw [if_pos c, if_pos (Or.inr c)]
        · rw [if_neg c, if_neg (fun y => y.elim (fun x => Bool.noConfusion x) c)]
    · refine ⟨(j' + 1, u), ⟨rfl, K⟩, fun q => ?_⟩
      show S_X12_mostSags_10 q (msX n m (h 31) (h 31 4) j') (nI j') u = q (msX n m (h 31) (h 31 4) (j' + 1)) (nI (j' + 1)) u
      unfold S_X12_mostSags_10
      rw [m_houses, u31, itP g.1.1 hj (by omega), m_isF (by omega), u31, obS, hu, ttt, nI_1]
      have ms : msW n m (h 31) (h 31 4) (j' + 1) = msW n m (h 31) (h 31 4) j' := by
        show msF n m (h 31) (h 31 4) j' (msW n m (h 31) (h 31 4) j') = _
        unfold msF
        rw [up_fal hj, hu]; rfl
      unfold msX
      rw [ms]
  · obtain ⟨j', u⟩ := s
    dsimp only at hs
    obtain ⟨hj', K⟩ := hs
    obtain rfl : n = j' := hj'.symm
    have u31 : u 31 = h 31 := (K 31 (by decide)).trans p31
    refine ⟨_, ⟨u, rfl, ⟨fun k hk => by rw [K k (by omega), K1.1 k hk], fun i a b c => by rw [K 30 (by decide), K1.2 i a b c]⟩, by rw [K 30 (by decide), p30, upd_ob (by decide)], by rw [K 34 (by decide), p34]⟩, fun q => ?_⟩
    show S_X12_mostSags_10 q (msX n m (h 31) (h 31 4) n) (nI n) u = _
    unfold S_X12_mostSags_10
    rw [m_houses, u31, itN g.1.1 (by omega)]
    unfold msX
    cases z : (msW n m (h 31) (h 31 4) n).1
    · rw [tff, if_pos rfl, ms_0 n z]
    · rw [ttt]
      obtain ⟨b, t, b1, t1, q⟩ := ms_bd g n h8 z
      rw [if_neg (fun y => by
        have := far_lt b1 t1
        rw [← q, y] at this
        exact absurd this (by decide))]
theorem sp_28 {a : Nat → Int32} {h : Hp} (I : Inv h) : ∃ h' n, St_28 a h h' n ∧ n ≤ 1 ∧ Inv h' := by
  obtain ⟨⟨n, m, N⟩, _⟩ := id I
  obtain ⟨r, e1, S, K⟩ := c_measured N
  have h8 := N.1.1.2.1
  have V := (NOW_KC N K).2.1
  rw [KC_31 K] at V
  exact qNo (c := f_X11_sagging) (md := f_X12_sagging) (v := (msW n m (h 31) (h 31 4) n).2) I ⟨r, by
      unfold f_X11_sagging
      rw [e1, obS, V.2.2.2.1.2.2, c_greatest h8 S, obS], K⟩ (fun q J qe => by
    have w := w30' qe
    obtain ⟨h1, e, K2, _, _⟩ := m_mostSags (h := up1 q 30 0 0) (n := n) (m := m) (by rw [w]; exact N.1) (by rw [up1_at, upd_ob (by decide)]; exact J.2.2.2.2)
    rw [w] at e
    refine ⟨h1, ?_, KM_trans KM_0 K2⟩
    unfold f_X12_sagging
    rw [bnd_eq, e, obS])
