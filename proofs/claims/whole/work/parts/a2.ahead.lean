/-! LAYER 4. ahead -/
theorem noA_i {j : Nat} {h : Hp} (hj : j ≤ 70) : f_X12_noAhead (nI j) h = false := by
  unfold f_X12_noAhead
  rw [show f_X12_in (nI j) 0 70 h = true from in_ok (a := 0) (b := 70) (by omega) hj (by omega), ttt]
theorem noA_x {x : Int32} {h : Hp} (hx : x < 0 ∨ nI 70 < x) : f_X12_noAhead x h = true := by
  unfold f_X12_noAhead
  rw [show f_X12_in x 0 70 h = false from hx.elim in_lo (fun q => in_hi (hi := 70) q), tff]
theorem up_std {n : Nat} {w : Row} (h8 : n ≤ 8) : orTo (upB n w) 8 = orTo (upS w) n :=
  orTo_8' h8 (fun i hi => by unfold upS; exact up_fal hi) (fun i a _ => upB_hi a)
/-- the probe goes on -/
theorem c_probeRun {h : Hp} {n m N1 : Nat} {b : Bool} (N : NOW n m h) (hN : N1 ≤ 70) : ∃ r h1, f_X1_copyFrom 116 100 h = some r ∧ f_X3_run 116 500 (nI N1) (bI b) r = some h1 ∧ KC h h1 ∧ CV0 116 h1 n m (goW (!b) n m (h 31) N1) := by
  obtain ⟨r, e1, K1, V, G, L, _⟩ := c_probe N
  obtain ⟨h1, e2, V1, _, _, f⟩ := c_run (c := 116) (r := 500) (N := N1) (b := b) (by decide) (Or.inl (by decide)) (by decide) N.1 V (LG_LW G) L hN
  exact ⟨r, h1, e1, e2, KC_trans K1 (KC_pr f), V1⟩
/-- the model's world goes on, kept -/
theorem m_goKept {h : Hp} {n m N1 : Nat} {calm : Bool} (g : Gd n m (h 31)) (h21 : h 30 21 = 0) (hN : N1 ≤ 70) : ∃ r h1 x, f_X12_keepsAll h = some r ∧ f_X12_goesOn (nI N1) (bI calm) r = some (x, h1) ∧ h1 31 = goW calm n m (h 31) N1 ∧ KEPT (h 31) h1 ∧ KT r h1 ∧ (∀ k, k ≠ 34 → r k = h k) := by
  obtain ⟨r, hr⟩ : ∃ r, upA h 34 (mixR (h 31) (h 34) 492) = r := ⟨_, rfl⟩
  have ro : ∀ k, k ≠ 34 → r k = h k := fun k x => by rw [← hr, upA_ob x]
  have r31 := ro 31 (by decide)
  have Kr : KEPT (h 31) r := by rw [← hr]; exact keep_K
  obtain ⟨h1, e, w1, E3, F3⟩ := m_goesOn (h := r) (n := n) (m := m) (N := N1) (calm := calm) (by rw [r31]; exact g.1) (by rw [ro 30 (by decide)]; exact h21) (by omega)
  rw [r31] at w1
  refine ⟨r, h1, _, by rw [m_keepsM, hr], e, w1, ⟨fun k hk => ?_, fun k hk => ?_⟩, ⟨fun k hk => F3 k (by omega) (by omega) (by omega) (by omega) (by omega), fun i x y => E3 i x y⟩, ro⟩
  · rw [F3 34 (by decide) (by decide) (by decide) (by decide) (by decide)]; exact Kr.1 k hk
  · rw [w1]; exact go_law g (Or.inr hk) N1
theorem KM_kept {h r h1 : Hp} (ro : ∀ k, k ≠ 34 → r k = h k) (K : KT r h1) (Kh : KEPT (h 31) h1) : KM h (upA h1 31 (mixR (h1 34) (h1 31) 492)) ∧ (upA h1 31 (mixR (h1 34) (h1 31) 492)) 30 0 = h 30 0 := by
  refine ⟨⟨fun k hk => ?_, fun i _ x y => by rw [upA_ob (by decide), K.2 i x y, ro 30 (by decide)]⟩, by rw [upA_ob (by decide), K.2 0 (by decide) (by decide), ro 30 (by decide)]⟩
  by_cases c : k = 31
  · rw [c, back_31 Kh]
  · rw [upA_ob c, K.1 k (by omega), ro k (by omega)]
theorem sp_44 {a : Nat → Int32} {h : Hp} (I : Inv h) : ∃ h' n, St_44 a h h' n ∧ n ≤ 1 ∧ Inv h' := by
  obtain ⟨⟨n, m, N⟩, _⟩ := id I
  have g := N.1
  have h8 := g.1.2.1
  have ca : ∀ u, f_X11_checkAmount (a 1) 0 70 u = f_X11_checkAmount (a 1) (nI 0) (nI 70) u := fun u => rfl
  rcases argA (a 1) (b := 70) (by omega) with ⟨N1, hN, e1⟩ | hx
  · obtain ⟨r, h1, c1, c2, K1, V1⟩ := c_probeRun (N1 := N1) (b := false) N hN
    obtain ⟨h', k, s, l, J⟩ := qOk (c := f_X11_ahead (a 1)) (md := f_X12_ahead (a 1)) (v := orTo (upS (goW true n m (h 31) N1)) n) I ⟨h1, by
        unfold f_X11_ahead
        rw [ca, ckR (by omega) ⟨N1, by omega, hN, e1⟩, obS, exOk, c1, obS, e1, show f_X3_run 116 500 (nI N1) 0 r = some h1 from c2, obS, show h1 116 11 = _ from V1.2.2.2.1.2.2]
        exact congrArg (fun x => some (Except.ok x, h1)) (up_std h8), K1⟩ (fun q J qe => by
        have w := w30' qe
        obtain ⟨r', u, x, d1, d2, d3, d4, d5, d6⟩ := m_goKept (h := up1 q 30 0 0) (n := n) (m := m) (N1 := N1) (calm := true) (by rw [w]; exact g) (by rw [up1_at, upd_ob (by decide)]; exact J.2.2.2.2) hN
        obtain ⟨km, z⟩ := KM_kept d6 d5 d4
        refine ⟨_, ?_, z.trans up1_same, KM_trans KM_0 km⟩
        unfold f_X12_ahead
        rw [bnd_eq, e1, noA_i hN, tIf, obS]
        dsimp only
        rw [tff, d1, obS, show f_X12_goesOn (nI N1) 1 r' = some (x, u) from d2, obS]
        dsimp only
        rw [std_eq (n := n) (by rw [d3, w]; exact (go_Gd g N1).1.1) h8, obS, m_backM, obS, d3, w])
    exact ⟨h', k, Or.inl s, l, J⟩
  · obtain ⟨h', k, s, l, J⟩ := qEr (c := f_X11_ahead (a 1)) (md := f_X12_ahead (a 1)) (E := "java/lang/IllegalArgumentException") (t := 1) I ⟨h, by
        unfold f_X11_ahead
        rw [ca, ckX hx, obS, exEr], KC_refl h⟩ (fun q _ qe => bE (by
        unfold f_X12_ahead
        rw [bnd_eq, noA_x hx, tIt, obS]; rfl))
    exact ⟨h', k, Or.inr s, l, J⟩
