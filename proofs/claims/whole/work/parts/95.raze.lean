/-! LAYER 4. raze, build -/
theorem sp_15 {a : Nat → Int32} {h : Hp} (I : Inv h) : ∃ h' n, St_15 a h h' n ∧ n ≤ 1 ∧ Inv h' := by
  obtain ⟨⟨n, m, N⟩, _⟩ := id I
  have g := N.1
  have h8 := g.1.2.1
  have h6 := g.1.2.2.2.1
  have H := N.2.1
  have cn := H.2.2.2.1.1
  rcases argI (a 1) (n := n) (by omega) with ⟨i, hi, e1⟩ | hx
  · have inm : ∀ q, q 31 = h 31 → f_X12_raze (a 1) q = Option.bind (f_X12_throwsIf (b2i (falB (h 31) i)) 2 (up1 q 30 0 0)) fun r_8 => if r_8.1 then some (0, r_8.2) else
        Option.bind (f_X12_remembers r_8.2) fun r_11 => Option.bind (f_X12_lays r_11) fun r_13 => Option.bind (f_X12_bearsNow (nI i) r_13) fun r_15 => Option.bind (f_X12_isGone (nI i) r_13) fun r_17 => Option.bind (f_X12_tells (nI i) 0 0 1 r_17) fun r_19 => some (r_15, r_19) := fun q qe => by
      have qq : (up1 q 30 0 0) 31 = h 31 := by rw [up1_ob (by decide), qe]
      unfold f_X12_raze
      rw [bnd_eq, e1, noH_i (by rw [qq]; exact g.1.1) h8 hi, tIf, obS]
      dsimp only
      rw [tff, m_isF (by omega), obS, qq]
    cases hu : falB (h 31) i
    · have up : upB n (h 31) i = true := by rw [up_fal hi, hu]; rfl
      have gw : Gd n m (tellW (nI i) 0 0 1 (goneW i m (h 31))) := tell_Gd (gone_Gd hi g)
      have wo : ∀ k, (k = 3 ∨ 492 ≤ k) → tellW (nI i) 0 0 1 (goneW i m (h 31)) k = h 31 k := fun k hk => by rw [tell_ob (by omega) (by omega), gone_ob (by omega) h6 (by omega)]
      have hc : ∀ r, f_X11_remember h = some r → (∀ k, k ≠ 1 → ¬ (148 ≤ k ∧ k < 340) → r k = h k) → ∃ h1, f_X11_raze (a 1) h = some (Except.ok (brW n (h 31) i), h1) ∧ KC1 r h1 ∧ CV0 100 h1 n m (tellW (nI i) 0 0 1 (goneW i m (h 31))) ∧ LG 100 h1 (tellW (nI i) 0 0 1 (goneW i m (h 31))) := by
        intro r er ro
        have rN : NOW n m r := NOW_rw (ro 31 (by decide) (by omega)) g (CV0_fr H fun k x y => ro k (by omega) (by omega)) (LG_fr N.2.2.1 fun k x y => ro k (by omega) (by omega)) (LV_fr N.2.2.2 fun k x y => ro k (by omega) (by omega))
        have r31 : r 31 = h 31 := ro 31 (by decide) (by omega)
        obtain ⟨b1, el, K1⟩ := c_loadOf (i := i) (k := 6) rN (by omega) (by omega) (by omega)
        rw [r31, up, ttt] at el
        have bV : CV0 100 b1 n m (h 31) := CV0_fr H fun k x y => by rw [K1 k (by omega), ro k (by omega) (by omega)]
        have bG : LG 100 b1 (h 31) := LG_fr N.2.2.1 fun k x y => by rw [K1 k (by omega), ro k (by omega) (by omega)]
        obtain ⟨b2, ea, _, G2, f2⟩ := c_add (c := 100) (x1 := b1 100 13) (x2 := b1 100 12) (x3 := nI i) (x4 := 0) (x5 := 0) (x6 := 1) (LG_LW bG)
        have V2 : CV0 100 b2 n m (tellW (nI i) 0 0 1 (h 31)) := CV0_tell h6 bV fun k x y => f2 k (by omega) (by omega)
        have L2 : LG 100 b2 (tellW (nI i) 0 0 1 (h 31)) := G2 (h 31) bG bV.2.2.2.2.2.1 bV.2.2.2.2.1
        obtain ⟨b3, et, V3, f3⟩ := c_takeDown V2 h8 h6 hi
        rw [gone_tell (by omega) h6] at V3
        refine ⟨b3, ?_, fun k hk => by rw [f3 k (by omega) (by omega) (by omega), f2 k (by omega) (by omega), K1 k (by omega)], V3, ?_⟩
        · unfold f_X11_raze
          rw [e1, ckH_i cn h8 hi, obS, exOk, ckU_i H h8 up, obS, exOk, er, obS, show f_X11_loadOf (nI i) 6 r = _ from el, obS]
          dsimp only
          rw [show f_X6_add 109 (b1 100 13) (b1 100 12) (nI i) 0 0 1 b1 = some b2 from ea, obS, et, obS]
          rfl
        · rw [← gone_tell (by omega) h6]
          exact LG_cg (fun k hk => gone_ob (by omega) h6 (by omega)) (LG_fr L2 fun k x y => f3 k (by omega) (by omega) (by omega))
      have hm : ∀ g r', (∀ k, (27 ≤ k ∧ k ≤ 46) → g k = h k) → f_X12_remembers (up1 g 30 0 0) = some r' → r' 31 = h 31 → r' 30 21 = 0 → ∃ h', f_X12_raze (a 1) g = some (brW n (h 31) i, h') ∧ KM1 r' h' ∧ h' 31 = tellW (nI i) 0 0 1 (goneW i m (h 31)) := by
        intro q r' qe er e31 _
        obtain ⟨u, e2, f2, l2⟩ := m_laysE (h := r') (n := n) (by rw [e31]; exact g.1.1) h8
        have u31 : u 31 = h 31 := by rw [f2 31 (by decide) (by decide) (by decide), e31]
        have u36 : u 36 i = prW n (h 31) i := by rw [l2 i (by omega), u31]
        refine ⟨upA u 31 (tellW (nI i) 0 0 1 (goneW i m (h 31))), ?_, ⟨fun k hk => by rw [upA_ob (by omega), f2 k (by omega) (by omega) (by omega)], fun k _ _ => by rw [upA_ob (by decide), f2 30 (by decide) (by decide) (by decide)]⟩, upA_at⟩
        rw [inm q (qe 31 (by omega)), hu, tIf, obS]
        dsimp only
        rw [tff, er, obS, e2, obS, m_bearsNow (n := n) (by rw [u31]; exact g.1.1) h8 (by omega), obS, m_isGone (m := m) (by rw [u31]; exact g.1.2.2.1) h6 (by omega), obS, m_tells, obS, upA_at, upA_upA, u31, u36]
        rfl
      obtain ⟨h', k, s, l, J⟩ := qAct (c := f_X11_raze (a 1)) (md := f_X12_raze (a 1)) I gw wo hc hm
      exact ⟨h', k, Or.inl s, l, J⟩
    · have up : upB n (h 31) i = false := by rw [up_fal hi, hu]; rfl
      obtain ⟨h', k, s, l, J⟩ := qEr (c := f_X11_raze (a 1)) (md := f_X12_raze (a 1)) (E := "java/lang/IllegalStateException") (t := 2) I ⟨h, by
        unfold f_X11_raze
        rw [e1, ckH_i cn h8 hi, obS, exOk, ckU_x H h8 (by omega) up, obS, exEr], KC_refl h⟩ (fun q _ qe => bE (by
        rw [inm q (qe 31 (by omega) (by omega)), hu, tIt, obS]; rfl))
      exact ⟨h', k, Or.inr (Or.inr s), l, J⟩
  · obtain ⟨h', k, s, l, J⟩ := qEr (c := f_X11_raze (a 1)) (md := f_X12_raze (a 1)) (E := "java/lang/IndexOutOfBoundsException") (t := 1) I ⟨h, by
        unfold f_X11_raze
        rw [ckH_x cn h8 hx, obS, exEr], KC_refl h⟩ (fun q _ qe => bE (by
        unfold f_X12_raze
        rw [bnd_eq, noH_x (by rw [w30' qe]; exact g.1.1) h8 hx, tIt, obS]; rfl))
    exact ⟨h', k, Or.inr (Or.inl s), l, J⟩
