/-! LAYER 4. trim, move, come -/
theorem bE {g : Hp} {t : Int32} {md : Hp → Option (Int32 × Hp)} (e : md g = some (0, up1 (up1 g 30 0 0) 30 0 t)) : ∃ b h', md g = some (b, h') ∧ h' 30 0 = t ∧ KM g h' :=
  ⟨0, _, e, up1_same, KM_trans KM_0 KM_0⟩
theorem bEB {g : Hp} {t : Int32} {md : Hp → Option (Bool × Hp)} (e : md g = some (false, up1 (up1 g 30 0 0) 30 0 t)) : ∃ b h', md g = some (b, h') ∧ h' 30 0 = t ∧ KM g h' :=
  ⟨false, _, e, up1_same, KM_trans KM_0 KM_0⟩
theorem w30 {g h : Hp} (e : ∀ k, (27 ≤ k ∧ k ≤ 46) → g k = h k) : (up1 g 30 0 0) 31 = h 31 := by rw [up1_ob (by decide), e 31 (by omega)]
theorem w30' {g h : Hp} (e : ∀ k, 27 ≤ k → k ≤ 46 → g k = h k) : (up1 g 30 0 0) 31 = h 31 := by rw [up1_ob (by decide), e 31 (by omega) (by omega)]
theorem KM1_31 {h : Hp} {k : Nat} {v : Int32} : KM1 h (up1 h 31 k v) := ⟨fun j hj => up1_ob (by omega), fun i _ _ => by rw [up1_ob (by decide)]⟩
theorem KM1_A {h : Hp} {w : Row} : KM1 h (upA h 31 w) := ⟨fun j hj => upA_ob (by omega), fun i _ _ => by rw [upA_ob (by decide)]⟩
theorem c_cutIvy {c n m i : Nat} {h : Hp} {w : Row} (H : CV0 c h n m w) (h8 : n ≤ 8) (hi : i < n) : f_X1_cutIvy c (nI i) h = some (ivR w i, up1 h (c + 3) i 0) := by
  unfold f_X1_cutIvy
  rw [c_isHouse H.2.2.2.1.1 h8 (by omega), decide_eq_true hi, ttt]
  simp (disch := omega) only [reduceIte, ↓zbn, zgd, zcl, zlt, zeq, zn0, zp0, ze0, zem, zsuc, zob, ztl, zfl, ztle, zfle, zte, zfe, zft, toB0, toB1, i10, i01, (H.1 i (by omega)).2.2.1]
theorem sp_12 {a : Nat → Int32} {h : Hp} (I : Inv h) : ∃ h' n, St_12 a h h' n ∧ n ≤ 1 ∧ Inv h' := by
  obtain ⟨⟨n, m, N⟩, _⟩ := id I
  have g := N.1
  have h8 := g.1.2.1
  have h6 := g.1.2.2.2.1
  have H := N.2.1
  have cn := H.2.2.2.1.1
  rcases argI (a 1) (n := n) (by omega) with ⟨i, hi, e1⟩ | hx
  · cases hu : falB (h 31) i
    · have up : upB n (h 31) i = true := by rw [up_fal hi, hu]; rfl
      have hc : ∀ r, f_X11_remember h = some r → (∀ k, k ≠ 1 → ¬ (148 ≤ k ∧ k < 340) → r k = h k) → ∃ h1, f_X11_trim (a 1) h = some (Except.ok (ivR (h 31) i), h1) ∧ KC1 r h1 ∧ CV0 100 h1 n m (upd (h 31) (74 + 5 * i + 2) 0) ∧ LG 100 h1 (upd (h 31) (74 + 5 * i + 2) 0) := by
        intro r er ro
        have rV : CV0 100 r n m (h 31) := CV0_fr H fun k x y => ro k (by omega) (by omega)
        refine ⟨up1 r 103 i 0, ?_, fun k hk => up1_ob (by omega), CV0_iv rV h6 (by omega) up1_at (fun k hk => up1_ob hk), LG_cg (fun k hk => upd_ob (by omega)) (LG_fr N.2.2.1 fun k x y => by rw [up1_ob (by omega), ro k (by omega) (by omega)])⟩
        unfold f_X11_trim
        rw [e1, ckH_i cn h8 hi, obS, exOk, ckU_i H h8 up, obS, exOk, er, obS, c_cutIvy rV h8 hi, obS]
      have hm : ∀ g r', (∀ k, (27 ≤ k ∧ k ≤ 46) → g k = h k) → f_X12_remembers (up1 g 30 0 0) = some r' → r' 31 = h 31 → r' 30 21 = 0 → ∃ h', f_X12_trim (a 1) g = some (ivR (h 31) i, h') ∧ KM1 r' h' ∧ h' 31 = upd (h 31) (74 + 5 * i + 2) 0 := by
        intro q r' qe er e31 _
        refine ⟨up1 r' 31 (74 + 5 * i + 2) 0, ?_, KM1_31, by rw [up1_at, e31]⟩
        unfold f_X12_trim
        rw [bnd_eq, e1, noH_i (by rw [w30 qe]; exact g.1.1) h8 hi, tIf, obS]
        dsimp only
        rw [tff, m_isF (by omega), obS, w30 qe, hu, tIf, obS]
        dsimp only
        rw [tff, er, obS, show f_X12_of (nI i) 2 r' = _ from m_of (w := 2) (by omega) (by omega), obS, show f_X12_at (nI i) 2 r' = nI (74 + 5 * i + 2) from m_atI (w := 2), gdT (nI_ix (by omega) (by omega)), bnd_eq, nI_clamp (by omega), e31]
        rfl
      obtain ⟨h', k, s, l, J⟩ := qAct (c := f_X11_trim (a 1)) (md := f_X12_trim (a 1)) I (Gd_1 (x := 0) g (by omega) (by omega) (by omega) (fun _ _ _ => ⟨0, by omega, rfl⟩) (fun _ _ _ _ _ => by omega) (fun _ _ _ => by omega) (fun _ _ _ => by omega)) (fun k hk => upd_ob (by omega)) hc hm
      exact ⟨h', k, Or.inl s, l, J⟩
    · have up : upB n (h 31) i = false := by rw [up_fal hi, hu]; rfl
      obtain ⟨h', k, s, l, J⟩ := qEr (c := f_X11_trim (a 1)) (md := f_X12_trim (a 1)) (E := "java/lang/IllegalStateException") (t := 2) I ⟨h, by
        unfold f_X11_trim
        rw [e1, ckH_i cn h8 hi, obS, exOk, ckU_x H h8 (by omega) up, obS, exEr], KC_refl h⟩ (fun q _ qe => bE (by
        unfold f_X12_trim
        rw [bnd_eq, e1, noH_i (by rw [w30' qe]; exact g.1.1) h8 hi, tIf, obS]
        dsimp only
        rw [tff, m_isF (by omega), obS, w30' qe, hu, tIt, obS]; rfl))
      exact ⟨h', k, Or.inr (Or.inr s), l, J⟩
  · obtain ⟨h', k, s, l, J⟩ := qEr (c := f_X11_trim (a 1)) (md := f_X12_trim (a 1)) (E := "java/lang/IndexOutOfBoundsException") (t := 1) I ⟨h, by
        unfold f_X11_trim
        rw [ckH_x cn h8 hx, obS, exEr], KC_refl h⟩ (fun q _ qe => bE (by
        unfold f_X12_trim
        rw [bnd_eq, noH_x (by rw [w30' qe]; exact g.1.1) h8 hx, tIt, obS]; rfl))
    exact ⟨h', k, Or.inr (Or.inl s), l, J⟩
theorem sp_13 {a : Nat → Int32} {h : Hp} (I : Inv h) : ∃ h' n, St_13 a h h' n ∧ n ≤ 1 ∧ Inv h' := by
  obtain ⟨⟨n, m, N⟩, _⟩ := id I
  have g := N.1
  have h8 := g.1.2.1
  have h6 := g.1.2.2.2.1
  have H := N.2.1
  have cn := H.2.2.2.1.1
  have cm := H.2.2.2.1.2.1
  have bad : ((a 1 < 0 ∨ nI m ≤ a 1) ∨ (∃ p, p < m ∧ a 1 = nI p) ∧ (a 2 < 0 ∨ nI n ≤ a 2)) → ∃ h' n, St_13 a h h' n ∧ n ≤ 1 ∧ Inv h' := by
    intro hx
    obtain ⟨h', k, s, l, J⟩ := qEr (c := f_X11_move (a 1) (a 2)) (md := f_X12_move (a 1) (a 2)) (E := "java/lang/IndexOutOfBoundsException") (t := 1) I ⟨h, by
        unfold f_X11_move
        rcases hx with q | ⟨⟨p, hp, e⟩, q⟩
        · rw [ckP_x cm h6 q, obS, exEr]
        · rw [e, ckP_i cm h6 hp, obS, exOk, ckH_x cn h8 q, obS, exEr], KC_refl h⟩ (fun q _ qe => bE (by
        have fin : F_X12_move_27 (a 1) (a 2) 1 (up1 q 30 0 0) = some (0, up1 (up1 q 30 0 0) 30 0 1) := by
          unfold F_X12_move_27; rw [tI1, obS]; rfl
        unfold f_X12_move
        rw [bnd_eq]
        rcases hx with z | ⟨_, z⟩
        · rw [noP_x (by rw [w30' qe]; exact g.1.2.2.1) h6 z, ttt, fin]
        · rw [noH_x (x := a 2) (by rw [w30' qe]; exact g.1.1) h8 z, ttt, fin, ite_self]))
    exact ⟨h', k, Or.inr (Or.inl s), l, J⟩
  rcases argI (a 1) (n := m) (by omega) with ⟨p, hp, e1⟩ | hx
  · rcases argI (a 2) (n := n) (by omega) with ⟨i, hi, e2⟩ | hy
    · have inm : ∀ q, q 31 = h 31 → f_X12_move (a 1) (a 2) q = F_X12_move_27 (nI p) (nI i) 0 (up1 q 30 0 0) := fun q qe => by
        have qq : (up1 q 30 0 0) 31 = h 31 := by rw [up1_ob (by decide), qe]
        unfold f_X12_move
        rw [bnd_eq, e1, e2, noP_i (by rw [qq]; exact g.1.2.2.1) h6 hp, tff, noH_i (by rw [qq]; exact g.1.1) h8 hi, tff]
      cases hu : falB (h 31) i
      · have up : upB n (h 31) i = true := by rw [up_fal hi, hu]; rfl
        have hc : ∀ r, f_X11_remember h = some r → (∀ k, k ≠ 1 → ¬ (148 ≤ k ∧ k < 340) → r k = h k) → ∃ h1, f_X11_move (a 1) (a 2) h = some (Except.ok (atR (h 31) p), h1) ∧ KC1 r h1 ∧ CV0 100 h1 n m (upd (h 31) (114 + 3 * p) (nI i)) ∧ LG 100 h1 (upd (h 31) (114 + 3 * p) (nI i)) := by
          intro r er ro
          have rV : CV0 100 r n m (h 31) := CV0_fr H fun k x y => ro k (by omega) (by omega)
          refine ⟨up1 r 106 p (nI i), ?_, fun k hk => up1_ob (by omega), CV0_put rV h6 hp up1_at (fun k hk => up1_ob hk), LG_cg (fun k hk => upd_ob (by omega)) (LG_fr N.2.2.1 fun k x y => by rw [up1_ob (by omega), ro k (by omega) (by omega)])⟩
          unfold f_X11_move
          rw [e1, e2, ckP_i cm h6 hp, obS, exOk, ckH_i cn h8 hi, obS, exOk, ckU_i H h8 up, obS, exOk, er, obS, c_placeOf rV h6 (by omega), obS, if_pos hp]
          unfold f_X1_put
          rw [c_isPerson rV.2.2.2.1.2.1 h6 (by omega), decide_eq_true hp, ttt, gdT (nI_ix (by omega) (by omega)), bnd_eq, nI_clamp (by omega), obS]
        have hm : ∀ g r', (∀ k, (27 ≤ k ∧ k ≤ 46) → g k = h k) → f_X12_remembers (up1 g 30 0 0) = some r' → r' 31 = h 31 → r' 30 21 = 0 → ∃ h', f_X12_move (a 1) (a 2) g = some (atR (h 31) p, h') ∧ KM1 r' h' ∧ h' 31 = upd (h 31) (114 + 3 * p) (nI i) := by
          intro q r' qe er e31 _
          refine ⟨up1 r' 31 (114 + 3 * p) (nI i), ?_, KM1_31, by rw [up1_at, e31]⟩
          rw [inm q (qe 31 (by omega))]
          unfold F_X12_move_27
          rw [tI0, obS]
          dsimp only
          rw [tff, m_isF (by omega), obS, w30 qe, hu, tIf, obS]
          dsimp only
          rw [tff, er, obS, m_ofPerson0 (by omega), obS, show f_X12_personAt (nI p) 0 r' = nI (114 + 3 * p) from m_personAtI (w := 0), gdT (nI_ix (by omega) (by omega)), bnd_eq, nI_clamp (by omega), e31]
          rfl
        obtain ⟨h', k, s, l, J⟩ := qAct (c := f_X11_move (a 1) (a 2)) (md := f_X12_move (a 1) (a 2)) I (Gd_1 (x := nI i) g (by omega) (by omega) (by omega) (fun _ _ _ => by omega) (fun _ _ _ _ _ => by omega) (fun _ _ _ => Or.inr ⟨i, hi, hu, rfl⟩) (fun _ _ _ => by omega)) (fun k hk => upd_ob (by omega)) hc hm
        exact ⟨h', k, Or.inl s, l, J⟩
      · have up : upB n (h 31) i = false := by rw [up_fal hi, hu]; rfl
        obtain ⟨h', k, s, l, J⟩ := qEr (c := f_X11_move (a 1) (a 2)) (md := f_X12_move (a 1) (a 2)) (E := "java/lang/IllegalStateException") (t := 2) I ⟨h, by
          unfold f_X11_move
          rw [e1, e2, ckP_i cm h6 hp, obS, exOk, ckH_i cn h8 hi, obS, exOk, ckU_x H h8 (by omega) up, obS, exEr], KC_refl h⟩ (fun q _ qe => bE (by
          rw [inm q (qe 31 (by omega) (by omega))]
          unfold F_X12_move_27
          rw [tI0, obS]
          dsimp only
          rw [tff, m_isF (by omega), obS, w30' qe, hu, tIt, obS]; rfl))
        exact ⟨h', k, Or.inr (Or.inr s), l, J⟩
    · exact bad (Or.inr ⟨⟨p, hp, e1⟩, hy⟩)
  · exact bad (Or.inl hx)
