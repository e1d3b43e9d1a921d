/-! LAYER 4. swap -/
theorem p2_bad {x1 x2 : Int32} {h : Hp} {m : Nat} (cm : h 100 10 = nI m) (h6 : m ≤ 6) (hx : (x1 < 0 ∨ nI m ≤ x1) ∨ (∃ i, i < m ∧ x1 = nI i) ∧ (x2 < 0 ∨ nI m ≤ x2)) : f_X11_checkTwoPeople x1 x2 h = some (Except.error "java/lang/IndexOutOfBoundsException", h) := by
  unfold f_X11_checkTwoPeople
  rcases hx with z | ⟨⟨i, hi, e⟩, z⟩
  · rw [ckP_x cm h6 z, obS, exEr]
  · rw [e, ckP_i cm h6 hi, obS, exOk, ckP_x cm h6 z, obS, exEr]
theorem p2_in {i o m : Nat} {h : Hp} (cm : h 100 10 = nI m) (h6 : m ≤ 6) (hi : i < m) (ho : o < m) : f_X11_checkTwoPeople (nI i) (nI o) h = if i = o then some (Except.error "java/lang/IllegalArgumentException", h) else some (Except.ok (), h) := by
  unfold f_X11_checkTwoPeople
  rw [ckP_i cm h6 hi, obS, exOk, ckP_i cm h6 ho, obS, exOk]
  by_cases c : i = o
  · rw [if_pos c, if_pos (by rw [c])]
  · rw [if_neg c, if_neg (by rw [nI_eq (by omega) (by omega)]; exact c)]
def swW (w : Row) (p o : Nat) : Row := plW (plW w p (atR w o)) o (atR w p)
theorem sw_Gd {n m p o : Nat} {w : Row} (g : Gd n m w) (hp : p < m) (ho : o < m) : Gd n m (swW w p o) := by
  have h6 := g.1.2.2.2.1
  have g1 : Gd n m (plW w p (atR w o)) := plW_Gd g hp (g.2.2.2.1 o ho).1
  refine plW_Gd g1 ho ?_
  rcases (g.2.2.2.1 p hp).1 with x | ⟨i, a, b, c⟩
  · exact Or.inl x
  · have hn := g.1.2.1
    exact Or.inr ⟨i, a, by unfold falB; rw [plW_ob (by omega)]; exact b, c⟩
theorem sp_35 {a : Nat → Int32} {h : Hp} (I : Inv h) : ∃ h' n, St_35 a h h' n ∧ n ≤ 1 ∧ Inv h' := by
  obtain ⟨⟨n, m, N⟩, _⟩ := id I
  have g := N.1
  have h6 := g.1.2.2.2.1
  have H := N.2.1
  have cm := H.2.2.2.1.2.1
  obtain ⟨e, he, ee⟩ := g.2.2.2.2.1
  have bad : ((a 1 < 0 ∨ nI m ≤ a 1) ∨ (∃ p, p < m ∧ a 1 = nI p) ∧ (a 2 < 0 ∨ nI m ≤ a 2)) → ∃ h' n, St_35 a h h' n ∧ n ≤ 1 ∧ Inv h' := by
    intro hx
    obtain ⟨h', k, s, l, J⟩ := qErB (c := f_X11_swap (a 1) (a 2)) (md := f_X12_swap (a 1) (a 2)) (E := "java/lang/IndexOutOfBoundsException") (t := 1) I ⟨h, by
        unfold f_X11_swap
        rw [p2_bad cm h6 hx, obS, exEr], KC_refl h⟩ (fun q _ qe => bEB (by
        have fin : F_X12_swap_27 (a 1) (a 2) 1 (up1 q 30 0 0) = some (false, up1 (up1 q 30 0 0) 30 0 1) := by
          unfold F_X12_swap_27; rw [tI1, obS]; rfl
        unfold f_X12_swap
        rw [bnd_eq]
        rcases hx with z | ⟨_, z⟩
        · rw [noP_x (by rw [w30' qe]; exact g.1.2.2.1) h6 z, ttt, fin]
        · rw [noP_x (x := a 2) (by rw [w30' qe]; exact g.1.2.2.1) h6 z, ttt, fin, ite_self]))
    exact ⟨h', k, Or.inr (Or.inl s), l, J⟩
  rcases argI (a 1) (n := m) (by omega) with ⟨p, hp, e1⟩ | hx
  · rcases argI (a 2) (n := m) (by omega) with ⟨o, ho, e2⟩ | hx
    · have inm : ∀ q, q 31 = h 31 → f_X12_swap (a 1) (a 2) q = if p = o then F_X12_swap_45 (nI p) (nI o) 1 (up1 q 30 0 0) else F_X12_swap_45 (nI p) (nI o) 0 (up1 q 30 0 0) := fun q qe => by
        have qq : (up1 q 30 0 0) 31 = h 31 := by rw [up1_ob (by decide), qe]
        unfold f_X12_swap F_X12_swap_27
        rw [bnd_eq, e1, e2, noP_i (by rw [qq]; exact g.1.2.2.1) h6 hp, tff, noP_i (by rw [qq]; exact g.1.2.2.1) h6 ho, tff, tI0, obS]
        dsimp only
        rw [tff]
        by_cases c : p = o
        · rw [if_pos (by rw [c]), if_pos c]
        · rw [if_neg (by rw [nI_eq (by omega) (by omega)]; exact c), if_neg c]
      by_cases c : p = o
      · obtain ⟨h', k, s, l, J⟩ := qErB (c := f_X11_swap (a 1) (a 2)) (md := f_X12_swap (a 1) (a 2)) (E := "java/lang/IllegalArgumentException") (t := 2) I ⟨h, by
          unfold f_X11_swap
          rw [e1, e2, p2_in cm h6 hp ho, if_pos c, obS, exEr], KC_refl h⟩ (fun q _ qe => bEB (by
          rw [inm q (qe 31 (by omega) (by omega)), if_pos c]
          unfold F_X12_swap_45
          rw [tI1, obS]; rfl))
        exact ⟨h', k, Or.inr (Or.inr s), l, J⟩
      · have gs := sw_Gd g hp ho
        have s4 : swW (h 31) p o 4 = nI e := by unfold swW; rw [plW_ob (by omega), plW_ob (by omega)]; exact ee
        have x12 : h 100 12 = nI e := H.2.2.2.2.1.trans ee
        obtain ⟨b1, c1, K1, _⟩ := c_fallsNow (e := e) N (by omega)
        have N1 := NOW_KC N K1
        obtain ⟨b2, c2, K2, V2, G2, L2, f2⟩ := c_probe N1
        rw [KC_31 K1] at V2 G2 L2
        have N2 := NOW_KC N1 K2
        have e31 : b2 31 = h 31 := (KC_31 K2).trans (KC_31 K1)
        obtain ⟨d3, V3, G3, L3, f3⟩ := pr_put (x := atR (h 31) o) h6 hp V2 G2 g.1.2.2.2.2 L2
        have K3 : KC b2 (up1 b2 122 p (atR (h 31) o)) := fun k hk => up1_ob (by omega)
        have N3 := NOW_KC N2 K3
        have g3 : Gd n m (plW (h 31) p (atR (h 31) o)) := plW_Gd g hp (g.2.2.2.1 o ho).1
        obtain ⟨d4, V4, G4, L4, f4⟩ := pr_put (x := atR (h 31) p) h6 ho V3 G3 g3.1.2.2.2.2 L3
        obtain ⟨b5, c5, _, _, _, _, _, f5⟩ := c_fall (c := 116) (r := 500) (e := e) (by decide) (Or.inl (by decide)) (by decide) gs V4 (LG_LW G4) L4 (by omega)
        obtain ⟨v, hv⟩ : ∃ v, decide (fcN n m (nI e) (swW (h 31) p o) < fcN n m (nI e) (h 31)) = v := ⟨_, rfl⟩
        have f81 := fc_8 (e := nI e) gs.1
        have f82 := fc_8 (e := nI e) g.1
        obtain ⟨h', k, s, l, J⟩ := qOkB (c := f_X11_swap (a 1) (a 2)) (md := f_X12_swap (a 1) (a 2)) (v := v) I ⟨b5, by
            have pl1 : f_X1_placeOf 100 (nI o) b2 = some (atR (h 31) o) := by rw [c_placeOf N2.2.1 h6 (by omega), if_pos ho, e31]
            have pl2 : f_X1_placeOf 100 (nI p) (up1 b2 122 p (atR (h 31) o)) = some (atR (h 31) p) := by rw [c_placeOf N3.2.1 h6 (by omega), if_pos hp, up1_ob (by decide), e31]
            have y12 : (up1 (up1 b2 122 p (atR (h 31) o)) 122 o (atR (h 31) p)) 116 12 = nI e := V4.2.2.2.2.1.trans s4
            unfold f_X11_swap
            rw [e1, e2, p2_in cm h6 hp ho, if_neg c, obS, exOk, x12, c1, obS, bnd_eq, c2, obS, pl1, obS, d3, obS, pl2, obS, d4, obS, y12, c5, obS]
            dsimp only
            rw [fc_bc gs.1, fc_bc g.1, ← hv]
            by_cases z : fcN n m (nI e) (swW (h 31) p o) < fcN n m (nI e) (h 31)
            · rw [if_pos ((nI_ltI (by omega) (by omega)).mpr z), decide_eq_true z]
            · rw [if_neg (fun y => z ((nI_ltI (by omega) (by omega)).mp y)), decide_eq_false z], KC_trans K1 (KC_trans K2 (KC_trans K3 (KC_trans (fun k hk => up1_ob (by omega)) (KC_pr f5))))⟩ (fun q J qe => by
            have w := w30' qe
            obtain ⟨u, m1, _, u31, k1, z1⟩ := m_fallsIn (h := up1 q 30 0 0) (n := n) (m := m) (e := nI e) (by rw [w]; exact g.1) (by rw [up1_at, upd_ob (by decide)]; exact J.2.2.2.2)
            rw [w] at m1 u31
            obtain ⟨t, ht⟩ : ∃ t, upA u 34 (mixR (u 31) (u 34) 492) = t := ⟨_, rfl⟩
            have to : ∀ k, k ≠ 34 → t k = u k := fun k x => by rw [← ht, upA_ob x]
            have t31 : t 31 = h 31 := (to 31 (by decide)).trans u31
            have Kt : KEPT (h 31) t := by rw [← u31, ← ht]; exact keep_K
            obtain ⟨s, hs⟩ : ∃ s, up1 (up1 t 31 (114 + 3 * p) (atR (h 31) o)) 31 (114 + 3 * o) (atR (h 31) p) = s := ⟨_, rfl⟩
            have s31 : s 31 = swW (h 31) p o := by rw [← hs, up1_at, up1_at, t31]; rfl
            have so : ∀ k, k ≠ 31 → s k = t k := fun k x => by rw [← hs, up1_ob x, up1_ob x]
            have Ks : KEPT (h 31) s := ⟨fun k hk => by rw [so 34 (by decide)]; exact Kt.1 k hk, fun k hk => by rw [s31]; unfold swW; rw [plW_ob (by omega), plW_ob (by omega)]⟩
            have s21 : s 30 21 = 0 := by rw [so 30 (by decide), to 30 (by decide), k1.2 21 (by decide) (by decide) (by decide), up1_at, upd_ob (by decide)]; exact J.2.2.2.2
            obtain ⟨h', m2, w2, _, k2⟩ := m_wouldFall (h := s) (n := n) (m := m) (e := nI e) (w0 := h 31) (by rw [s31]; exact gs.1) s21 Ks
            rw [s31] at m2
            refine ⟨h', ?_, by rw [k2.2 0 (by decide) (by decide), so 30 (by decide), to 30 (by decide), z1, up1_at, upd_at], ⟨fun k hk => ?_, fun i x y z => by rw [k2.2 i y z, so 30 (by decide), to 30 (by decide), k1.2 i x y z, up1_at, upd_ob x]⟩⟩
            · rw [inm q (qe 31 (by omega) (by omega)), if_neg c]
              unfold F_X12_swap_45
              rw [tI0, obS]
              dsimp only
              rw [tff, w, ee, m1, obS]
              dsimp only
              rw [bnd_eq, m_keepsM, obS, ht, m_ofPerson0 (by omega), obS, m_ofPerson0 (by omega), obS, show ∀ x : Hp, f_X12_personAt (nI p) 0 x = nI (114 + 3 * p) from fun x => m_personAtI (w := 0), gdT (nI_ix (by omega) (by omega)), bnd_eq, nI_clamp (by omega), show ∀ x : Hp, f_X12_personAt (nI o) 0 x = nI (114 + 3 * o) from fun x => m_personAtI (w := 0), gdT (nI_ix (by omega) (by omega)), bnd_eq, nI_clamp (by omega), t31]
              show Option.bind (f_X12_wouldFall ((up1 (up1 t 31 (114 + 3 * p) (atR (h 31) o)) 31 (114 + 3 * o) (atR (h 31) p)) 31 4) (up1 (up1 t 31 (114 + 3 * p) (atR (h 31) o)) 31 (114 + 3 * o) (atR (h 31) p))) _ = _
              rw [hs, s31, s4, m2, obS]
              dsimp only
              rw [fc_bc gs.1, fc_bc g.1, ← hv]
              by_cases z : fcN n m (nI e) (swW (h 31) p o) < fcN n m (nI e) (h 31)
              · rw [if_pos ((nI_ltI (by omega) (by omega)).mpr z), decide_eq_true z]
              · rw [if_neg (fun y => z ((nI_ltI (by omega) (by omega)).mp y)), decide_eq_false z]
            · by_cases c31 : k = 31
              · rw [c31, w2, qe 31 (by omega) (by omega)]
              · rw [k2.1 k (by omega), so k c31, to k (by omega), k1.1 k (by omega), up1_ob (by omega)])
        exact ⟨h', k, Or.inl s, l, J⟩
    · exact bad (Or.inr ⟨⟨p, hp, e1⟩, hx⟩)
  · exact bad (Or.inl hx)
