/-! LAYER 4. texts: days of the model; a person told; what a line's reading leaves -/
section C5
variable {b : Nat → Nat} {L f p n m : Nat} {u g : Hp} {w : Row}
theorem m_figures (X : LXm b L g) (P : PTm b L p f g) :
    ∃ g', f_X12_figures g = some (if dyK b L f 7 then dyV b f else -1, g') ∧ g' 30 14 = nI f ∧ FRm g g' ∧ (dyK b L f 7 = true → PTm b L (edN b L f) (nxN b L f) g') := by
  obtain ⟨v, ev, v12, v14, Fv⟩ := m_blanks X P
  have fL := PT_f P
  have X4 := X.1
  have dL : dEn b L f ≤ L := rn_L fL
  have df : f ≤ dEn b L f := rn_le
  have dig : ∀ i, f + i < dEn b L f → f + i < L ∧ 48 ≤ b (f + i) ∧ b (f + i) ≤ 57 := fun i hi => by
    have ⟨l1, l2⟩ := rn_all (p := fgB b) (L := L) (i := f) (f + i) (by omega) hi
    have ⟨l3, l4⟩ := Bool.and_eq_true_iff.mp l2
    exact ⟨l1, of_decide_eq_true l3, of_decide_eq_true l4⟩
  have iA : ∀ x (w : Hp), x ≤ L → w 30 12 = nI x → FRm g w → f_X12_isAt 48 57 w = some (decide (x < L) && fgB b x) := fun x w hx h F => by
    rw [show (48 : Int32) = nI 48 from rfl, show (57 : Int32) = nI 57 from rfl, m_isAt (by omega) (by omega) (FRm_LX F X) h hx]; rfl
  obtain ⟨ok, hok⟩ : ∃ ok : Nat → Bool, ok = fun j => decide (j ≤ 7) && eachTo (fun i => bwB b (f + i)) j := ⟨_, rfl⟩
  have Q := loopRn S_X12_figures_8 (fun _ _ _ => none) (fun q (s : (Nat × Int32) × Hp) => q s.1.2 (bI (ok s.1.1)) s.2) (p := fgB b) X.1 fL (fun x s => f ≤ x ∧ x ≤ dEn b L f ∧ s.1.1 = x - f ∧ (ok (x - f) = true → s.1.2 = orTo (dyP b f) (x - f)) ∧ s.2 30 12 = nI x ∧ s.2 30 14 = nI f ∧ FRm g s.2)
    (fun r => ∃ g', r = some (if dyK b L f 7 then dyV b f else -1, g') ∧ g' 30 12 = nI (dEn b L f) ∧ g' 30 14 = nI f ∧ FRm g g') (fun x s hx hxL hp hs => ?_) (fun s hs => ?_) ((0, 0), v) ⟨Nat.le_refl f, df, (Nat.sub_self f).symm, fun _ => by rw [Nat.sub_self]; rfl, v12, v14, Fv⟩
  · obtain ⟨g', e, h12, h14, F⟩ := Q
    refine ⟨g', ?_, h14, F, fun z => ⟨ed_L fL, ?_, rfl⟩⟩
    · unfold f_X12_figures
      rw [ev, obS]
      rw [hok] at e
      exact e
    · have ⟨z1, _⟩ := Bool.and_eq_true_iff.mp z
      have ⟨z2, _⟩ := Bool.and_eq_true_iff.mp z1
      have z2 := of_decide_eq_true z2
      rw [h12]; unfold edN
      rw [if_pos z2.1, fg_lt z2.2, tff, if_pos z2.2]
  · obtain ⟨⟨j, x1⟩, w⟩ := s
    dsimp only at hs
    obtain ⟨fx, xd, rfl, ho, h12, h14, F⟩ := hs
    have xd' : x < dEn b L f := by
      refine Classical.byContradiction fun z => ?_
      have e : x = dEn b L f := by omega
      have := rn_end (p := fgB b) fL (show rn (fgB b) L f < L from by rw [show rn (fgB b) L f = x from e.symm]; exact hxL)
      rw [show rn (fgB b) L f = x from e.symm, hp] at this
      exact Bool.noConfusion this
    obtain ⟨d1, d2, d3⟩ := dig (x - f) (by omega)
    rw [show f + (x - f) = x by omega] at d1 d2 d3
    have b3 : w 38 (nI x).toNatClampNeg = nI (b x) := by rw [nI_clamp (by omega), ((FRm_LX F X).2.2 x hxL).2, byS_lo (by omega)]
    have oks : ok (x - f + 1) = (ok (x - f) && (decide (x - f < 7) && bwB b x)) := by
      rw [hok]
      show (decide (x - f + 1 ≤ 7) && (eachTo (fun i => bwB b (f + i)) (x - f) && bwB b (f + (x - f)))) = ((decide (x - f ≤ 7) && eachTo (fun i => bwB b (f + i)) (x - f)) && (decide (x - f < 7) && bwB b x))
      rw [show f + (x - f) = x by omega]
      by_cases c : x - f < 7
      · rw [decide_eq_true c, decide_eq_true (show x - f + 1 ≤ 7 by omega), decide_eq_true (show x - f ≤ 7 by omega), Bool.true_and, Bool.true_and, Bool.true_and]
      · rw [decide_eq_false c, decide_eq_false (show ¬ x - f + 1 ≤ 7 by omega), Bool.false_and, Bool.false_and, Bool.and_false]
    obtain ⟨y1, hy1⟩ : ∃ y1 : Int32, y1 = if ok (x - f + 1) = true then x1 ||| (if decide (b x = 49) then shl 1 (nI (x - f)) else 0) else x1 := ⟨_, rfl⟩
    refine ⟨((x - f + 1, y1), up1 w 30 12 (nI (x + 1))), ⟨by omega, xd', by dsimp only; omega, fun z => ?_, by dsimp only; exact up1_same, by dsimp only; rw [up1_at, upd_ob (by decide), h14], FRm_trans F (FRm1 (by omega))⟩, fun q => ?_⟩
    · rw [show x + 1 - f = x - f + 1 by omega] at z ⊢
      dsimp only
      have z' := z
      rw [oks] at z'
      rw [hy1, if_pos z, ho (Bool.and_eq_true_iff.mp z').1, orTo_succ]
      unfold dyP
      rw [show f + (x - f) = x by omega]
    · show S_X12_figures_8 q x1 (bI (ok (x - f))) w = q y1 (bI (ok (x - f + 1))) (up1 w 30 12 (nI (x + 1)))
      unfold S_X12_figures_8 F_X12_figures_56 F_X12_figures_91
      have gix : ix (nI x) 400 := nI_ix (by omega) (by omega)
      rw [iA x w (by omega) h12 F, decide_eq_true hxL, hp, obS, if_pos (show (true && true) = true from rfl), h12, h14, zsub fx, gdT gix, gdT gix, b3, nI_1, hy1, oks]
      cases k : ok (x - f)
      · rw [if_pos (show bI false = 0 from rfl), if_pos (rfl : (0 : Int32) = 0), bnd_eq, bnd_eq, Bool.false_and, tff, Int32.or_zero]; rfl
      · rw [if_neg (show ¬ bI true = 0 by decide), Bool.true_and]
        by_cases c : x - f < 7
        · rw [if_pos (show nI (x - f) < 7 from (nI_ltI (b := 7) (by omega) (by omega)).mpr c), decide_eq_true c, Bool.true_and]
          by_cases y : b x = 49
          · rw [y, if_neg (show ¬ 49 < nI 49 by decide), if_neg (show ¬ (1 : Int32) = 0 by decide), if_pos (show nI 49 = 49 from rfl), gdT gix, bnd_eq, bnd_eq]
            unfold bwB
            rw [y]; rfl
          · by_cases z : b x = 48
            · rw [z, if_neg (show ¬ 49 < nI 48 by decide), if_neg (show ¬ (1 : Int32) = 0 by decide), if_neg (show ¬ nI 48 = 49 by decide), gdT gix, bnd_eq, bnd_eq]
              unfold bwB
              rw [z]; rfl
            · rw [if_pos (show 49 < nI (b x) from (nI_ltI (a := 49) (by omega) (by omega)).mpr (by omega)), if_pos (rfl : (0 : Int32) = 0), bnd_eq, bnd_eq]
              unfold bwB
              rw [decide_eq_false y, decide_eq_false z, Bool.or_false, tff, Int32.or_zero]; rfl
        · rw [if_neg (show ¬ nI (x - f) < 7 from fun z => c ((nI_ltI (b := 7) (by omega) (by omega)).mp z)), decide_eq_false c, if_pos (rfl : (0 : Int32) = 0), bnd_eq, bnd_eq, Bool.false_and, tff, Int32.or_zero]; rfl
  · obtain ⟨⟨j, x1⟩, w⟩ := s
    dsimp only at hs
    obtain ⟨fx, xd, e, ho, h12, h14, F⟩ := hs
    have rd : rn (fgB b) L f = dEn b L f := rfl
    rw [rd] at fx xd e ho h12
    refine ⟨some (if dyK b L f 7 then dyV b f else -1, w), ⟨w, rfl, h12, h14, F⟩, fun q => ?_⟩
    show S_X12_figures_8 q x1 (bI (ok j)) w = _
    have nd : (decide (dEn b L f < L) && fgB b (dEn b L f)) = false := by
      by_cases c : dEn b L f < L
      · have := rn_end (p := fgB b) fL c
        rw [show fgB b (dEn b L f) = false from this, Bool.and_false]
      · rw [decide_eq_false c, Bool.false_and]
    have hd : f < dEn b L f → (f < L ∧ fgB b f = true) := fun z => rn_all (p := fgB b) (L := L) (i := f) f (Nat.le_refl f) z
    unfold S_X12_figures_8
    rw [iA _ w dL h12 F, nd, obS, tff, h12, h14, zsub df, e]
    unfold dyK
    cases k : ok (dEn b L f - f)
    · rw [if_pos (show bI false = 0 from rfl)]
      have : ((decide (f < L ∧ fgB b f = true) && decide (dEn b L f - f = 7)) && eachTo (fun i => bwB b (f + i)) 7) = false := by
        by_cases c : dEn b L f - f = 7
        · rw [c, hok] at k
          rw [show eachTo (fun i => bwB b (f + i)) 7 = false from k, Bool.and_false]
        · rw [decide_eq_false c, Bool.and_false, Bool.false_and]
      rw [this]; rfl
    · rw [if_neg (show ¬ bI true = 0 by decide)]
      by_cases c : dEn b L f - f = 7
      · rw [if_pos (show nI (dEn b L f - f) = 7 by rw [c]; rfl), ho k, decide_eq_true c, decide_eq_true (hd (by omega))]
        rw [c, hok] at k
        rw [show eachTo (fun i => bwB b (f + i)) 7 = true from k, c]; rfl
      · rw [if_neg (show ¬ nI (dEn b L f - f) = 7 from fun z => c ((nI_eq (b := 7) (by omega) (by omega)).mp z)), decide_eq_false c, Bool.and_false, Bool.false_and]; rfl
theorem dy_127 : ∃ k, k ≤ 127 ∧ dyV b f = nI k := by
  have e : dyV b f = orTo (fun i => decide (i < 7) && dyP b f i) 8 := orTo_8 (by omega)
  rw [orTo_stN] at e
  refine ⟨_, ?_, e⟩
  show stN (fun i => decide (i < 7) && dyP b f i) 7 + (if (decide (7 < 7) && dyP b f 7) = true then 2 ^ 7 else 0) ≤ 127
  have := stN_lt (p := fun i => decide (i < 7) && dyP b f i) 7
  rw [decide_eq_false (show ¬ 7 < 7 by omega), Bool.false_and, tff]
  omega
/-- a person told -/
def peW (m : Nat) (x y z : Int32) (w : Row) : Row := upd (upd (upd (upd w (114 + 3 * m) x) (114 + 3 * m + 1) y) (114 + 3 * m + 2) z) 1 (nI (m + 1))
theorem ps_ob {x y z : Int32} {k : Nat} (h1 : k ≠ 1) (h : k < 114 + 3 * m ∨ 114 + 3 * m + 2 < k) : peW m x y z w k = w k := by
  unfold peW
  rw [upd_ob h1, upd_ob (by omega), upd_ob (by omega), upd_ob (by omega)]
theorem ps_m {x y z : Int32} : peW m x y z w (114 + 3 * m) = x ∧ peW m x y z w (114 + 3 * m + 1) = y ∧ peW m x y z w (114 + 3 * m + 2) = z ∧ peW m x y z w 1 = nI (m + 1) := by
  unfold peW
  refine ⟨?_, ?_, ?_, upd_at⟩
  · rw [upd_ob (by omega), upd_ob (by omega), upd_ob (by omega), upd_at]
  · rw [upd_ob (by omega), upd_ob (by omega), upd_at]
  · rw [upd_ob (by omega), upd_at]
theorem ps_Gd {i y z : Nat} (G : Gd n m w) (hm : m < 6) (hi : upB n w i = true) (hy : y ≤ 99) (hz : z ≤ 127) : Gd n (m + 1) (peW m (nI i) (nI y) (nI z) w) := by
  obtain ⟨⟨gn0, gn1, gn2, gn3, gnL⟩, g1, g2, g3, g4, g5, g6, g7, g9, g8⟩ := G
  have o : ∀ k, k ≠ 1 → (k < 114 ∨ 132 ≤ k) → peW m (nI i) (nI y) (nI z) w k = w k := fun k a c => ps_ob a (by omega)
  have hf : ∀ j, j < 8 → falB (peW m (nI i) (nI y) (nI z) w) j = falB w j := fun j hj => by unfold falB; rw [o _ (by omega) (by omega)]
  have il := upB_lt hi
  obtain ⟨p1, p2, p3, p4⟩ := ps_m (m := m) (x := nI i) (y := nI y) (z := nI z) (w := w)
  refine ⟨⟨by rw [o 0 (by omega) (by omega)]; exact gn0, gn1, p4, by omega, GdL_cg (fun k hk => o k (by omega) (by omega)) gnL⟩, fun j hj => ?_, fun j l hj hl => ?_, fun p hp => ?_, bd_eq (o _ (by omega) (by omega)) g4, bd_eq (o _ (by omega) (by omega)) g5, bd_eq (o _ (by omega) (by omega)) g6, bd_eq (o _ (by omega) (by omega)) g7, bd_eq (o _ (by omega) (by omega)) g9, bd_eq (o _ (by omega) (by omega)) g8⟩
  · obtain ⟨x0, x1, x2, x3, x4⟩ := g1 j hj
    exact ⟨bd_eq (o _ (by omega) (by omega)) x0, bd_eq (o _ (by omega) (by omega)) x1, bd_eq (o _ (by omega) (by omega)) x2, bd_eq (o _ (by omega) (by omega)) x3, bd_eq (o _ (by omega) (by omega)) x4⟩
  · obtain ⟨x, y⟩ := g2 j l hj hl
    refine ⟨bd_eq (o _ (by omega) (by omega)) x, fun q => ?_⟩
    rw [o _ (by omega) (by omega)]
    refine y ?_
    unfold upB at q ⊢
    rw [hf j hj, hf l hl] at q
    exact q
  · by_cases e : p = m
    · rw [e]
      refine ⟨Or.inr ⟨i, il, ?_, p1⟩, ⟨y, hy, p2⟩, ⟨z, hz, p3⟩⟩
      rw [hf i (by omega)]
      have := hi
      rw [up_fal il] at this
      cases c : falB w i
      · rfl
      · rw [c] at this; exact Bool.noConfusion this
    · obtain ⟨x, y, z⟩ := g3 p (by omega)
      refine ⟨?_, bd_eq (ps_ob (by omega) (by omega)) y, bd_eq (ps_ob (by omega) (by omega)) z⟩
      rw [ps_ob (by omega) (by omega)]
      exact x.imp id fun ⟨i, l, f, e⟩ => ⟨i, l, by rw [hf i (by omega)]; exact f, e⟩
theorem c_addPerson {c : Nat} {x y z : Int32} (H : CV0 c u n m w) (hm : m < 6) :
    ∃ u', f_X1_addPerson c x y z u = some (true, u') ∧ CV0 c u' n (m + 1) (peW m x y z w) ∧ ∀ k, k ≠ c → (k < c + 6 ∨ c + 8 < k) → u' k = u k := by
  obtain ⟨a1, a2, a3, ⟨b1, b2, b3⟩, a5⟩ := H
  obtain ⟨t, ht⟩ : ∃ t, up1 (up1 (up1 u (c + 6) m x) (c + 7) m y) (c + 8) m z = t := ⟨_, rfl⟩
  have tc : t c = u c := by rw [← ht, up1_ob (by omega), up1_ob (by omega), up1_ob (by omega)]
  obtain ⟨v, hv⟩ : ∃ v, up1 t c 10 (nI (m + 1)) = v := ⟨_, rfl⟩
  have vo : ∀ k, k ≠ c → v k = t k := fun k hk => by rw [← hv, up1_ob hk]
  have vc : ∀ i, i ≠ 10 → v c i = u c i := fun i hi => by rw [← hv, up1_at, upd_ob hi, tc]
  have t3 : ∀ i, (t (c + 6) i = if i = m then x else u (c + 6) i) ∧ (t (c + 7) i = if i = m then y else u (c + 7) i) ∧ (t (c + 8) i = if i = m then z else u (c + 8) i) := fun i => by
    rw [← ht]
    simp (disch := omega) only [up1_ob, up1_at]
    exact ⟨rfl, rfl, rfl⟩
  have to : ∀ k, (k < c + 6 ∨ c + 8 < k) → t k = u k := fun k hk => by rw [← ht, up1_ob (by omega), up1_ob (by omega), up1_ob (by omega)]
  have o : ∀ k, k ≠ 1 → (k < 114 ∨ 132 ≤ k) → peW m x y z w k = w k := fun k p q => ps_ob p (by omega)
  obtain ⟨p1, p2, p3, p4⟩ := ps_m (m := m) (x := x) (y := y) (z := z) (w := w)
  refine ⟨v, ?_, ⟨fun i hi => ?_, fun k hk => ?_, fun p hp => ?_, ⟨?_, ?_, ?_⟩, ?_⟩, fun k h1 h2 => by rw [vo k h1, to k h2]⟩
  · unfold f_X1_addPerson
    rw [b2, if_neg (nI_pos (by omega)), if_pos (show nI m < 6 from (nI_ltI (b := 6) (by omega) (by omega)).mpr hm), gdT (nI_ix (by omega) (by omega)), bnd_eq, gdT (nI_ix (by omega) (by omega)), bnd_eq, gdT (nI_ix (by omega) (by omega)), nI_clamp (by omega), bnd_eq, ht, bnd_eq, tc, b2, nI_1, hv]
  · unfold wtR fmR ivR agR
    rw [vo _ (by omega), vo _ (by omega), vo _ (by omega), vo _ (by omega), to _ (by omega), to _ (by omega), to _ (by omega), to _ (by omega), o _ (by omega) (by omega), o _ (by omega) (by omega), o _ (by omega) (by omega), o _ (by omega) (by omega)]
    exact a1 i hi
  · rw [vo _ (by omega), to _ (by omega), o _ (by omega) (by omega)]
    exact a2 k hk
  · obtain ⟨y1, y2, y3⟩ := t3 p
    rw [vo _ (by omega), vo _ (by omega), vo _ (by omega), y1, y2, y3]
    unfold atR hdR cmR
    by_cases e : p = m
    · rw [if_pos e, if_pos e, if_pos e, e]
      exact ⟨p1.symm, p2.symm, p3.symm⟩
    · rw [if_neg e, if_neg e, if_neg e, ps_ob (by omega) (by omega), ps_ob (by omega) (by omega), ps_ob (by omega) (by omega)]
      exact a3 p (by omega)
  · rw [vc 9 (by decide)]; exact b1
  · rw [← hv, up1_same]
  · rw [vc 11 (by decide), b3]
    refine orTo_congr 8 fun k hk => ?_
    unfold upB falB
    rw [o _ (by omega) (by omega)]
  · rw [vc 12 (by decide), vc 13 (by decide), vc 14 (by decide), vc 15 (by decide), vc 16 (by decide), vc 17 (by decide), o 4 (by omega) (by omega), o 5 (by omega) (by omega), o 6 (by omega) (by omega), o 7 (by omega) (by omega), o 2 (by omega) (by omega), o 9 (by omega) (by omega)]
    exact a5
end C5
