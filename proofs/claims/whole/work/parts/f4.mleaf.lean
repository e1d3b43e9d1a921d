/-! LAYER 4. texts: the model's steps, on -/
section MM
variable {b : Nat → Nat} {L f p : Nat} {g : Hp}
theorem PT_self (hf : f ≤ L) (hp : p ≤ L) (h : skN b L p = f) : skN b L f = f := by
  have := rn_mid (p := blB b) (L := L) (i := p) f (by rw [← h]; exact rn_le) (by rw [← h]; exact Nat.le_refl _)
  exact this.trans h
theorem PT_f2 {g' : Hp} (P : PTm b L p f g) (h : g' 30 12 = nI f) : PTm b L f f g' := ⟨PT_f P, h, PT_self (PT_f P) P.1 P.2.2⟩
theorem PT_up {v : Int32} {k i : Nat} (h : k ≠ 30 ∨ i ≠ 12) (P : PTm b L p f g) : PTm b L p f (up1 g k i v) := ⟨P.1, by
  rcases h with h | h
  · rw [up1_ob (fun z => h z.symm)]; exact P.2.1
  · by_cases c : k = 30
    · rw [c, up1_at, upd_ob (fun z => h z.symm)]; exact P.2.1
    · rw [up1_ob (fun z => c z.symm)]; exact P.2.1, P.2.2⟩
theorem wd_ed {w : List Nat} (hw : okW w = true) (h : wdB b L w f = true) : wEn b L f = edN b L f := (wd_lt hw h).2.2.symm
theorem S_ok {k : Nat} {w : List Nat} (S : isS k [w]) : okW w = true := by
  have ⟨_, w2⟩ := Bool.and_eq_true_iff.mp S.2.1
  exact List.all_eq_true.mp w2 w List.mem_cons_self
/-- a word read: where the model stands -/
theorem m_word {k : Nat} {w : List Nat} (S : isS k [w]) (X : LXm b L g) (P : PTm b L p f g) :
    ∃ g', f_X12_letters g = some g' ∧ g' 30 12 = nI (wEn b L f) ∧ g' 30 14 = nI f ∧ FRm g g' ∧ f_X12_isWord k g' = some (wdB b L w f) ∧ (wdB b L w f = true → PTm b L (edN b L f) (nxN b L f) g') := by
  obtain ⟨g', e, h12, h14, F⟩ := m_letters X P
  have fL := PT_f P
  exact ⟨g', e, h12, h14, F, m_isWord S (FRm_LX F X) fL h12 h14, fun h => ⟨ed_L fL, by rw [h12, wd_ed (S_ok S) h], rfl⟩⟩
theorem m_passes {k : Nat} {w : List Nat} (S : isS k [w]) (X : LXm b L g) (P : PTm b L p f g) :
    (wdB b L w f = true → ∃ g', f_X12_passes k g = some (true, g') ∧ PTm b L (edN b L f) (nxN b L f) g' ∧ g' 30 14 = nI f ∧ FRm g g') ∧ (wdB b L w f = false → ∃ g', f_X12_passes k g = some (false, g') ∧ PTm b L f f g' ∧ g' 30 14 = nI f ∧ FRm g g') := by
  obtain ⟨g', e, h12, h14, F, ew, hp⟩ := m_word S X P
  unfold f_X12_passes
  rw [e, obS, ew, obS]
  refine ⟨fun l => ⟨g', by rw [l]; rfl, hp l, h14, F⟩, fun l => ⟨up1 g' 30 12 (nI f), by rw [l, tff, bnd_eq, h14], PT_f2 P up1_same, by rw [up1_at, upd_ob (by decide), h14], FRm_trans F (FRm1 (by omega))⟩⟩
theorem sg_ed {c : Nat} (hc : okC c = true) (h : sgnB b L f c = true) : edN b L f = f + 1 := by
  have hc := of_decide_eq_true hc
  have ⟨h1, h2⟩ := Bool.and_eq_true_iff.mp h
  have h1 := of_decide_eq_true h1
  have h2 := of_decide_eq_true h2
  unfold edN
  rw [if_pos h1, if_neg (fun z => by
    have ⟨z1, _⟩ := Bool.and_eq_true_iff.mp z
    have z1 : 97 ≤ b f := of_decide_eq_true z1
    omega), if_neg (fun z => by
    have ⟨z1, z2⟩ := Bool.and_eq_true_iff.mp z
    have z1 : 48 ≤ b f := of_decide_eq_true z1
    have z2 : b f ≤ 57 := of_decide_eq_true z2
    omega)]
theorem m_isC {c : Nat} {x : Nat} (hc : okC c = true) (X : LXm b L g) (h : g 30 12 = nI x) (hx : x ≤ L) : f_X12_isAt (nI c) (nI c) g = some (sgnB b L x c) := by
  have hc := of_decide_eq_true hc
  rw [m_isAt (by omega) (Nat.le_refl _) X h hx]
  unfold sgnB
  congr 2
  by_cases d : b x = c
  · rw [decide_eq_true d, decide_eq_true (show c ≤ b x by omega), decide_eq_true (show b x ≤ c by omega)]; rfl
  · rw [decide_eq_false d, Bool.and_eq_false_iff, decide_eq_false_iff_not, decide_eq_false_iff_not]; omega
theorem m_sign {c : Nat} (hc : okC c = true) (X : LXm b L g) (P : PTm b L p f g) :
    (sgnB b L f c = true → ∃ g', f_X12_sign (nI c) g = some (true, g') ∧ PTm b L (edN b L f) (nxN b L f) g' ∧ g' 30 14 = nI f ∧ FRm g g') ∧ (sgnB b L f c = false → ∃ g', f_X12_sign (nI c) g = some (false, g') ∧ PTm b L f f g' ∧ g' 30 14 = nI f ∧ FRm g g') := by
  obtain ⟨v, ev, v12, v14, Fv⟩ := m_blanks X P
  have fL := PT_f P
  unfold f_X12_sign
  rw [ev, obS, m_isC hc (FRm_LX Fv X) v12 fL, obS]
  refine ⟨fun l => ⟨up1 v 30 12 (nI (f + 1)), by rw [l, bnd_eq, v12, nI_1]; rfl, ⟨ed_L fL, by rw [up1_same, sg_ed hc l], rfl⟩, by rw [up1_at, upd_ob (by decide), v14], FRm_trans Fv (FRm1 (by omega))⟩, fun l => ⟨v, by rw [l, tff], PT_f2 P v12, v14, Fv⟩⟩
theorem vc_small {lo : Nat} (hlo : lo = 48) : ∀ j, j ≤ 3 → (∀ i, i < j → 48 ≤ b (f + i) ∧ b (f + i) ≤ 57) → vcN b lo f j < 10 ^ j
  | 0, _, _ => by show 0 < 1; omega
  | j + 1, hj, h => by
    have ih := vc_small hlo j (by omega) (fun i hi => h i (by omega))
    have hb := h j (by omega)
    show min 1000 (vcN b lo f j * 10 + b (f + j) - lo) < 10 ^ (j + 1)
    rw [Nat.pow_succ]
    omega
theorem m_number {lo h1 : Nat} (hlo : lo ≤ 1000) (hh : h1 ≤ 1000) (X : LXm b L g) (P : PTm b L p f g) :
    ∃ g', f_X12_number (nI lo) (nI h1 - 1) g = some (nbV b L f lo h1, g') ∧ g' 30 12 = nI (dEn b L f) ∧ g' 30 14 = nI f ∧ FRm g g' := by
  obtain ⟨v, ev, v12, v14, Fv⟩ := m_blanks X P
  have fL := PT_f P
  have X4 := X.1
  have dL : dEn b L f ≤ L := rn_L fL
  have df : f ≤ dEn b L f := rn_le
  have dig : ∀ i, f + i < dEn b L f → f + i < L ∧ 48 ≤ b (f + i) ∧ b (f + i) ≤ 57 := fun i hi => by
    have ⟨l1, l2⟩ := rn_all (p := fgB b) (L := L) (i := f) (f + i) (by omega) hi
    have ⟨l3, l4⟩ := Bool.and_eq_true_iff.mp l2
    exact ⟨l1, of_decide_eq_true l3, of_decide_eq_true l4⟩
  have iA : ∀ x (w : Hp), x ≤ L → w 30 12 = nI x → FRm g w → f_X12_isAt 48 57 w = some (decide (x < L) && fgB b x) := fun x w hx h F => by
    rw [show (48 : Int32) = nI 48 from rfl, show (57 : Int32) = nI 57 from rfl, m_isAt (by omega) (by omega) (FRm_LX F X) h hx]; rfl
  have Q := loopRn (S_X12_number_6 (nI lo) (nI h1 - 1)) (fun _ _ => none) (fun q (s : Nat × Hp) => q (nI (vcN b 48 f (min s.1 3))) s.2) (p := fgB b) X.1 fL (fun x s => f ≤ x ∧ x ≤ dEn b L f ∧ s.1 = x - f ∧ s.2 30 12 = nI x ∧ s.2 30 14 = nI f ∧ FRm g s.2)
    (fun r => ∃ g', r = some (nbV b L f lo h1, g') ∧ g' 30 12 = nI (dEn b L f) ∧ g' 30 14 = nI f ∧ FRm g g') (fun x s hx hxL hp hs => ?_) (fun s hs => ?_) (0, v) ⟨Nat.le_refl f, df, (Nat.sub_self f).symm, v12, v14, Fv⟩
  · unfold f_X12_number
    rw [ev, obS]
    exact Q
  · obtain ⟨j, w⟩ := s
    dsimp only at hs
    obtain ⟨fx, xd, rfl, h12, h14, F⟩ := hs
    have xd' : x < dEn b L f := by
      refine Classical.byContradiction fun z => ?_
      have e : x = dEn b L f := by omega
      have := rn_end (p := fgB b) fL (show rn (fgB b) L f < L from by rw [show rn (fgB b) L f = x from e.symm]; exact hxL)
      rw [show rn (fgB b) L f = x from e.symm, hp] at this
      exact Bool.noConfusion this
    obtain ⟨d1, d2, d3⟩ := dig (x - f) (by omega)
    rw [show f + (x - f) = x by omega] at d1 d2 d3
    refine ⟨(x - f + 1, up1 w 30 12 (nI (x + 1))), ⟨by omega, xd', by dsimp only; omega, by dsimp only; exact up1_same, by dsimp only; rw [up1_at, upd_ob (by decide), h14], FRm_trans F (FRm1 (by omega))⟩, fun q => ?_⟩
    show S_X12_number_6 (nI lo) (nI h1 - 1) q (nI (vcN b 48 f (min (x - f) 3))) w = q (nI (vcN b 48 f (min (x - f + 1) 3))) (up1 w 30 12 (nI (x + 1)))
    unfold S_X12_number_6 F_X12_number_51
    rw [iA x w (by omega) h12 F, decide_eq_true hxL, hp, obS, h12, h14, zsub fx, bnd_eq, bnd_eq, nI_1]
    by_cases c : x - f < 3
    · have b3 : w 38 (nI x).toNatClampNeg = nI (b x) := by rw [nI_clamp (by omega), ((FRm_LX F X).2.2 x hxL).2, byS_lo (by omega)]
      have sm := vc_small (b := b) (f := f) (lo := 48) rfl (x - f) (by omega) (fun i hi => (dig i (by omega)).2)
      have p2 : (10 : Nat) ^ (x - f) ≤ 100 := by
        rcases (show x - f = 0 ∨ x - f = 1 ∨ x - f = 2 by omega) with z | z | z <;> rw [z] <;> omega
      have e1 : vcN b 48 f (min (x - f + 1) 3) = 10 * vcN b 48 f (x - f) + b x - 48 := by
        rw [show min (x - f + 1) 3 = x - f + 1 by omega]
        show min 1000 (vcN b 48 f (x - f) * 10 + b (f + (x - f)) - 48) = _
        rw [show f + (x - f) = x by omega]
        omega
      rw [if_pos (show (true && true) = true from rfl), if_pos (show nI (x - f) < 3 from (nI_ltI (b := 3) (by omega) (by omega)).mpr c), gdT (nI_ix (by omega) (by omega)), b3, e1, show min (x - f) 3 = x - f by omega, show (10 : Int32) = nI 10 from rfl, zmul, zadd, show (48 : Int32) = nI 48 from rfl, zsub (by omega)]
    · rw [if_pos (show (true && true) = true from rfl), if_neg (show ¬ nI (x - f) < 3 from fun z => c ((nI_ltI (b := 3) (by omega) (by omega)).mp z)), show min (x - f) 3 = 3 by omega, show min (x - f + 1) 3 = 3 by omega]
  · obtain ⟨j, w⟩ := s
    dsimp only at hs
    obtain ⟨fx, xd, e, h12, h14, F⟩ := hs
    have rd : rn (fgB b) L f = dEn b L f := rfl
    rw [rd] at fx xd e h12
    refine ⟨some (nbV b L f lo h1, w), ⟨w, rfl, h12, h14, F⟩, fun q => ?_⟩
    show S_X12_number_6 (nI lo) (nI h1 - 1) q (nI (vcN b 48 f (min j 3))) w = some (nbV b L f lo h1, w)
    have nd : (decide (dEn b L f < L) && fgB b (dEn b L f)) = false := by
      by_cases c : dEn b L f < L
      · have := rn_end (p := fgB b) fL c
        rw [show fgB b (dEn b L f) = false from this, Bool.and_false]
      · rw [decide_eq_false c, Bool.false_and]
    have hd : (f < L ∧ fgB b f = true) ↔ f < dEn b L f := by
      refine ⟨fun z => ?_, fun z => ?_⟩
      · rw [show dEn b L f = dEn b L (f + 1) from rn_t z.1 z.2]
        have : f + 1 ≤ dEn b L (f + 1) := rn_le
        omega
      · exact rn_all (p := fgB b) (L := L) (i := f) f (Nat.le_refl f) z
    unfold S_X12_number_6
    rw [iA _ w dL h12 F, nd, obS, tff, h12, h14]
    unfold nbV nbB
    by_cases c : f < dEn b L f
    · rw [if_neg (fun z => by have := (nI_eq (by omega) (by omega)).mp z; omega), zsub df, decide_eq_true (hd.mpr c), Bool.true_and]
      by_cases d : dEn b L f - f ≤ 3
      · rw [if_neg (show ¬ 3 < nI (dEn b L f - f) from fun z => absurd ((nI_ltI (a := 3) (by omega) (by omega)).mp z) (by omega)), decide_eq_true d, Bool.true_and, e, show min (dEn b L f - f) 3 = dEn b L f - f by omega]
        have vb := vc_b (b := b) (lo := 48) (f := f) (dEn b L f - f)
        by_cases l : lo ≤ vcN b 48 f (dEn b L f - f)
        · rw [if_neg (fun z => absurd ((nI_ltI (by omega) (by omega)).mp z) (by omega)), decide_eq_true l, Bool.true_and]
          by_cases m : vcN b 48 f (dEn b L f - f) < h1
          · rw [if_neg (fun z => (hi_lt vb hh).mp z m), decide_eq_true m]; rfl
          · rw [if_pos ((hi_lt vb hh).mpr m), decide_eq_false m]; rfl
        · rw [if_pos ((nI_ltI (by omega) (by omega)).mpr (by omega)), decide_eq_false l, Bool.false_and]; rfl
      · rw [if_pos (show 3 < nI (dEn b L f - f) from (nI_ltI (a := 3) (by omega) (by omega)).mpr (by omega)), decide_eq_false d, Bool.false_and]; rfl
    · rw [if_pos (by rw [show dEn b L f = f by omega]), decide_eq_false (fun z => c (hd.mp z)), Bool.false_and]; rfl
theorem nb_ed {lo h1 : Nat} (h : nbB b L f lo h1 = true) : edN b L f = dEn b L f := by
  have ⟨h1, h2⟩ := Bool.and_eq_true_iff.mp h
  have h1 := of_decide_eq_true h1
  unfold edN
  rw [if_pos h1.1, fg_lt h1.2, tff, if_pos h1.2]
theorem m_num {lo h1 : Nat} (hlo : lo ≤ 1000) (hh : h1 ≤ 1000) (X : LXm b L g) (P : PTm b L p f g) :
    ∃ g', f_X12_number (nI lo) (nI h1 - 1) g = some (nbV b L f lo h1, g') ∧ g' 30 14 = nI f ∧ FRm g g' ∧ (nbB b L f lo h1 = true → PTm b L (edN b L f) (nxN b L f) g') := by
  obtain ⟨g', e, h12, h14, F⟩ := m_number hlo hh X P
  exact ⟨g', e, h14, F, fun h => ⟨ed_L (PT_f P), by rw [h12, nb_ed h], rfl⟩⟩
/-- a word and a number behind it -/
theorem m_after {k lo h1 : Nat} {w : List Nat} (S : isS k [w]) (hlo : lo ≤ 1000) (hh : h1 ≤ 1000) (X : LXm b L g) (P : PTm b L p f g) :
    (wdB b L w f = true → ∃ g', f_X12_after k (nI lo) (nI h1 - 1) g = some (nbV b L (nxN b L f) lo h1, g') ∧ g' 30 14 = nI (nxN b L f) ∧ FRm g g' ∧ (nbB b L (nxN b L f) lo h1 = true → PTm b L (edN b L (nxN b L f)) (nxN b L (nxN b L f)) g')) ∧ (wdB b L w f = false → ∃ g', f_X12_after k (nI lo) (nI h1 - 1) g = some (-1, g') ∧ g' 30 14 = nI f ∧ FRm g g') := by
  obtain ⟨g', e, h12, h14, F, ew, hp⟩ := m_word S X P
  unfold f_X12_after
  rw [e, obS, ew, obS]
  refine ⟨fun l => ?_, fun l => ?_⟩
  · obtain ⟨v, e2, v14, F2, hp2⟩ := m_num hlo hh (FRm_LX F X) (hp l)
    rw [l, ttt, e2, obS]
    exact ⟨v, rfl, v14, FRm_trans F F2, hp2⟩
  · rw [l, tff]
    exact ⟨g', rfl, h14, F⟩
end MM
