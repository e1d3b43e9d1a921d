/-! LAYER 4. texts: the days; the model's steps -/
section ML
variable {b : Nat → Nat} {L f p : Nat} {u g : Hp}
theorem each_le {P : Nat → Bool} : ∀ {n j : Nat}, eachTo P n = true → j ≤ n → eachTo P j = true
  | 0, j, _, hj => by obtain rfl : j = 0 := by omega
                      rfl
  | n + 1, j, h, hj => by
    by_cases c : j = n + 1
    · rw [c]; exact h
    · exact each_le (n := n) (Bool.and_eq_true_iff.mp h).1 (by omega)
def dyP (b : Nat → Nat) (f i : Nat) : Bool := decide (b (f + i) = 49)
def dyV (b : Nat → Nat) (f : Nat) : Int32 := orTo (dyP b f) 7
theorem shl0 : ∀ j, j < 7 → shl 0 (nI j) = 0 := by decide
theorem dy_lo {j k : Nat} (h : dyK b L f j = false) (hj : j ≤ k) : dyK b L f k = false := by
  cases c : dyK b L f k
  · rfl
  · have ⟨c1, c2⟩ := Bool.and_eq_true_iff.mp c
    have : dyK b L f j = true := Bool.and_eq_true_iff.mpr ⟨c1, each_le c2 hj⟩
    rw [h] at this; exact Bool.noConfusion this
theorem c_days (X : LXc b L u) (T : TKc b L f u) :
    (dyK b L f 7 = true → ∃ u', f_X10_takeDays u = some (dyV b f, u') ∧ TKc b L (nxN b L f) u' ∧ FRc u u') ∧ (dyK b L f 7 = false → f_X10_takeDays u = some (-1, up1 u 2 2 (nI f))) := by
  have X4 := X.1
  have kb := kd_257 (b := b) (L := L) (f := f) (fun h => (X.2.2 f h).1)
  have dL : dEn b L f ≤ L := rn_L T.1
  have df : f ≤ dEn b L f := rn_le
  have E : f_X10_takeDays u = F_X10_takeDays_34 FU 0 (bI (dyK b L f 0)) 0 u := by
    unfold f_X10_takeDays dyK
    rw [T.2.2.2.1, T.2.2.1, T.2.1]
    by_cases c : f < L ∧ fgB b f = true
    · have ed : edN b L f = dEn b L f := by unfold edN; rw [if_pos c.1, fg_lt c.2, tff, if_pos c.2]
      rw [if_pos (kb.mpr c), ed, zsub df, decide_eq_true c]
      by_cases d : dEn b L f - f = 7
      · rw [if_pos (show nI (dEn b L f - f) = 7 by rw [d]; rfl), decide_eq_true d]; rfl
      · rw [if_neg (show ¬ nI (dEn b L f - f) = 7 from fun z => d ((nI_eq (b := 7) (by omega) (by omega)).mp z)), decide_eq_false d]; rfl
    · rw [if_neg (fun z => c (kb.mp z)), decide_eq_false c]; rfl
  have F0 : ∀ x3 : Int32 × Nat, dyK b L f x3.2 = false → ∀ x1 (q : Int32 → Int32 → Int32 → Hp → Option (Int32 × Hp)), S_X10_takeDays_34 q x1 0 (nI x3.2) u = some (-1, up1 u 2 2 (nI f)) := fun x3 h x1 q => by
    unfold S_X10_takeDays_34 F_X10_takeDays_89
    rw [if_pos rfl, if_pos rfl, c_fail T, obS]
  have Q := loopV S_X10_takeDays_34 (fun _ _ _ _ => none) (fun q (s : Int32 × Nat) => q s.1 (bI (dyK b L f s.2)) (nI s.2) u) 7 (fun j s => s.2 = j ∧ (dyK b L f j = true → s.1 = orTo (dyP b f) j))
    (fun r => (dyK b L f 7 = true → ∃ u', r = some (dyV b f, u') ∧ TKc b L (nxN b L f) u' ∧ FRc u u') ∧ (dyK b L f 7 = false → r = some (-1, up1 u 2 2 (nI f)))) (by omega) (fun j s hj hs => ?_) (fun s hs => ?_) (0, 0) ⟨rfl, fun _ => rfl⟩
  · rw [E]; exact Q
  · obtain ⟨x1, j'⟩ := s
    dsimp only at hs
    obtain ⟨rfl, hx⟩ := hs
    cases c : dyK b L f j'
    · refine Or.inr ⟨some (-1, up1 u 2 2 (nI f)), ⟨fun z => ?_, fun _ => rfl⟩, fun q => ?_⟩
      · rw [dy_lo c (by omega)] at z; exact Bool.noConfusion z
      · show S_X10_takeDays_34 q x1 (bI false) (nI j') u = _
        exact F0 (0, j') c x1 q
    · have hx := hx c
      have ⟨c1, c2⟩ := Bool.and_eq_true_iff.mp c
      have ⟨c3, c4⟩ := Bool.and_eq_true_iff.mp c1
      have c4 : dEn b L f - f = 7 := of_decide_eq_true c4
      have ⟨l1, l2⟩ := rn_all (p := fgB b) (L := L) (i := f) (f + j') (by omega) (by show f + j' < dEn b L f; omega)
      have ⟨l3, l4⟩ := Bool.and_eq_true_iff.mp l2
      have l3 : 48 ≤ b (f + j') := of_decide_eq_true l3
      have l4 : b (f + j') ≤ 57 := of_decide_eq_true l4
      have e' : dyK b L f (j' + 1) = bwB b (f + j') := by
        unfold dyK at c ⊢
        rw [c1, Bool.true_and] at c ⊢
        show (eachTo (fun i => bwB b (f + i)) j' && bwB b (f + j')) = _
        rw [c, Bool.true_and]
      refine Or.inl ⟨(x1 ||| shl (nI (b (f + j') - 48)) (nI j'), j' + 1), ⟨rfl, fun z => ?_⟩, fun q => ?_⟩
      · rw [e'] at z
        dsimp only
        rw [hx, orTo_succ]
        unfold dyP
        by_cases y : b (f + j') = 49
        · rw [decide_eq_true y, y]; rfl
        · rw [decide_eq_false y]
          have : b (f + j') = 48 := by
            unfold bwB at z
            rw [decide_eq_false y, Bool.or_false] at z
            exact of_decide_eq_true z
          rw [this, show nI (48 - 48) = 0 from rfl, shl0 _ hj]; rfl
      · show S_X10_takeDays_34 q x1 (bI true) (nI j') u = q (x1 ||| shl (nI (b (f + j') - 48)) (nI j')) (bI (dyK b L f (j' + 1))) (nI (j' + 1)) u
        unfold S_X10_takeDays_34 F_X10_takeDays_75
        rw [e', if_neg (show ¬ bI true = 0 by decide), if_pos (show nI j' < 7 from (nI_ltI (b := 7) (by omega) (by omega)).mpr hj), T.2.1, zadd, c_byte X l1, obS, show nI (b (f + j')) - 48 = nI (b (f + j') - 48) from zsub l3, nI_1, bnd_eq]
        unfold bwB
        by_cases y : b (f + j') = 48
        · rw [y, if_pos (show nI (48 - 48) = 0 from rfl)]; rfl
        · rw [if_neg (show ¬ nI (b (f + j') - 48) = 0 from fun z => by have := (nI_eq (b := 0) (by omega) (by omega)).mp z; omega), decide_eq_false y]
          by_cases z : b (f + j') = 49
          · rw [z, if_pos (show nI (49 - 48) = 1 from rfl)]; rfl
          · rw [if_neg (show ¬ nI (b (f + j') - 48) = 1 from fun q => by have := (nI_eq (b := 1) (by omega) (by omega)).mp q; omega), decide_eq_false z]; rfl
  · obtain ⟨x1, j'⟩ := s
    dsimp only at hs
    obtain ⟨rfl, hx⟩ := hs
    cases c : dyK b L f 7
    · refine ⟨some (-1, up1 u 2 2 (nI f)), ⟨fun z => Bool.noConfusion z, fun _ => rfl⟩, fun q => ?_⟩
      show S_X10_takeDays_34 q x1 (bI false) (nI 7) u = _
      exact F0 (0, 7) c x1 q
    · obtain ⟨u', e, T', F⟩ := c_next X T
      refine ⟨some (dyV b f, u'), ⟨fun _ => ⟨u', rfl, T', F⟩, fun z => Bool.noConfusion z⟩, fun q => ?_⟩
      show S_X10_takeDays_34 q x1 (bI true) (nI 7) u = _
      unfold S_X10_takeDays_34 F_X10_takeDays_89
      rw [if_neg (show ¬ bI true = 0 by decide), if_neg (show ¬ nI 7 < 7 by decide), if_neg (show ¬ bI true = 0 by decide), e, obS, hx c]; rfl
/-! the model -/
def FRm (g g' : Hp) : Prop := (∀ k, k ≠ 30 → g' k = g k) ∧ ∀ i, i ≠ 12 → i ≠ 14 → g' 30 i = g 30 i
theorem FRm_refl (g : Hp) : FRm g g := ⟨fun _ _ => rfl, fun _ _ _ => rfl⟩
theorem FRm_trans {a c d : Hp} (x : FRm a c) (y : FRm c d) : FRm a d := ⟨fun k hk => (y.1 k hk).trans (x.1 k hk), fun i h1 h2 => (y.2 i h1 h2).trans (x.2 i h1 h2)⟩
theorem FRm_LX {g g' : Hp} (F : FRm g g') (X : LXm b L g) : LXm b L g' := ⟨X.1, by rw [F.2 13 (by decide) (by decide)]; exact X.2.1, fun i hi => by rw [F.1 38 (by decide)]; exact X.2.2 i hi⟩
theorem FRm1 {i : Nat} {v : Int32} (h : i = 12 ∨ i = 14) : FRm g (up1 g 30 i v) := ⟨fun k hk => up1_ob hk, fun j h1 h2 => by rw [up1_at, upd_ob (by omega)]⟩
/-- the point -/
def PTm (b : Nat → Nat) (L p f : Nat) (g : Hp) : Prop := p ≤ L ∧ g 30 12 = nI p ∧ skN b L p = f
theorem PT_f (P : PTm b L p f g) : f ≤ L := by rw [← P.2.2]; exact rn_L P.1
theorem byS_lt {c lo : Nat} (hc : c < 256) (hl : lo ≤ 128) (h : c < 128) : (byS c < nI lo) ↔ c < lo := by rw [byS_lo h]; exact nI_ltI (by omega) (by omega)
theorem m_isAt {i lo hi : Nat} (hh : hi < 128) (hlo : lo ≤ hi) (X : LXm b L g) (h12 : g 30 12 = nI i) (hi' : i ≤ L) : f_X12_isAt (nI lo) (nI hi) g = some (decide (i < L) && (decide (lo ≤ b i) && decide (b i ≤ hi))) := by
  have X4 := X.1
  unfold f_X12_isAt
  rw [h12, X.2.1]
  by_cases c : i < L
  · have ⟨b1, b2⟩ := X.2.2 i c
    have b3 : g 38 (nI i).toNatClampNeg = byS (b i) := by rw [nI_clamp (by omega)]; exact b2
    rw [if_pos ((nI_ltI (by omega) (by omega)).mpr c), gdT (nI_ix (by omega) (by omega)), gdT (nI_ix (by omega) (by omega)), b3, decide_eq_true c, Bool.true_and]
    by_cases d : b i < 128
    · rw [byS_lo d]
      by_cases e : b i < lo
      · rw [if_pos ((nI_ltI (by omega) (by omega)).mpr e), decide_eq_false (show ¬ lo ≤ b i by omega)]; rfl
      · rw [if_neg (fun z => e ((nI_ltI (by omega) (by omega)).mp z)), decide_eq_true (show lo ≤ b i by omega), Bool.true_and]
        by_cases k : hi < b i
        · rw [if_pos ((nI_ltI (by omega) (by omega)).mpr k), decide_eq_false (by omega)]
        · rw [if_neg (fun z => k ((nI_ltI (by omega) (by omega)).mp z)), decide_eq_true (by omega)]
    · have n := byS_hi (b i) b1 d
      rw [if_pos (Int32.lt_of_lt_of_le n (Int32.not_lt.mp (nI_pos (by omega)))), decide_eq_false (show ¬ b i ≤ hi by omega), Bool.and_false]
  · rw [if_neg (fun z => c ((nI_ltI (by omega) (by omega)).mp z)), decide_eq_false c]; rfl
theorem m_blanks (X : LXm b L g) (P : PTm b L p f g) : ∃ g', f_X12_blanks g = some g' ∧ g' 30 12 = nI f ∧ g' 30 14 = nI f ∧ FRm g g' := by
  have X4 := X.1
  have iA : ∀ x (v : Hp), x ≤ L → v 30 12 = nI x → FRm g v → f_X12_isAt 32 32 v = some (decide (x < L) && blB b x) := fun x v hx h F => by
    rw [show (32 : Int32) = nI 32 from rfl, m_isAt (by omega) (Nat.le_refl _) (FRm_LX F X) h hx]
    congr 2
    unfold blB
    by_cases c : b x = 32
    · rw [decide_eq_true c, decide_eq_true (show 32 ≤ b x by omega), decide_eq_true (show b x ≤ 32 by omega)]; rfl
    · rw [decide_eq_false c, Bool.and_eq_false_iff, decide_eq_false_iff_not, decide_eq_false_iff_not]; omega
  have Q := loopRn S_X12_blanks_0 (fun _ => none) (fun q (v : Hp) => q v) (p := blB b) X.1 P.1 (fun x v => v 30 12 = nI x ∧ FRm g v)
    (fun r => ∃ g', r = some g' ∧ g' 30 12 = nI f ∧ g' 30 14 = nI f ∧ FRm g g') (fun x v hx hxL hp hs => ?_) (fun v hs => ?_) g ⟨P.2.1, FRm_refl g⟩
  · exact Q
  · obtain ⟨h12, F⟩ := hs
    refine ⟨up1 v 30 12 (nI (x + 1)), ⟨up1_same, FRm_trans F (FRm1 (by omega))⟩, fun q => ?_⟩
    show S_X12_blanks_0 q v = _
    unfold S_X12_blanks_0
    rw [iA x v (by omega) h12 F, decide_eq_true hxL, hp, obS, bnd_eq, h12, nI_1]; rfl
  · obtain ⟨h12, F⟩ := hs
    have e : rn (blB b) L p = f := P.2.2
    rw [e] at h12
    have fL := PT_f P
    refine ⟨_, ⟨up1 v 30 14 (nI f), rfl, by rw [up1_at, upd_ob (by decide), h12], up1_same, FRm_trans F (FRm1 (by omega))⟩, fun q => ?_⟩
    show S_X12_blanks_0 q v = _
    unfold S_X12_blanks_0
    have : (decide (f < L) && blB b f) = false := by
      by_cases c : f < L
      · have := rn_end (p := blB b) P.1 (by rw [e]; exact c)
        rw [e] at this
        rw [this, Bool.and_false]
      · rw [decide_eq_false c, Bool.false_and]
    rw [iA f v fL h12 F, this, obS, tff, bnd_eq, h12]
theorem m_letters (X : LXm b L g) (P : PTm b L p f g) : ∃ g', f_X12_letters g = some g' ∧ g' 30 12 = nI (wEn b L f) ∧ g' 30 14 = nI f ∧ FRm g g' := by
  obtain ⟨v, ev, v12, v14, Fv⟩ := m_blanks X P
  have fL := PT_f P
  have X' := FRm_LX Fv X
  have iA : ∀ x (w : Hp), x ≤ L → w 30 12 = nI x → FRm g w → f_X12_isAt 97 122 w = some (decide (x < L) && ltB b x) := fun x w hx h F => by
    rw [show (97 : Int32) = nI 97 from rfl, show (122 : Int32) = nI 122 from rfl, m_isAt (by omega) (by omega) (FRm_LX F X) h hx]; rfl
  have Q := loopRn S_X12_letters_4 (fun _ => none) (fun q (w : Hp) => q w) (p := ltB b) X.1 fL (fun x w => w 30 12 = nI x ∧ w 30 14 = nI f ∧ FRm g w)
    (fun r => ∃ g', r = some g' ∧ g' 30 12 = nI (wEn b L f) ∧ g' 30 14 = nI f ∧ FRm g g') (fun x w hx hxL hp hs => ?_) (fun w hs => ?_) v ⟨v12, v14, Fv⟩
  · unfold f_X12_letters
    rw [ev, obS]
    exact Q
  · obtain ⟨h12, h14, F⟩ := hs
    refine ⟨up1 w 30 12 (nI (x + 1)), ⟨up1_same, by rw [up1_at, upd_ob (by decide), h14], FRm_trans F (FRm1 (by omega))⟩, fun q => ?_⟩
    show S_X12_letters_4 q w = _
    unfold S_X12_letters_4
    rw [iA x w (by omega) h12 F, decide_eq_true hxL, hp, obS, bnd_eq, h12, nI_1]; rfl
  · obtain ⟨h12, h14, F⟩ := hs
    refine ⟨_, ⟨w, rfl, h12, h14, F⟩, fun q => ?_⟩
    show S_X12_letters_4 q w = _
    unfold S_X12_letters_4
    have rl := rn_L (p := ltB b) fL
    have : (decide (rn (ltB b) L f < L) && ltB b (rn (ltB b) L f)) = false := by
      by_cases c : rn (ltB b) L f < L
      · rw [rn_end (p := ltB b) fL c, Bool.and_false]
      · rw [decide_eq_false c, Bool.false_and]
    rw [iA _ w rl h12 F, this, obS, tff]
theorem m_isWord {k : Nat} {w : List Nat} (S : isS k [w]) (X : LXm b L g) (hf : f ≤ L) (h12 : g 30 12 = nI (wEn b L f)) (h14 : g 30 14 = nI f) : f_X12_isWord k g = some (wdB b L w f) := by
  have X4 := X.1
  obtain ⟨S1, S2⟩ := s_len S
  have l100 := S.2.2
  have hc := jn_c [w] (Bool.and_eq_true_iff.mp S.2.1).2
  have sat := fun j hj => s_at (k := k) (j := j) S hj
  have hj1 : jnL [w] = w := rfl
  rw [hj1] at S1 S2 l100 hc
  have sat : ∀ j (hj : j < w.length), sAt k j = nI w[j] := sat
  have wL : wEn b L f ≤ L := rn_L hf
  have wf : f ≤ wEn b L f := rn_le
  have Q := loopV (S_X12_isWord_24 g k) (fun _ _ => none) (fun q (s : Bool × Nat) => q (bI s.1) (nI s.2)) w.length (fun j s => s.2 = j ∧ (s.1 = true → f + w.length = wEn b L f) ∧ (s.1 && mtW b (w.drop j) (f + j)) = wdB b L w f)
    (fun r => r = some (wdB b L w f)) (by omega) (fun j s hj hs => ?_) (fun s hs => ?_) (decide (f + w.length = wEn b L f), 0) ⟨rfl, fun z => of_decide_eq_true z, by
      dsimp only
      rw [List.drop_zero, Nat.add_zero]
      unfold wdB
      exact Bool.and_comm _ _⟩
  · unfold f_X12_isWord
    rw [h12, h14, zsub wf, S2]
    by_cases c : f + w.length = wEn b L f
    · rw [if_pos (show nI (wEn b L f - f) = nI w.length by rw [show wEn b L f - f = w.length by omega])]
      rw [decide_eq_true c] at Q
      exact Q
    · rw [if_neg (fun z => c (by have := (nI_eq (by omega) (by omega)).mp z; omega))]
      rw [decide_eq_false c] at Q
      exact Q
  · obtain ⟨ok, j'⟩ := s
    dsimp only at hs
    obtain ⟨rfl, h1, h2⟩ := hs
    cases ok
    · refine Or.inr ⟨_, rfl, fun q => ?_⟩
      show S_X12_isWord_24 g k q (bI false) (nI j') = _
      rw [Bool.false_and] at h2
      unfold S_X12_isWord_24
      rw [if_pos (show bI false = 0 from rfl), toB_bI, obS, h2]
    · have h1 := h1 rfl
      have c128 : w[j'] < 128 := hc _ (List.getElem_mem hj)
      have ⟨b1, b2⟩ := X.2.2 (f + j') (by omega)
      rw [Bool.true_and, List.drop_eq_getElem_cons hj] at h2
      have h2 : (decide (b (f + j') = w[j']) && mtW b (w.drop (j' + 1)) (f + j' + 1)) = wdB b L w f := h2
      refine Or.inl ⟨(decide (b (f + j') = w[j']), j' + 1), ⟨rfl, fun _ => h1, h2⟩, fun q => ?_⟩
      show S_X12_isWord_24 g k q (bI true) (nI j') = q (bI (decide (b (f + j') = w[j']))) (nI (j' + 1))
      unfold S_X12_isWord_24
      rw [if_neg (show ¬ bI true = 0 by decide), S2, if_pos ((nI_ltI (by omega) (by omega)).mpr hj), h14, zadd, gdT (nI_ix (by omega) (by omega)), S1, gdT (nI_ix (by omega) (by omega)), nI_clamp (by omega), nI_clamp (by omega), b2, sat j' hj, nI_1]
      by_cases c : b (f + j') = w[j']
      · rw [decide_eq_true c, if_pos (by rw [c, byS_lo c128])]; rfl
      · rw [decide_eq_false c, if_neg (fun z => c (by
          by_cases d : b (f + j') < 128
          · rw [byS_lo d] at z
            exact (nI_eq (by omega) (by omega)).mp z
          · have n := byS_hi _ b1 d
            rw [z] at n
            exact absurd n (nI_pos (by omega))))]; rfl
  · obtain ⟨ok, j'⟩ := s
    dsimp only at hs
    obtain ⟨rfl, h1, h2⟩ := hs
    rw [List.drop_length] at h2
    have hm : ∀ x, mtW b [] x = true := fun x => rfl
    rw [hm, Bool.and_true] at h2
    refine ⟨some (wdB b L w f), rfl, fun q => ?_⟩
    show S_X12_isWord_24 g k q (bI ok) (nI w.length) = some (wdB b L w f)
    unfold S_X12_isWord_24
    rw [S2, if_neg (fun z => absurd ((nI_ltI (by omega) (by omega)).mp z) (Nat.lt_irrefl _)), toB_bI, obS, h2]
    exact ite_self _
end ML
