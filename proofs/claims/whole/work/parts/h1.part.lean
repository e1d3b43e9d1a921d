/-! LAYER 4. law: a part, a tag -/
section H1
variable {b : Nat → Nat} {L B f N : Nat} {s : List Bool} {u g : Hp}
def LST (b : Nat → Nat) (L B f N : Nat) (s : List Bool) (u g : Hp) : Prop := LXc b L u ∧ TKc b L f u ∧ LXm b L g ∧ (∃ p, PTm b L p f g) ∧ ES5 B N s u g
theorem LS_mv {u' g' : Hp} {f' p' : Nat} (H : LST b L B f N s u g) (T' : TKc b L f' u') (F : FRc u u') (P' : PTm b L p' f' g') (Fm : FRm g g') : LST b L B f' N s u' g' :=
  ⟨FRc_LX F H.1, T', FRm_LX Fm H.2.2.1, ⟨p', P'⟩, ES5_mv H.2.2.2.2 (F.1 516 (by decide)) (F.1 521 (by decide)) (F.1 522 (by decide)) (Fm.1 31 (by decide)) (Fm.2 18 (by decide) (by decide))⟩
/-- a code told on both sides -/
theorem LS_em {c : Nat} {s' : List Bool} {v v' : Int32} (H : LST b L B f N s u g) (hc : c ≤ 15) (t : tyS c s = some s') (h20 : s'.length ≤ 20) (hv : c = 9 → v = v') : LST b L B f (N + 1) s' (adC N (nI (ccd c)) v u) (adM N (nI c) v' g) := by
  obtain ⟨X, T, Xm, ⟨p, P⟩, E⟩ := H
  have FC := FLc_ad (N := N) (x := nI (ccd c)) (v := v) (u := u)
  have FM := FLm_ad (N := N) (x := nI c) (v := v') (g := g)
  have a2 : (adC N (nI (ccd c)) v u) 2 = u 2 := by unfold adC; rw [up1_ob (by decide), up1_ob (by decide), up1_ob (by decide)]
  have a30 : ∀ i, i ≠ 18 → (adM N (nI c) v' g) 30 i = g 30 i := fun i h => by unfold adM; rw [up1_at, upd_ob h, up1_ob (by decide), up1_ob (by decide)]
  refine ⟨⟨X.1, by rw [a2]; exact X.2.1, fun i hi => by rw [FC.1 3 (by decide) (by omega)]; exact X.2.2 i hi⟩, ?_, ⟨Xm.1, by rw [a30 13 (by decide)]; exact Xm.2.1, fun i hi => by rw [FM.1 38 (by decide) (by decide)]; exact Xm.2.2 i hi⟩, ⟨p, P.1, by rw [a30 12 (by decide)]; exact P.2.1, P.2.2⟩, em_1 E hc t h20 hv⟩
  unfold TKc at T ⊢
  rw [a2]; exact T
theorem ad_2 {N : Nat} {x v : Int32} {u : Hp} : adC N x v u 2 = u 2 := by unfold adC; rw [up1_ob (by decide), up1_ob (by decide), up1_ob (by decide)]
theorem ad_30 {N : Nat} {x v : Int32} {g : Hp} {i : Nat} (h : i ≠ 18) : adM N x v g 30 i = g 30 i := by unfold adM; rw [up1_at, upd_ob h, up1_ob (by decide), up1_ob (by decide)]
theorem adM_LX {N : Nat} {x v : Int32} {g : Hp} (Xm : LXm b L g) : LXm b L (adM N x v g) := ⟨Xm.1, by rw [ad_30 (by decide)]; exact Xm.2.1, fun i hi => by rw [(FLm_ad (N := N)).1 38 (by decide) (by decide)]; exact Xm.2.2 i hi⟩
theorem adC_T {N : Nat} {x v : Int32} {u : Hp} (T : TKc b L f u) : TKc b L f (adC N x v u) := by unfold TKc at T ⊢; rw [ad_2]; exact T
theorem adC_LX {N : Nat} {x v : Int32} {u : Hp} (X : LXc b L u) : LXc b L (adC N x v u) := ⟨X.1, by rw [ad_2]; exact X.2.1, fun i hi => by rw [(FLc_ad (N := N)).1 3 (by decide) (by omega)]; exact X.2.2 i hi⟩
theorem LS_N (H : LST b L B f N s u g) : u 516 7 = nI N ∧ g 30 18 = nI N := ⟨H.2.2.2.2.1, H.2.2.2.2.2.1⟩
theorem nx_lt (h : f < L) : f + 1 ≤ nxN b L f := by
  have : f + 1 ≤ edN b L f := by
    unfold edN
    rw [if_pos h]
    by_cases c : ltB b f = true
    · rw [if_pos c]
      have : wEn b L f = wEn b L (f + 1) := rn_t h c
      rw [this]; exact rn_le
    · rw [if_neg c]
      by_cases d : fgB b f = true
      · rw [if_pos d]
        have : dEn b L f = dEn b L (f + 1) := rn_t h d
        rw [this]; exact rn_le
      · rw [if_neg d]; exact Nat.le_refl _
  exact Nat.le_trans this rn_le
/-- the outcome of a piece of a law -/
def LOo (b : Nat → Nat) (L B f N a : Nat) (s' : List Bool) (u g : Hp) (cl ml : Option (Bool × Hp)) : Prop :=
  (∃ u' g' f' N', cl = some (true, u') ∧ ml = some (true, g') ∧ LST b L B f' N' s' u' g' ∧ N' + f ≤ N + f' + a ∧ N ≤ N' ∧ f ≤ f' ∧ FLc N u u' ∧ FLm N g g' ∧ g' 30 15 = g 30 15 ∧ u' 2 2 = u 2 2) ∨
  (∃ u' g' x, cl = some (false, u') ∧ ml = some (false, g') ∧ u' 2 2 = nI x ∧ g' 30 14 = nI x ∧ FLc N u u' ∧ FLm N g g')
theorem L_bad {a x : Nat} {s' : List Bool} {u' g' : Hp} {cl ml : Option (Bool × Hp)} (e1 : cl = some (false, u')) (e2 : ml = some (false, g')) (x1 : u' 2 2 = nI x) (x2 : g' 30 14 = nI x) (K : FLc N u u') (M : FLm N g g') : LOo b L B f N a s' u g cl ml := Or.inr ⟨u', g', x, e1, e2, x1, x2, K, M⟩
def ptL : List (List Nat) := [w_house, w_weight, w_ivy, w_age, w_evening, w_press]
theorem fi_pt : fiW b L ptL f 0 = if wdB b L w_house f then 0 else if wdB b L w_weight f then 1 else if wdB b L w_ivy f then 2 else if wdB b L w_age f then 3 else if wdB b L w_evening f then 4 else if wdB b L w_press f then 5 else -1 := rfl
theorem fi_b : fiW b L ptL f 0 = -1 ∨ ∃ c, c ≤ 5 ∧ fiW b L ptL f 0 = nI c ∧ f < L ∧ ltB b f = true := by
  rw [fi_pt]
  have K : ∀ {w : List Nat}, okW w = true → wdB b L w f = true → f < L ∧ ltB b f = true := fun h q => ⟨(wd_lt h q).1, (wd_lt h q).2.1⟩
  cases h1 : wdB b L w_house f
  · rw [tff]
    cases h2 : wdB b L w_weight f
    · rw [tff]
      cases h3 : wdB b L w_ivy f
      · rw [tff]
        cases h4 : wdB b L w_age f
        · rw [tff]
          cases h5 : wdB b L w_evening f
          · rw [tff]
            cases h6 : wdB b L w_press f
            · exact Or.inl rfl
            · exact Or.inr ⟨5, by omega, rfl, K (by decide) h6⟩
          · exact Or.inr ⟨4, by omega, rfl, K (by decide) h5⟩
        · exact Or.inr ⟨3, by omega, rfl, K (by decide) h4⟩
      · exact Or.inr ⟨2, by omega, rfl, K (by decide) h3⟩
    · exact Or.inr ⟨1, by omega, rfl, K (by decide) h2⟩
  · exact Or.inr ⟨0, by omega, rfl, K (by decide) h1⟩
theorem m_wordOfPart (X : LXm b L g) (hf : f ≤ L) (h12 : g 30 12 = nI (wEn b L f)) (h14 : g 30 14 = nI f) : f_X12_wordOfPart g = some (fiW b L ptL f 0) := by
  unfold f_X12_wordOfPart
  rw [m_isWord s_1016 X hf h12 h14, m_isWord s_1017 X hf h12 h14, m_isWord s_1019 X hf h12 h14, m_isWord s_1020 X hf h12 h14, m_isWord s_1029 X hf h12 h14, m_isWord s_1038 X hf h12 h14, obS, obS, obS, obS, obS, obS, fi_pt]
  cases wdB b L w_house f <;> cases wdB b L w_weight f <;> cases wdB b L w_ivy f <;> cases wdB b L w_age f <;> cases wdB b L w_evening f <;> cases wdB b L w_press f <;> rfl
theorem wE_id : ¬ (f < L ∧ ltB b f = true) → wEn b L f = f := fun q => rn_f (by
  by_cases z : f < L
  · exact Or.inr (Bool.eq_false_iff.mpr fun y => q ⟨z, y⟩)
  · exact Or.inl (by omega))
theorem wE_gt (h : f < L ∧ ltB b f = true) : f < wEn b L f := by
  rw [show wEn b L f = wEn b L (f + 1) from rn_t h.1 h.2]
  have : f + 1 ≤ wEn b L (f + 1) := rn_le
  omega
/-- one part of a sum -/
theorem J_part (H : LST b L B f N s u g) (hN : N + 1 ≤ f) (hs : s.length < 20) :
    (f_X10_wordOf 1013 u = some (-1) ∧ f_X10_numberAhead 0 999 u = -1 ∧ ∃ g', f_X12_readPart g = some (false, g') ∧ g' 30 14 = nI f ∧ FLm N g g') ∨
    (∃ c x1 x4 g', f_X10_wordOf 1013 u = some x1 ∧ f_X10_numberAhead 0 999 u = x4 ∧ ¬ (x1 = -1 ∧ x4 = -1) ∧ (if x1 = -1 then (9 : Int32) else x1) = nI (ccd c) ∧ f < L ∧ f_X12_readPart g = some (true, g') ∧ ES5 B (N + 1) (false :: s) (adC N (nI (ccd c)) x4 u) g' ∧ PTm b L (edN b L f) (nxN b L f) g' ∧ LXm b L g' ∧ FLm N g g' ∧ g' 30 15 = g 30 15) := by
  obtain ⟨X, T, Xm, ⟨p, P⟩, E⟩ := id H
  have X4 := X.1
  have fL := PT_f P
  obtain ⟨g1, e1, h12, h14, Fm⟩ := m_letters Xm P
  have Xm1 := FRm_LX Fm Xm
  have cw : f_X10_wordOf 1013 u = some (fiW b L ptL f 0) := c_wordOf s_1013 X T
  have cn : f_X10_numberAhead 0 999 u = nbV b L f 0 1000 := c_nbA (lo := 0) (h1 := 1000) (by omega) (by omega) X T
  have N18 : g1 30 18 = nI N := by rw [Fm.2 18 (by decide) (by decide)]; exact (LS_N H).2
  have wL : wEn b L f ≤ L := rn_L fL
  have wf : f ≤ wEn b L f := rn_le
  by_cases l : f < L ∧ ltB b f = true
  · have nb : nbV b L f 0 1000 = -1 := nb_no (by
      unfold nbB
      rw [decide_eq_false (fun z => by rw [fg_lt z.2] at l; exact Bool.noConfusion l.2), Bool.false_and])
    have wg := wE_gt l
    have M0 : f_X12_readPart g = F_X12_readPart_61 (fiW b L ptL f 0) 0 (fiW b L ptL f 0) g1 := by
      unfold f_X12_readPart F_X12_readPart_20 F_X12_readPart_40 F_X12_readPart_52
      rw [e1, obS, h12, h14, if_neg (fun z => by have := (nI_eq (by omega) (by omega)).mp z; omega), if_pos rfl, m_wordOfPart Xm1 fL h12 h14, obS, if_pos rfl, if_pos rfl]
    unfold F_X12_readPart_61 at M0
    rw [m_emit N18 (by omega), obS] at M0
    rcases fi_b (b := b) (L := L) (f := f) with z | ⟨c, c5, z, _⟩
    · rw [z, if_pos (by decide)] at M0
      exact Or.inl ⟨by rw [cw, z], by rw [cn, nb], _, M0, by rw [ad_30 (by decide)]; exact h14, FLm_trans (FLm_of Fm) FLm_ad (Nat.le_refl _)⟩
    · have cc : ccd c = c := by unfold ccd; rw [if_neg (by omega), if_neg (by omega), if_neg (by omega), if_neg (by omega)]
      rw [z, if_neg (nI_pos (by omega))] at M0
      have ty : tyS c s = some (false :: s) := by unfold tyS; rw [if_pos (Or.inl c5)]
      have E1 : ES5 B N s u g1 := ES5_mv E rfl rfl rfl (Fm.1 31 (by decide)) (Fm.2 18 (by decide) (by decide))
      have E2 := em_1 (c := c) (v := -1) (v' := 0) E1 (by omega) ty (by show s.length + 1 ≤ 20; omega) (fun q => by omega)
      refine Or.inr ⟨c, nI c, -1, _, by rw [cw, z], by rw [cn, nb], fun q => nI_np (by omega) q.1, by rw [if_neg (nI_np (by omega)), cc], l.1, M0, E2, ⟨ed_L fL, ?_, rfl⟩, adM_LX Xm1, FLm_trans (FLm_of Fm) FLm_ad (Nat.le_refl _), ?_⟩
      · rw [ad_30 (by decide), h12]; unfold edN; rw [if_pos l.1, if_pos l.2]
      · rw [ad_30 (by decide), Fm.2 15 (by decide) (by decide)]
  · have fn : fiW b L ptL f 0 = -1 := fi_no l ptL 0 (by decide)
    have we := wE_id l
    have P1 : PTm b L f f g1 := PT_f2 P (by rw [h12, we])
    obtain ⟨g2, e2, k14, Fm2, hp⟩ := m_num (lo := 0) (h1 := 1000) (by omega) (by omega) Xm1 P1
    have M0 : f_X12_readPart g = F_X12_readPart_61 (nbV b L f 0 1000) (nbV b L f 0 1000) 9 g2 := by
      unfold f_X12_readPart F_X12_readPart_20 F_X12_readPart_40 F_X12_readPart_52
      rw [e1, obS, h12, h14, we, if_pos rfl, if_neg (show ¬ (1 : Int32) = 0 by decide), show f_X12_number 0 999 g1 = some (nbV b L f 0 1000, g2) from e2, obS]
      rfl
    unfold F_X12_readPart_61 at M0
    rw [m_emit (N := N) (by rw [Fm2.2 18 (by decide) (by decide)]; exact N18) (by omega), obS] at M0
    cases q : nbB b L f 0 1000
    · rw [nb_no q, if_pos (by decide)] at M0
      exact Or.inl ⟨by rw [cw, fn], by rw [cn, nb_no q], _, M0, by rw [ad_30 (by decide)]; exact k14, FLm_trans (FLm_of (FRm_trans Fm Fm2)) FLm_ad (Nat.le_refl _)⟩
    · obtain ⟨v1, v2, v3⟩ := nb_np q
      obtain ⟨v, hv⟩ : ∃ v, vcN b 48 f (dEn b L f - f) = v := ⟨_, rfl⟩
      rw [hv] at v1 v3
      rw [v1, if_neg (nI_pos (by omega))] at M0
      have lf : f < L := by
        have ⟨q1, _⟩ := Bool.and_eq_true_iff.mp q
        exact (of_decide_eq_true q1).1
      have FF := FRm_trans Fm Fm2
      have E1 : ES5 B N s u g2 := ES5_mv E rfl rfl rfl (FF.1 31 (by decide)) (FF.2 18 (by decide) (by decide))
      have E2 := em_1 (c := 9) (v := nI v) (v' := nI v) E1 (by omega) (by unfold tyS; rw [if_pos (Or.inr rfl)]) (by show s.length + 1 ≤ 20; omega) (fun _ => rfl)
      have hp := hp q
      refine Or.inr ⟨9, -1, nI v, _, by rw [cw, fn], by rw [cn, v1], fun q => nI_np (by omega) q.2, rfl, lf, M0, E2, ⟨hp.1, by rw [ad_30 (by decide)]; exact hp.2.1, hp.2.2⟩, adM_LX (FRm_LX Fm2 Xm1), FLm_trans (FLm_of FF) FLm_ad (Nat.le_refl _), ?_⟩
      rw [ad_30 (by decide), FF.2 15 (by decide) (by decide)]
end H1
