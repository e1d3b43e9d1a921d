/-! LAYER 4. house: what there is of one -/
def allW (n : Nat) (w : Row) : Int32 := sumTo (fun i => if falB w i then 0 else brW n w i) n
def shW2 (n : Nat) (w : Row) (i : Nat) : Int32 := if allW n w = 0 then 0 else 100 * brW n w i / allW n w
def pcW (w : Row) (i : Nat) : Int32 := imax 0 (fmR w i / 10 + ivR w i - agR w i / 5)
def gtW (m : Nat) (w : Row) (i : Nat) : Int32 := orTo (fun p => decide (atR w p = nI i)) m
/-- what 5 to 12 -/
def ldW (n m : Nat) (w : Row) (i k : Nat) : Int32 :=
  if k = 5 then prW n w i else if k = 6 then brW n w i else if k = 7 then stW n m w (w 4) i else if k = 8 then sgW n m w (w 4) 0 i else if k = 9 then smW n m w (w 4) 2 i
  else if k = 10 then shW2 n w i else if k = 11 then pcW w i else gtW m w i
theorem KC_of {h h' : Hp} (f : ∀ k, (k < 5 ∨ 14 < k) → k ≠ 500 + 7 → h' k = h k) : KC h h' := fun k hk => f k (by omega) (by omega)
theorem c_measured {h : Hp} {n m : Nat} (N : NOW n m h) : ∃ h1, f_X11_measured h = some h1 ∧ SV h1 n m (h 31) (h 31 4) ∧ KC h h1 := by
  obtain ⟨g, H, _, L⟩ := N
  obtain ⟨e, he, ee⟩ := g.2.2.2.2.1
  obtain ⟨h1, e1, s, _, f⟩ := c_measure (r := 500) (e := e) (by decide) (Or.inl (by decide)) (by decide) g H L (by omega)
  refine ⟨h1, ?_, by rw [ee]; exact s, KC_of f⟩
  unfold f_X11_measured
  rw [H.2.2.2.2.1, ee, e1, obS]
theorem up_fal {n i : Nat} {w : Row} (hi : i < n) : upB n w i = !falB w i := by
  unfold upB; rw [decide_eq_true hi, Bool.true_and]
theorem c_allBear {h : Hp} {n m : Nat} {w : Row} {E : Int32} (h8 : n ≤ 8) (S : SV h n m w E) : f_X9_allBear h = some (allW n w) := by
  have Q := loop0 (S_X9_allBear_4 h) (fun _ _ => none) (fun j q => q (sumTo (fun i => h 7 i) j) (nI j)) 8 (some (allW n w)) (by omega) (fun j hj q => ?_) (fun q => ?_)
  · exact Q
  · show S_X9_allBear_4 h q (sumTo (fun i => h 7 i) j) (nI j) = q (sumTo (fun i => h 7 i) j + h 7 j) (nI (j + 1))
    unfold S_X9_allBear_4
    simp (disch := omega) only [reduceIte, ↓zbn, zgd, zcl, zlt, zeq, zn0, zp0, ze0, zem, zsuc, zob, ztl, zfl, ztle, zfle, zte, zfe, zft, toB0, toB1, i10, i01, zl8]
  · show S_X9_allBear_4 h q (sumTo (fun i => h 7 i) 8) (nI 8) = _
    unfold S_X9_allBear_4
    simp (disch := omega) only [reduceIte, ↓zbn, zgd, zcl, zlt, zeq, zn0, zp0, ze0, zem, zsuc, zob, ztl, zfl, ztle, zfle, zte, zfe, zft, toB0, toB1, i10, i01, zl8]
    congr 1
    unfold allW
    rw [sumTo_ext (n := n) 8 h8 (fun j a b => by
      show h 7 j = 0
      rw [(S j b).2.1]
      unfold upB
      rw [decide_eq_false (by omega)]; rfl)]
    exact sumTo_congr n fun i hi => by
      show h 7 i = _
      rw [(S i (by omega)).2.1, up_fal hi]
      cases falB w i <;> rfl
theorem all_N {n m : Nat} {w : Row} (g : Gd n m w) : ∃ a, a ≤ 891 * 8 ∧ allW n w = nI a := by
  have h8 := g.1.2.1
  obtain ⟨a, ha, e⟩ := sumTo_nn (f := fun i => if falB w i then 0 else brW n w i) (B := 891) n (fun i hi => by
    show ∃ a, a ≤ 891 ∧ (if falB w i = true then 0 else brW n w i) = nI a
    by_cases c : falB w i = true
    · rw [if_pos c]; exact ⟨0, by omega, rfl⟩
    · rw [if_neg c]; exact br_N g (by omega))
  exact ⟨a, by omega, e⟩
theorem c_gateOf {h : Hp} {c n m i : Nat} {w : Row} (H : CV0 c h n m w) (h6 : m ≤ 6) : f_X1_gateOf c (nI i) h = some (gtW m w i) := by
  have Q := loop0 (S_X1_gateOf_4 h c (nI i)) (fun _ _ => none) (fun j q => q (orTo (fun p => decide (p < m) && decide (atR w p = nI i)) j) (nI j)) 6 (some (gtW m w i)) (by omega) (fun j hj q => ?_) (fun q => ?_)
  · exact Q
  · show S_X1_gateOf_4 h c (nI i) q (orTo (fun p => decide (p < m) && decide (atR w p = nI i)) j) (nI j) = q (orTo (fun p => decide (p < m) && decide (atR w p = nI i)) j ||| (if (decide (j < m) && decide (atR w j = nI i)) = true then shl 1 (nI j) else 0)) (nI (j + 1))
    unfold S_X1_gateOf_4
    rw [c_isPerson H.2.2.2.1.2.1 h6 (by omega)]
    by_cases d : j < m
    · have d1 := (H.2.2.1 j d).1
      by_cases z : atR w j = nI i
      · rw [show (decide (j < m) && decide (atR w j = nI i)) = true from by rw [decide_eq_true d, decide_eq_true z]; rfl, ttt, decide_eq_true d]
        simp (disch := omega) only [reduceIte, ↓zbn, zgd, zcl, zlt, zeq, zn0, zp0, ze0, zem, zsuc, zob, ztl, zfl, ztle, zfle, zte, zfe, zft, toB0, toB1, i10, i01, zl6, d1, z, eq_self]
      · rw [show (decide (j < m) && decide (atR w j = nI i)) = false from by rw [decide_eq_true d, decide_eq_false z]; rfl, tff, decide_eq_true d, Int32.or_zero]
        simp (disch := omega) only [reduceIte, ↓zbn, zgd, zcl, zlt, zeq, zn0, zp0, ze0, zem, zsuc, zob, ztl, zfl, ztle, zfle, zte, zfe, zft, toB0, toB1, i10, i01, zl6, d1, z, eq_self]
    · rw [show (decide (j < m) && decide (atR w j = nI i)) = false from by rw [decide_eq_false d]; rfl, tff, decide_eq_false d, Int32.or_zero]
      simp (disch := omega) only [reduceIte, ↓zbn, zgd, zcl, zlt, zeq, zn0, zp0, ze0, zem, zsuc, zob, ztl, zfl, ztle, zfle, zte, zfe, zft, toB0, toB1, i10, i01, zl6]
  · show S_X1_gateOf_4 h c (nI i) q (orTo (fun p => decide (p < m) && decide (atR w p = nI i)) 6) (nI 6) = _
    unfold S_X1_gateOf_4
    simp (disch := omega) only [reduceIte, ↓zbn, zgd, zcl, zlt, zeq, zn0, zp0, ze0, zem, zsuc, zob, ztl, zfl, ztle, zfle, zte, zfe, zft, toB0, toB1, i10, i01, zl6]
    congr 1
    refine orTo_eq (by omega) (by omega) fun k _ => ?_
    by_cases c : k < m
    · rw [decide_eq_true c, decide_eq_true (show k < 6 by omega)]; simp
    · rw [decide_eq_false c]; simp
theorem c_loadOf {h : Hp} {n m i k : Nat} (N : NOW n m h) (hi : i < 8) (h5 : 5 ≤ k) (h12 : k ≤ 12) :
    ∃ h1, f_X11_loadOf (nI i) (nI k) h = some (if upB n (h 31) i then ldW n m (h 31) i k else 0, h1) ∧ KC h h1 := by
  have g := N.1
  have H := N.2.1
  have h8 := g.1.2.1
  have h6 := g.1.2.2.2.1
  unfold f_X11_loadOf
  rw [c_isUp H h8 (by omega)]
  cases hu : upB n (h 31) i
  · exact ⟨h, by rw [tff, tff], KC_refl h⟩
  · obtain ⟨h1, e1, S, K⟩ := c_measured N
    have H1 : CV0 100 h1 n m (h 31) := CV0_fr H fun k a b => K k (by omega)
    obtain ⟨s6, s7, s8, s9, s10⟩ := S i hi
    rw [hu, ttt] at s7 s8 s9 s10
    refine ⟨h1, ?_, K⟩
    rw [ttt, ttt, e1, obS]
    have hk : k = 5 ∨ k = 6 ∨ k = 7 ∨ k = 8 ∨ k = 9 ∨ k = 10 ∨ k = 11 ∨ k = 12 := by omega
    rcases hk with rfl | rfl | rfl | rfl | rfl | rfl | rfl | rfl
    · rw [if_pos (show nI 5 = 5 from rfl), gdT (nI_ix hi (by omega)), nI_clamp (by omega), s6]; rfl
    · rw [if_neg (by decide), if_pos (show nI 6 = 6 from rfl), gdT (nI_ix hi (by omega)), nI_clamp (by omega), s7]; rfl
    · rw [if_neg (by decide), if_neg (by decide), if_pos (show nI 7 = 7 from rfl), gdT (nI_ix hi (by omega)), nI_clamp (by omega), s8]; rfl
    · rw [if_neg (by decide), if_neg (by decide), if_neg (by decide), if_pos (show nI 8 = 8 from rfl), gdT (nI_ix hi (by omega)), nI_clamp (by omega), s9]; rfl
    · rw [if_neg (by decide), if_neg (by decide), if_neg (by decide), if_neg (by decide), if_pos (show nI 9 = 9 from rfl), gdT (nI_ix hi (by omega)), nI_clamp (by omega), s10]; rfl
    · rw [if_neg (by decide), if_neg (by decide), if_neg (by decide), if_neg (by decide), if_neg (by decide), if_pos (show nI 10 = 10 from rfl)]
      obtain ⟨a, ha, ea⟩ := all_N g
      have sh : f_X11_shareOf (nI i) h1 = some (shW2 n (h 31) i) := by
        unfold f_X11_shareOf shW2
        rw [c_allBear h8 S, obS, c_isUp H1 h8 (by omega), hu, ea]
        by_cases z : a = 0
        · rw [z, if_neg (by decide), if_pos (show nI 0 = 0 from rfl)]
        · have n0 : ¬ nI a = 0 := by rw [ze0 (by omega)]; exact z
          rw [if_pos (by rw [zp0 (by omega)]; omega), ttt, gdT (nI_ix hi (by omega)), gdT n0, if_neg n0, nI_clamp (by omega), s7, Int32.mul_comm]
      rw [sh, obS]; rfl
    · rw [if_neg (by decide), if_neg (by decide), if_neg (by decide), if_neg (by decide), if_neg (by decide), if_neg (by decide), if_pos (show nI 11 = 11 from rfl)]
      have pr : f_X1_priceOf 100 (nI i) h1 = some (pcW (h 31) i) := by
        unfold f_X1_priceOf pcW
        obtain ⟨_, b2, b3, b4⟩ := H1.1 i hi
        rw [c_isHouse H1.2.2.2.1.1 h8 (by omega), decide_eq_true (upB_lt hu), ttt, gdT (nI_ix hi (by omega)), gdT (nI_ix hi (by omega)), gdT (nI_ix hi (by omega)), nI_clamp (by omega), b2, b3, b4]
      rw [pr, obS]; rfl
    · rw [if_neg (by decide), if_neg (by decide), if_neg (by decide), if_neg (by decide), if_neg (by decide), if_neg (by decide), if_neg (by decide), c_gateOf H1 h6, obS]; rfl
theorem m_laysNow {h : Hp} {n m : Nat} (g : GdN n m (h 31)) : ∃ h1, f_X12_laysNow h = some h1 ∧ laid n h1 ∧ h1 31 = h 31 ∧ h1 30 = upd (h 30) 20 (h 31 4) ∧ KM h h1 := by
  unfold f_X12_laysNow
  rw [bnd_eq]
  have w : (up1 h 30 20 (h 31 4)) 31 = h 31 := up1_ob (by decide)
  obtain ⟨h1, e1, f1, l1⟩ := m_laysE (h := up1 h 30 20 (h 31 4)) (n := n) (by rw [w]; exact g.1) g.2.1
  refine ⟨h1, by rw [e1, obS], l1, by rw [f1 31 (by decide) (by decide) (by decide), w], by rw [f1 30 (by decide) (by decide) (by decide), up1_at], KM_trans ⟨fun k hk => up1_ob (by omega), fun i _ p _ => by rw [up1_at, upd_ob p]⟩ (KM_ES f1)⟩
theorem m_allB {h : Hp} {n m : Nat} (g : GdN n m (h 31)) (hl : laid n h) : f_X12_bearsAll h = some (allW n (h 31)) := by
  rw [m_bearsAll g.1 g.2.1]
  congr 1
  exact sumTo_congr n fun i hi => by
    rw [hl i (by have := g.2.1; omega)]; rfl
theorem m_loads {h : Hp} {n m i k : Nat} (g : GdN n m (h 31)) (hl : laid n h) (he : h 30 20 = h 31 4) (h21 : h 30 21 = 0) (hi : i < 8) (h5 : 5 ≤ k) (h12 : k ≤ 12) :
    ∃ h', (if nI k = 5 then gd (ix (nI i) 8) (some (h 36 (nI i).toNatClampNeg, h))
        else if nI k = 6 then Option.bind (f_X12_bearsNow (nI i) h) fun r_13 => some (r_13, h)
        else if nI k = 7 then Option.bind (f_X12_standsBy (nI i) h) fun r_16 => some (r_16.1, r_16.2)
        else if nI k = 8 then Option.bind (f_X12_sagsNow (nI i) h) fun r_19 => some (r_19.1, r_19.2)
        else if nI k = 9 then Option.bind (f_X12_sumOf 2 (nI i) h) fun r_22 => some (r_22.1, r_22.2)
        else if nI k = 10 then Option.bind (f_X12_shareOf (nI i) h) fun r_25 => some (r_25, h)
        else if nI k = 11 then Option.bind (f_X12_of (nI i) 1 h) fun r_28 => Option.bind (f_X12_of (nI i) 2 h) fun r_30 => Option.bind (f_X12_of (nI i) 3 h) fun r_32 => some (imax 0 (((r_28 / 10) + r_30) - (r_32 / 5)), h)
        else Option.bind (f_X12_gateOf (nI i) h) fun r_34 => some (r_34, h)) = some (ldW n m (h 31) i k, h') ∧ KM h h' ∧ h' 30 = h 30 := by
  have h8 := g.2.1
  have h6 := g.2.2.2.1
  have hk : k = 5 ∨ k = 6 ∨ k = 7 ∨ k = 8 ∨ k = 9 ∨ k = 10 ∨ k = 11 ∨ k = 12 := by omega
  have eb : f_X12_bearsNow (nI i) h = some (brW n (h 31) i) := by
    rw [m_bearsNow g.1 h8 hi, hl i hi]; rfl
  rcases hk with rfl | rfl | rfl | rfl | rfl | rfl | rfl | rfl
  · rw [if_pos (show nI 5 = 5 from rfl), gdT (nI_ix hi (by omega)), nI_clamp (by omega), hl i hi]
    exact ⟨h, rfl, KM_refl h, rfl⟩
  · rw [if_neg (by decide), if_pos (show nI 6 = 6 from rfl), eb, obS]
    exact ⟨h, rfl, KM_refl h, rfl⟩
  · rw [if_neg (by decide), if_neg (by decide), if_pos (show nI 7 = 7 from rfl)]
    obtain ⟨v, e⟩ := m_standsBy hl g hi
    rw [e, obS, h21, tb_0, tff, Int32.add_zero, he]
    exact ⟨upA h 40 v, rfl, KM_ES ES_40, upA_30⟩
  · rw [if_neg (by decide), if_neg (by decide), if_neg (by decide), if_pos (show nI 8 = 8 from rfl)]
    obtain ⟨v, e⟩ := m_sagsNow hl g hi
    rw [e, obS, h21, he]
    exact ⟨upA h 40 v, rfl, KM_ES ES_40, upA_30⟩
  · rw [if_neg (by decide), if_neg (by decide), if_neg (by decide), if_neg (by decide), if_pos (show nI 9 = 9 from rfl)]
    obtain ⟨v, e⟩ := m_sumOf (k := 2) hl g hi
    rw [e, obS, he]
    exact ⟨upA h 40 v, rfl, KM_ES ES_40, upA_30⟩
  · rw [if_neg (by decide), if_neg (by decide), if_neg (by decide), if_neg (by decide), if_neg (by decide), if_pos (show nI 10 = 10 from rfl)]
    have sh : f_X12_shareOf (nI i) h = some (shW2 n (h 31) i) := by
      unfold f_X12_shareOf shW2
      rw [m_allB g hl, obS]
      by_cases z : allW n (h 31) = 0
      · rw [if_pos z, if_pos z]
      · rw [if_neg z, if_neg z, eb, obS, gdT z]
    rw [sh, obS]
    exact ⟨h, rfl, KM_refl h, rfl⟩
  · rw [if_neg (by decide), if_neg (by decide), if_neg (by decide), if_neg (by decide), if_neg (by decide), if_neg (by decide), if_pos (show nI 11 = 11 from rfl), m_of1 hi, obS, m_of2 hi, obS, m_of3 hi, obS]
    exact ⟨h, rfl, KM_refl h, rfl⟩
  · rw [if_neg (by decide), if_neg (by decide), if_neg (by decide), if_neg (by decide), if_neg (by decide), if_neg (by decide), if_neg (by decide), m_gateOf g.2.2.1 h6, obS]
    exact ⟨h, rfl, KM_refl h, rfl⟩
/-- the model's three ways -/
theorem mh_1 {h : Hp} {n m : Nat} {x y : Int32} (g : GdN n m (h 31)) (hx : x < 0 ∨ nI n ≤ x) : ∃ h', f_X12_house x y h = some (0, h') ∧ h' 30 0 = 1 ∧ KM h h' := by
  unfold f_X12_house
  rw [bnd_eq, noH_x (by rw [up1_ob (by decide)]; exact g.1) g.2.1 hx, tIt, obS]
  exact ⟨up1 (up1 h 30 0 0) 30 0 1, rfl, up1_same, KM_trans KM_0 KM_0⟩
theorem mh_2 {h : Hp} {n m i : Nat} {y : Int32} (g : GdN n m (h 31)) (hi : i < n) (hy : y < 0 ∨ nI 13 ≤ y) : ∃ h', f_X12_house (nI i) y h = some (0, h') ∧ h' 30 0 = 2 ∧ KM h h' := by
  unfold f_X12_house F_X12_house_34
  rw [bnd_eq, noH_i (by rw [up1_ob (by decide)]; exact g.1) g.2.1 hi, tIf, obS]
  dsimp only
  have : f_X12_in y 0 12 (up1 h 30 0 0) = false := by
    rcases hy with q | q
    · exact in_lo q
    · exact in_hi (le_hi (b := 12) (by omega) q)
  rw [tff, this, tff, tI1, obS]
  exact ⟨up1 (up1 h 30 0 0) 30 0 2, rfl, up1_same, KM_trans KM_0 KM_0⟩
theorem mh_3 {h : Hp} {n m i k : Nat} (g : GdN n m (h 31)) (h21 : h 30 21 = 0) (hi : i < n) (hk : k ≤ 12) :
    ∃ h', f_X12_house (nI i) (nI k) h = some (if k ≤ 4 then h 31 (74 + 5 * i + k) else if falB (h 31) i then 0 else ldW n m (h 31) i k, h') ∧ h' 30 0 = 0 ∧ KM h h' := by
  have h8 := g.2.1
  unfold f_X12_house F_X12_house_34
  have w1 : (up1 h 30 0 0) 31 = h 31 := up1_ob (by decide)
  rw [bnd_eq, noH_i (by rw [w1]; exact g.1) g.2.1 hi, tIf, obS]
  dsimp only
  rw [tff, show f_X12_in (nI k) 0 12 (up1 h 30 0 0) = true from in_ok (a := 0) (b := 12) (by omega) hk (by omega), ttt, tI0, obS]
  dsimp only
  rw [tff]
  by_cases c : k ≤ 4
  · rw [if_neg (show ¬ 4 < nI k by rw [zg4 (by omega)]; omega), if_pos c, m_of (by omega) (by omega), obS, w1]
    exact ⟨_, rfl, up1_same, KM_0⟩
  · rw [if_pos (show 4 < nI k by rw [zg4 (by omega)]; omega), if_neg c, m_isF (by omega), w1, obS]
    cases hf : falB (h 31) i
    · rw [tff, tff]
      obtain ⟨h1, e1, l1, w2, r1, K1⟩ := m_laysNow (h := up1 h 30 0 0) (n := n) (m := m) (by rw [w1]; exact g)
      rw [e1, obS]
      have w3 : h1 31 = h 31 := by rw [w2, w1]
      obtain ⟨h', e', K', r'⟩ := m_loads (h := h1) (n := n) (m := m) (i := i) (k := k) (by rw [w3]; exact g) l1 (by rw [r1, w1, w3, upd_at]) (by rw [r1, upd_ob (by decide), up1_at, upd_ob (by decide)]; exact h21) (by omega) (by omega) hk
      rw [w3] at e'
      refine ⟨h', e', ?_, KM_trans KM_0 (KM_trans K1 K')⟩
      rw [r', r1, upd_ob (by decide), up1_same]
    · rw [ttt, ttt]
      exact ⟨_, rfl, up1_same, KM_0⟩
theorem sp_5 {a : Nat → Int32} {h : Hp} (I : Inv h) : ∃ h' n, St_5 a h h' n ∧ n ≤ 1 ∧ Inv h' := by
  obtain ⟨⟨n, m, N⟩, _⟩ := id I
  have h8 := N.1.1.2.1
  rcases argI (a 1) (n := n) (by omega) with ⟨i, hi, e1⟩ | hx
  · rcases argI (a 2) (n := 13) (by omega) with ⟨k, hk, e2⟩ | hy
    · have cl : ∃ h1, f_X11_house (a 1) (a 2) h = some (Except.ok (if k ≤ 4 then h 31 (74 + 5 * i + k) else if falB (h 31) i then 0 else ldW n m (h 31) i k), h1) ∧ KC h h1 := by
        rw [e1, e2]
        unfold f_X11_house
        rw [ckH_i N.2.1.2.2.2.1.1 h8 hi, obS, exOk]
        by_cases c : k ≤ 4
        · refine ⟨h, ?_, KC_refl h⟩
          have eo : f_X11_ownOf (nI i) (nI k) h = some (h 31 (74 + 5 * i + k)) := by
            unfold f_X11_ownOf
            obtain ⟨b1, b2, b3, b4⟩ := N.2.1.1 i (by omega)
            rw [c_isHouse N.2.1.2.2.2.1.1 h8 (by omega), decide_eq_true hi, ttt, c_isUp N.2.1 h8 (by omega), up_fal hi]
            have hk : k = 0 ∨ k = 1 ∨ k = 2 ∨ k = 3 ∨ k = 4 := by omega
            rcases hk with rfl | rfl | rfl | rfl | rfl
            · rw [if_pos (show nI 0 = 0 from rfl), gdT (nI_ix (by omega) (by omega)), nI_clamp (by omega), b1]; rfl
            · rw [if_neg (by decide), if_pos (show nI 1 = 1 from rfl), gdT (nI_ix (by omega) (by omega)), nI_clamp (by omega), b2]; rfl
            · rw [if_neg (by decide), if_neg (by decide), if_pos (show nI 2 = 2 from rfl), gdT (nI_ix (by omega) (by omega)), nI_clamp (by omega), b3]; rfl
            · rw [if_neg (by decide), if_neg (by decide), if_neg (by decide), if_pos (show nI 3 = 3 from rfl), gdT (nI_ix (by omega) (by omega)), nI_clamp (by omega), b4]; rfl
            · rw [if_neg (by decide), if_neg (by decide), if_neg (by decide), if_neg (by decide)]
              obtain ⟨x, x1, x2⟩ := (N.1.2.1 i (by omega)).2.2.2.2
              unfold falB
              rw [x2]
              have : x = 0 ∨ x = 1 := by omega
              rcases this with rfl | rfl <;> rfl
          simp (disch := omega) only [reduceIte, ↓zbn, zgd, zcl, zlt, zeq, zn0, zp0, ze0, zem, zsuc, zob, ztl, zfl, ztle, zfle, zte, zfe, zft, toB0, toB1, i10, i01, zg12, zg4, if_pos c, eo]
        · obtain ⟨h1, e3, K⟩ := c_loadOf N (show i < 8 by omega) (show 5 ≤ k by omega) (show k ≤ 12 by omega)
          refine ⟨h1, ?_, K⟩
          rw [up_fal hi] at e3
          simp (disch := omega) only [reduceIte, ↓zbn, zgd, zcl, zlt, zeq, zn0, zp0, ze0, zem, zsuc, zob, ztl, zfl, ztle, zfle, zte, zfe, zft, toB0, toB1, i10, i01, zg12, zg4, if_neg c, e3]
          cases falB (h 31) i <;> rfl
      obtain ⟨h1, c1, K1⟩ := cl
      have e31 : (up1 h1 50 0 (if k ≤ 4 then h 31 (74 + 5 * i + k) else if falB (h 31) i then 0 else ldW n m (h 31) i k)) 31 = h 31 := by rw [up1_ob (by decide), KC_31 K1]
      have I1 : Inv (up1 h1 50 0 (if k ≤ 4 then h 31 (74 + 5 * i + k) else if falB (h 31) i then 0 else ldW n m (h 31) i k)) := Inv_50 (Inv_KC I K1)
      obtain ⟨h', d1, d2, K2⟩ := mh_3 (h := up1 h1 50 0 (if k ≤ 4 then h 31 (74 + 5 * i + k) else if falB (h 31) i then 0 else ldW n m (h 31) i k)) (n := n) (m := m) (i := i) (k := k) (by rw [e31]; exact N.1.1) I1.2.2.2.2 hi (by omega)
      rw [e31] at d1
      refine ⟨h', 0, Or.inl ⟨_, h1, _, c1, by rw [e1, e2]; exact d1, d2, ?_, rfl⟩, by omega, Inv_KM I1 K2⟩
      rw [K2.1 50 (by omega), up1_same]
    · have cl : f_X11_house (a 1) (a 2) h = some (Except.error "java/util/NoSuchElementException", h) := by
        rw [e1]
        unfold f_X11_house F_X11_house_15
        rw [ckH_i N.2.1.2.2.2.1.1 h8 hi, obS, exOk]
        rcases hy with q | q
        · rw [if_pos q]
        · have : 12 < a 2 := le_hi (b := 12) (by omega) q
          rw [if_pos this]; split <;> rfl
      obtain ⟨h', d1, d2, K2⟩ := mh_2 (y := a 2) N.1.1 hi hy
      exact ⟨h', 1, Or.inr (Or.inr ⟨h, 0, cl, by rw [e1]; exact d1, d2, rfl⟩), by omega, Inv_KM I K2⟩
  · have cl : f_X11_house (a 1) (a 2) h = some (Except.error "java/lang/IndexOutOfBoundsException", h) := by
      unfold f_X11_house
      rw [ckH_x N.2.1.2.2.2.1.1 h8 hx, obS, exEr]
    obtain ⟨h', d1, d2, K2⟩ := mh_1 (y := a 2) N.1.1 hx
    exact ⟨h', 1, Or.inr (Or.inl ⟨h, 0, cl, d1, d2, rfl⟩), by omega, Inv_KM I K2⟩
