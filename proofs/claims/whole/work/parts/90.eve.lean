/-! LAYER 4. evenings -/
theorem orTo_or {p q : Nat → Bool} {n : Nat} (hn : n ≤ 32) : orTo p n ||| orTo q n = orTo (fun i => p i || q i) n :=
  tb_ext fun k hk => by
    rw [tb_or, orTo_tb _ _ hn _ hk, orTo_tb _ _ hn _ hk, orTo_tb _ _ hn _ hk]
    cases decide (k < n) <;> simp
theorem fl_mono {n m : Nat} {e pp : Int32} (h8 : n ≤ 8) (hm : m ≤ 6) {i : Nat} (hi : i < n) : ∀ (k t : Nat) (w : Row), falB w i = true → falB (flS n m e pp k t w).2.2 i = true
  | 0, _, _, h => h
  | k + 1, t, w, h => by
    show falB (if sgS n m w e pp = 0 then (0, t, w) else (sgS n m w e pp ||| (flS n m e pp k (t + 1) (rdW n m w e pp (nI (t + 1)))).1, (flS n m e pp k (t + 1) (rdW n m w e pp (nI (t + 1)))).2)).2.2 i = true
    split
    · exact h
    · exact fl_mono h8 hm hi k (t + 1) _ (by rw [rd_fal h8 hm hi, h, Bool.or_true])
theorem fl_set {n m : Nat} {e pp : Int32} (h8 : n ≤ 8) (hm : m ≤ 6) : ∀ (k t : Nat) (w : Row), (flS n m e pp k t w).1 = orTo (fun i => falB (flS n m e pp k t w).2.2 i && !falB w i) n
  | 0, t, w => by
    show (0 : Int32) = orTo (fun i => falB w i && !falB w i) n
    exact ((orTo_0 (by omega)).mpr fun i _ => by cases falB w i <;> rfl).symm
  | k + 1, t, w => by
    show (if sgS n m w e pp = 0 then (0, t, w) else (sgS n m w e pp ||| (flS n m e pp k (t + 1) (rdW n m w e pp (nI (t + 1)))).1, (flS n m e pp k (t + 1) (rdW n m w e pp (nI (t + 1)))).2)).1 = orTo (fun i => falB (if sgS n m w e pp = 0 then (0, t, w) else (sgS n m w e pp ||| (flS n m e pp k (t + 1) (rdW n m w e pp (nI (t + 1)))).1, (flS n m e pp k (t + 1) (rdW n m w e pp (nI (t + 1)))).2)).2.2 i && !falB w i) n
    by_cases c : sgS n m w e pp = 0
    · rw [if_pos c]
      exact ((orTo_0 (by omega)).mpr fun i _ => by show (falB w i && !falB w i) = false; cases falB w i <;> rfl).symm
    · rw [if_neg c]
      show sgS n m w e pp ||| (flS n m e pp k (t + 1) (rdW n m w e pp (nI (t + 1)))).1 = orTo (fun i => falB (flS n m e pp k (t + 1) (rdW n m w e pp (nI (t + 1)))).2.2 i && !falB w i) n
      rw [fl_set h8 hm k (t + 1) (rdW n m w e pp (nI (t + 1)))]
      unfold sgS
      rw [orTo_or (by omega)]
      refine orTo_congr n fun i hi => ?_
      have mo := fl_mono (e := e) (pp := pp) h8 hm hi k (t + 1) (rdW n m w e pp (nI (t + 1)))
      rw [rd_fal h8 hm hi] at mo ⊢
      have sg : sgB n m w e pp i = true → falB w i = false := fun q => by
        unfold sgB at q
        cases z : falB w i
        · rfl
        · rw [z] at q; exact Bool.noConfusion q
      revert mo sg
      generalize sgB n m w e pp i = x, falB w i = y, falB (flS n m e pp k (t + 1) (rdW n m w e pp (nI (t + 1)))).2.2 i = z
      cases x <;> cases y <;> cases z <;> simp
theorem cnt_split {p q : Nat → Bool} : ∀ n, (∀ i, i < n → q i = true → p i = true) → cnt (fun i => p i && !q i) n + cnt q n = cnt p n
  | 0, _ => rfl
  | n + 1, h => by
    have ih := cnt_split n (fun i hi => h i (by omega))
    have z := h n (by omega)
    show cnt (fun i => p i && !q i) n + (if (p n && !q n) = true then 1 else 0) + (cnt q n + (if q n = true then 1 else 0)) = cnt p n + (if p n = true then 1 else 0)
    rw [← ih]
    revert z
    cases p n <;> cases q n <;> simp <;> omega
theorem bcn {p : Nat → Bool} {n : Nat} (h8 : n ≤ 8) (h : Hp) : f_J6_bitCount_0f7a4 (orTo p n) h = nI (cnt p n) := by
  rw [orTo_8 h8, bcount8, cnt_ext (n := n) 8 h8 (fun k a _ => by rw [decide_eq_false (by omega)]; rfl), cnt_congr n (fun k hk => by rw [decide_eq_true hk, Bool.true_and])]
/-- the houses fallen in a fall, counted -/
theorem bc_fall {n m : Nat} {e pp : Int32} {w : Row} (h8 : n ≤ 8) (hm : m ≤ 6) (h : Hp) :
    cnt (upS (fallW n m e pp w).2.2) n ≤ cnt (upS w) n ∧ f_J6_bitCount_0f7a4 (fallW n m e pp w).1 h = nI (cnt (upS w) n - cnt (upS (fallW n m e pp w).2.2) n) := by
  have s : (fallW n m e pp w).1 = orTo (fun i => falB (fallW n m e pp w).2.2 i && !falB w i) n := fl_set (e := e) (pp := pp) h8 hm 9 0 w
  have cs := cnt_split (p := upS w) (q := upS (fallW n m e pp w).2.2) n (fun i hi q => by
    have mo := fl_mono (e := e) (pp := pp) h8 hm hi 9 0 w
    unfold upS fallW at *
    revert mo q
    generalize falB w i = x, falB (flS n m e pp 9 0 w).2.2 i = y
    cases x <;> cases y <;> simp)
  refine ⟨by omega, ?_⟩
  rw [s, bcn h8, cnt_congr (q := fun i => upS w i && !upS (fallW n m e pp w).2.2 i) n (fun i hi => by unfold upS; generalize falB w i = x, falB (fallW n m e pp w).2.2 i = y; cases x <;> cases y <;> rfl)]
  congr 1
  omega
theorem ev_fal {n m i : Nat} {calm : Bool} {w : Row} (g : GdN n m w) (hi : i < 8) : falB (evW calm n m w) i = falB (fallW n m (w 4) 0 w).2.2 i := by
  unfold evW falB
  rw [tick_ob (by omega) (by omega)]
  cases calm
  · rw [tff, wans_ob g.2.2.2.1 (by omega)]
    show decide (fldN (ageW n m (w 4)) _ n _ = 1) = _
    rw [ag_ob g.2.1 (by omega)]
  · rw [ttt]
    show decide (fldN (ageW n m (w 4)) _ n _ = 1) = _
    rw [ag_ob g.2.1 (by omega)]
theorem go_law {n m k : Nat} {calm : Bool} {w : Row} (g : Gd n m w) (hk : k = 3 ∨ 492 ≤ k) : ∀ N, goW calm n m w N k = w k
  | 0 => rfl
  | N + 1 => by
    show evW calm n m (goW calm n m w N) k = w k
    rw [ev_law (go_Gd g N) hk, go_law g hk N]
theorem go_cnt {n m : Nat} {calm : Bool} {w : Row} (g : Gd n m w) (h : Hp) : ∀ N, cnt (upS (goW calm n m w N)) n ≤ cnt (upS w) n ∧
    sumTo (fun j => f_J6_bitCount_0f7a4 (fallW n m (goW calm n m w j 4) 0 (goW calm n m w j)).1 h) N = nI (cnt (upS w) n - cnt (upS (goW calm n m w N)) n)
  | 0 => ⟨Nat.le_refl _, by show (0 : Int32) = nI (cnt (upS w) n - cnt (upS w) n); rw [Nat.sub_self]; rfl⟩
  | N + 1 => by
    obtain ⟨i1, i2⟩ := go_cnt (calm := calm) g h N
    have g1 := go_Gd (calm := calm) g N
    obtain ⟨b1, b2⟩ := bc_fall (n := n) (m := m) (e := goW calm n m w N 4) (pp := 0) (w := goW calm n m w N) g.1.2.1 g.1.2.2.2.1 h
    have e : cnt (upS (goW calm n m w (N + 1))) n = cnt (upS (fallW n m (goW calm n m w N 4) 0 (goW calm n m w N)).2.2) n := cnt_congr n fun i hi => by
      unfold upS
      rw [← ev_fal (calm := calm) g1.1 (by have := g.1.2.1; omega)]
      rfl
    refine ⟨by omega, ?_⟩
    show sumTo _ N + f_J6_bitCount_0f7a4 (fallW n m (goW calm n m w N 4) 0 (goW calm n m w N)).1 h = _
    rw [i2, b2, nI_add, e]
    congr 1
    omega
theorem c_cntUp {h : Hp} {c n m : Nat} {w : Row} (H : CV0 c h n m w) (h8 : n ≤ 8) (g : Hp) : f_J6_bitCount_0f7a4 (h c 11) g = nI (cnt (upS w) n) := by
  rw [H.2.2.2.1.2.2, bcount8, cnt_up h8]
theorem in170 {j : Nat} {h : Hp} (h1 : 1 ≤ j) (h2 : j ≤ 70) : f_X12_in (nI j) 1 70 h = true := in_ok (a := 1) (b := 70) h1 h2 (by omega)
theorem sp_8 {a : Nat → Int32} {h : Hp} (I : Inv h) : ∃ h' n, St_8 a h h' n ∧ n ≤ 1 ∧ Inv h' := by
  obtain ⟨⟨n, m, N⟩, _, _, _, h21⟩ := id I
  have g := N.1
  have h8 := g.1.2.1
  have bad : (a 1 < 1 ∨ 70 < a 1) → ∃ h' n, St_8 a h h' n ∧ n ≤ 1 ∧ Inv h' := by
    intro hx
    obtain ⟨h', k, s, l, J⟩ := qEr (c := f_X11_evenings (a 1)) (md := f_X12_evenings (a 1)) (E := "java/lang/IllegalArgumentException") (t := 1) I ⟨h, by
        unfold f_X11_evenings
        rcases hx with q | q
        · rw [ckA_lo q, obS, exEr]
        · rw [ckA_hi q, obS, exEr], KC_refl h⟩ (fun g _ _ => by
        refine ⟨0, up1 (up1 g 30 0 0) 30 0 1, ?_, up1_same, KM_trans KM_0 KM_0⟩
        unfold f_X12_evenings F_X12_evenings_21
        rw [bnd_eq, show f_X12_in (a 1) 1 70 (up1 g 30 0 0) = false from hx.elim in_lo in_hi, tff, tI1, obS]; rfl)
    exact ⟨h', k, Or.inr s, l, J⟩
  rcases argI (a 1) (n := 71) (by omega) with ⟨N1, hN, e1⟩ | hx
  · by_cases z : N1 = 0
    · exact bad (Or.inl (by rw [e1, z]; decide))
    · obtain ⟨r, er, ro, K⟩ := qActCore I (go_Gd (calm := false) g N1) (fun k hk => go_law g hk N1)
      have rV : CV0 100 r n m (h 31) := CV0_fr N.2.1 fun k x y => ro k (by omega) (by omega)
      have rG : LG 100 r (h 31) := LG_fr N.2.2.1 fun k x y => ro k (by omega) (by omega)
      have rL : LV 500 r (h 31) := LV_fr N.2.2.2 fun k x y => ro k (by omega) (by omega)
      obtain ⟨h1, c1, V1, _, G1, f1⟩ := c_run (r := 500) (N := N1) (b := true) (by decide) (Or.inl (by decide)) (by decide) g rV (LG_LW rG) rL (by omega)
      obtain ⟨i1, i2⟩ := go_cnt (calm := false) g h N1
      obtain ⟨v, hv⟩ : ∃ v, nI (cnt (upS (h 31)) n - cnt (upS (goW false n m (h 31) N1)) n) = v := ⟨_, rfl⟩
      have ec : f_X11_evenings (a 1) h = some (Except.ok v, h1) := by
        unfold f_X11_evenings
        rw [e1, show (1 : Int32) = nI 1 from rfl, show (70 : Int32) = nI 70 from rfl, ckA_i (by omega) (by omega) (by omega), obS, exOk, er, obS, bnd_eq, show f_X3_run 100 500 (nI N1) (nI 1) r = some h1 from c1, obS, c_cntUp rV h8, c_cntUp (w := goW false n m (h 31) N1) V1 h8, zsub i1, ← hv]
      obtain ⟨r', er', r'31, r'50, r'30, r'0, K2⟩ := K h1 (fun k hk => f1 k (by omega) (by omega) (by omega)) V1 (G1 rG) (up1 h1 50 0 v) (fun k hk => up1_ob hk)
      obtain ⟨h', e3, w3, E3, F3⟩ := m_goesOn (h := r') (n := n) (m := m) (N := N1) (calm := false) (by rw [r'31]; exact g.1) (by rw [r'30 21 (by decide) (by decide)]; exact h21) (by omega)
      rw [r'31] at e3 w3
      have em : f_X12_evenings (a 1) (up1 h1 50 0 v) = some (v, h') := by
        unfold f_X12_evenings F_X12_evenings_21
        rw [bnd_eq, e1, in170 (by omega) (by omega), ttt, tI0, obS]
        dsimp only
        rw [tff, er', obS, show f_X12_goesOn (nI N1) 0 r' = _ from e3, obS, ← hv, ← (go_cnt (calm := false) g r' N1).2]
      exact ⟨h', 0, Or.inl ⟨v, h1, v, ec, em, by show h' 30 0 = 0; rw [E3 0 (by decide) (by decide)]; exact r'0, by rw [F3 50 (by decide) (by decide) (by decide) (by decide) (by decide), r'50, up1_same], rfl⟩, by omega,
        K2 h' ⟨fun k hk => F3 k (by omega) (by omega) (by omega) (by omega) (by omega), fun i x y => E3 i x y⟩ w3⟩
  · exact bad (hx.imp (fun q => Int32.lt_trans q (by decide)) (fun q => Int32.lt_of_lt_of_le (by decide) q))
