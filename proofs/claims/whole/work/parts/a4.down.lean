/-! LAYER 4. down -/
theorem cnt_0 {p : Nat → Bool} : ∀ n, cnt p n = 0 → ∀ i, i < n → p i = false
  | 0, _, i, hi => absurd hi (Nat.not_lt_zero i)
  | n + 1, h, i, hi => by
    have h' : cnt p n + (if p n then 1 else 0) = 0 := h
    by_cases c : i = n
    · rw [c]
      cases q : p n
      · rfl
      · rw [q, ttt] at h'; omega
    · exact cnt_0 n (by omega) i (by omega)
/-- houses fallen on the evening at hand -/
def fcE (n m : Nat) (w : Row) : Nat := fcN n m (w 4) w
theorem ev_ups {n m : Nat} {calm : Bool} {w : Row} (g : GdN n m w) : (orTo (upB n (evW calm n m w)) 8 = orTo (upB n w) 8) ↔ fcE n m w = 0 := by
  have h8 := g.2.1
  have ce : cnt (upS (evW calm n m w)) n = cnt (upS (fallW n m (w 4) 0 w).2.2) n := cnt_congr n fun i hi => by unfold upS; rw [ev_fal g (by omega)]
  have le := (bc_fall (e := w 4) (pp := 0) (w := w) h8 g.2.2.2.1 (fun _ _ => 0)).1
  constructor
  · intro q
    rw [up_std h8, up_std h8] at q
    have : cnt (upS (evW calm n m w)) n = cnt (upS w) n := cnt_congr n fun i hi => by
      have t := congrArg (fun x => tb x i) q
      rw [orTo_tb _ _ (by omega) _ (by omega), orTo_tb _ _ (by omega) _ (by omega), decide_eq_true hi, Bool.true_and, Bool.true_and] at t
      exact t
    unfold fcE fcN
    omega
  · intro q
    unfold fcE fcN at q
    rw [up_std h8, up_std h8]
    have mo : ∀ i, i < n → upS (fallW n m (w 4) 0 w).2.2 i = true → upS w i = true := fun i hi z => by
      have := fl_mono (e := w 4) (pp := 0) h8 g.2.2.2.1 hi 9 0 w
      unfold upS fallW at *
      revert this z
      generalize falB w i = x, falB (flS n m (w 4) 0 9 0 w).2.2 i = y
      cases x <;> cases y <;> simp
    have sp := cnt_split (p := upS w) (q := upS (fallW n m (w 4) 0 w).2.2) n mo
    refine orTo_congr n fun i hi => ?_
    have z := cnt_0 n (show cnt (fun i => upS w i && !upS (fallW n m (w 4) 0 w).2.2 i) n = 0 by omega) i hi
    have m1 := mo i hi
    have e : upS (evW calm n m w) i = upS (fallW n m (w 4) 0 w).2.2 i := by unfold upS; rw [ev_fal g (by omega)]
    rw [e]
    revert z m1
    generalize upS w i = x, upS (fallW n m (w 4) 0 w).2.2 i = y
    cases x <;> cases y <;> simp
def dnR (n m : Nat) (w : Row) : Nat → Nat → Int32
  | 0, _ => -1
  | t + 1, j => if 0 < fcE n m (goW true n m w j) then nI (j + 1) else dnR n m w t (j + 1)
theorem dnR_s {n m : Nat} {w : Row} {j : Nat} (hj : j < 70) : dnR n m w (70 - j) j = if 0 < fcE n m (goW true n m w j) then nI (j + 1) else dnR n m w (70 - (j + 1)) (j + 1) := by
  rw [show 70 - j = 70 - (j + 1) + 1 by omega]; rfl
theorem c_down {h : Hp} {n m : Nat} (N : NOW n m h) : ∃ h1, f_X11_down h = some (dnR n m (h 31) 70 0, h1) ∧ KC h h1 := by
  have g := N.1
  have h8 := g.1.2.1
  obtain ⟨r, e1, K1, V, G, L, _⟩ := c_probe N
  have Q := loopV S_X11_down_13 (fun _ _ => none) (fun q (s : Nat × Hp) => q (nI (s.1 + 1)) s.2) 70
    (fun j s => s.1 = j ∧ dnR n m (h 31) 70 0 = dnR n m (h 31) (70 - j) j ∧ CV0 116 s.2 n m (goW true n m (h 31) j) ∧ LW 116 s.2 ∧ LV 500 s.2 (goW true n m (h 31) j) ∧ KC h s.2 ∧ orTo (upB n (goW true n m (h 31) j)) 8 = orTo (upB n (h 31)) 8)
    (fun x => ∃ h1, x = some (dnR n m (h 31) 70 0, h1) ∧ KC h h1) (by omega) (fun j s hj hs => ?_) (fun s hs => ?_) (0, r) ⟨rfl, rfl, V, LG_LW G, L, K1, rfl⟩
  · unfold f_X11_down
    rw [e1, obS]
    exact Q
  · obtain ⟨j', u⟩ := s
    dsimp only at hs
    obtain ⟨hj', d, V1, W1, L1, K, up⟩ := hs
    obtain rfl : j' = j := hj'
    have gj := go_Gd (calm := true) g j'
    obtain ⟨u', e2, V2, W2, _, f2⟩ := c_pass (c := 116) (r := 500) (b := false) (by decide) (Or.inl (by decide)) (by decide) gj V1 W1 L1
    have K2 : KC u u' := KC_pr f2
    have L2 : LV 500 u' (goW true n m (h 31) (j' + 1)) := LV_cg gj.1.2.2.2.2 (fun k hk => ev_law gj (by omega)) (LV_fr L1 fun k x y => f2 k (by omega) (by omega) (by omega))
    have a1 : u' 116 11 = orTo (upB n (goW true n m (h 31) (j' + 1))) 8 := V2.2.2.2.1.2.2
    have a2 : u' 100 11 = orTo (upB n (h 31)) 8 := by rw [f2 100 (by decide) (by decide) (by decide), K 100 (by omega)]; exact N.2.1.2.2.2.1.2.2
    have es : (orTo (upB n (goW true n m (h 31) (j' + 1))) 8 = orTo (upB n (goW true n m (h 31) j')) 8) ↔ fcE n m (goW true n m (h 31) j') = 0 := ev_ups gj.1
    have ds := dnR_s (n := n) (m := m) (w := h 31) hj
    have st : ∀ q, S_X11_down_13 q (nI (j' + 1)) u = if u' 116 11 = u' 100 11 then q (nI (j' + 1 + 1)) u' else some (nI (j' + 1), u') := fun q => by
      unfold S_X11_down_13
      rw [show (70 : Int32) = nI 70 from rfl, if_neg (fun z => absurd ((nI_ltI (by omega) (by omega)).mp z) (by omega)), show f_X3_pass 116 500 0 u = some u' from e2, obS, nI_1]
    by_cases z : fcE n m (goW true n m (h 31) j') = 0
    · refine Or.inl ⟨(j' + 1, u'), ⟨rfl, ?_, V2, W2, L2, KC_trans K K2, (es.mpr z).trans up⟩, fun q => ?_⟩
      · rw [d, ds, if_neg (by omega)]
      · show S_X11_down_13 q (nI (j' + 1)) u = q (nI (j' + 1 + 1)) u'
        rw [st, if_pos (by rw [a1, a2, ← up]; exact es.mpr z)]
    · refine Or.inr ⟨_, ⟨u', rfl, KC_trans K K2⟩, fun q => ?_⟩
      show S_X11_down_13 q (nI (j' + 1)) u = _
      rw [st, if_neg (by rw [a1, a2, ← up]; exact fun y => z (es.mp y)), d, ds, if_pos (by omega)]
  · obtain ⟨j', u⟩ := s
    dsimp only at hs
    obtain ⟨hj', d, V1, W1, L1, K, up⟩ := hs
    obtain rfl : j' = 70 := hj'
    refine ⟨_, ⟨u, rfl, K⟩, fun q => ?_⟩
    show S_X11_down_13 q (nI (70 + 1)) u = _
    unfold S_X11_down_13
    rw [if_pos (by decide), d]; rfl
theorem m_down {h : Hp} {n m : Nat} (g : Gd n m (h 31)) (h21 : h 30 21 = 0) : ∃ h1, f_X12_down h = some (dnR n m (h 31) 70 0, h1) ∧ KM h h1 := by
  have h8 := g.1.2.1
  obtain ⟨p, hp⟩ : ∃ p, up1 h 30 0 0 = p := ⟨_, rfl⟩
  have p31 : p 31 = h 31 := by rw [← hp, up1_ob (by decide)]
  have p21 : p 30 21 = 0 := by rw [← hp, up1_at, upd_ob (by decide)]; exact h21
  obtain ⟨r, hr⟩ : ∃ r, upA p 34 (mixR (p 31) (p 34) 492) = r := ⟨_, rfl⟩
  have ro : ∀ k, k ≠ 34 → r k = p k := fun k x => by rw [← hr, upA_ob x]
  have Kr : KEPT (p 31) r := by rw [← hr]; exact keep_K
  have fin : ∀ x u, KEPT (p 31) u → KT r u → ∃ h1, F_X12_down_44 x u = some (x, h1) ∧ KM h h1 := fun x u Ku Kt => by
    refine ⟨_, ?_, KM_trans (by rw [← hp]; exact KM_0) (KM_kept ro Kt Ku).1⟩
    unfold F_X12_down_44
    rw [m_backM, obS]
  have Q := loopV S_X12_down_13 (fun _ _ _ => none) (fun q (s : (Nat × Int32) × Hp) => q s.1.2 (nI (s.1.1 + 1)) s.2) 70
    (fun j s => s.1.1 = j ∧ KEPT (p 31) s.2 ∧ KT r s.2 ∧ ((s.1.2 = -1 ∧ dnR n m (h 31) 70 0 = dnR n m (h 31) (70 - j) j ∧ s.2 31 = goW true n m (h 31) j) ∨ (s.1.2 = dnR n m (h 31) 70 0 ∧ ¬ s.1.2 = -1)))
    (fun x => ∃ h1, x = some (dnR n m (h 31) 70 0, h1) ∧ KM h h1) (by omega) (fun j s hj hs => ?_) (fun s hs => ?_) ((0, -1), r) ⟨rfl, Kr, ⟨fun _ _ => rfl, fun _ _ _ => rfl⟩, Or.inl ⟨rfl, rfl, by show r 31 = h 31; rw [ro 31 (by decide), p31]⟩⟩
  · unfold f_X12_down
    rw [bnd_eq, hp, m_keepsM, obS, hr]
    exact Q
  · obtain ⟨⟨j', x⟩, u⟩ := s
    dsimp only at hs
    obtain ⟨hj', Ku, Kt, hs⟩ := hs
    obtain rfl : j' = j := hj'
    have st : ∀ q : Int32 → Int32 → Hp → Option (Int32 × Hp), S_X12_down_13 q x (nI (j' + 1)) u = if x = -1 then Option.bind (f_X12_oneEvening 1 u) fun r_3 => if 0 < r_3.1 then q (nI (j' + 1)) (nI (j' + 1) + 1) r_3.2 else q (-1) (nI (j' + 1) + 1) r_3.2 else F_X12_down_44 x u := fun q => by
      unfold S_X12_down_13
      rw [show (70 : Int32) = nI 70 from rfl, if_neg (fun z => absurd ((nI_ltI (by omega) (by omega)).mp z) (by omega))]
    rcases hs with ⟨hx, d, w⟩ | ⟨hx, ne⟩
    · have gj := go_Gd (calm := true) g j'
      obtain ⟨u', e2, w2, r2, f2⟩ := m_oneEvening (h := u) (n := n) (m := m) (calm := true) (by rw [w]; exact gj.1) (by rw [Kt.2 21 (by decide) (by decide), ro 30 (by decide)]; exact p21)
      rw [w] at e2 w2 r2
      have e2' : f_X12_oneEvening 1 u = some (nI (fcE n m (goW true n m (h 31) j')), u') := by
        rw [show f_X12_oneEvening 1 u = _ from e2, fc_bc gj.1]; rfl
      have b8 := fc_8 (e := goW true n m (h 31) j' 4) gj.1
      have Kt' : KT r u' := ⟨fun k hk => by rw [f2 k (by omega) (by omega) (by omega) (by omega) (by omega), Kt.1 k hk], fun i a b => by rw [r2, upd_ob b, upd_ob a, Kt.2 i a b]⟩
      have Ku' : KEPT (p 31) u' := ⟨fun k hk => by rw [f2 34 (by decide) (by decide) (by decide) (by decide) (by decide)]; exact Ku.1 k hk, fun k hk => by rw [w2, ev_law gj (Or.inr hk), ← w]; exact Ku.2 k hk⟩
      have ds := dnR_s (n := n) (m := m) (w := h 31) hj
      have f8 : fcE n m (goW true n m (h 31) j') ≤ 8 := b8
      by_cases z : 0 < fcE n m (goW true n m (h 31) j')
      · refine Or.inl ⟨((j' + 1, nI (j' + 1)), u'), ⟨rfl, Ku', Kt', Or.inr ⟨by rw [d, ds, if_pos z], fun q => absurd q (by rw [zem (by omega)]; exact id)⟩⟩, fun q => ?_⟩
        show S_X12_down_13 q x (nI (j' + 1)) u = q (nI (j' + 1)) (nI (j' + 1 + 1)) u'
        rw [st, if_pos hx, e2', obS]
        dsimp only
        rw [if_pos (show (0 : Int32) < nI _ from (nI_ltI (a := 0) (by omega) (by omega)).mpr z), nI_1]
      · refine Or.inl ⟨((j' + 1, -1), u'), ⟨rfl, Ku', Kt', Or.inl ⟨rfl, by rw [d, ds, if_neg z], w2⟩⟩, fun q => ?_⟩
        show S_X12_down_13 q x (nI (j' + 1)) u = q (-1) (nI (j' + 1 + 1)) u'
        rw [st, if_pos hx, e2', obS]
        dsimp only
        rw [if_neg (show ¬ (0 : Int32) < nI _ from fun y => z ((nI_ltI (a := 0) (by omega) (by omega)).mp y)), nI_1]
    · obtain ⟨h1, e, K⟩ := fin x u Ku Kt
      refine Or.inr ⟨_, ⟨h1, rfl, K⟩, fun q => ?_⟩
      show S_X12_down_13 q x (nI (j' + 1)) u = _
      rw [st, if_neg ne, e, hx]
  · obtain ⟨⟨j', x⟩, u⟩ := s
    dsimp only at hs
    obtain ⟨hj', Ku, Kt, hs⟩ := hs
    obtain rfl : j' = 70 := hj'
    obtain ⟨h1, e, K⟩ := fin x u Ku Kt
    have ex : x = dnR n m (h 31) 70 0 := by
      rcases hs with ⟨hx, d, _⟩ | ⟨hx, _⟩
      · rw [hx, d]; rfl
      · exact hx
    refine ⟨_, ⟨h1, rfl, K⟩, fun q => ?_⟩
    show S_X12_down_13 q x (nI (70 + 1)) u = _
    unfold S_X12_down_13
    rw [if_pos (by decide), e, ex]
theorem sp_43 {a : Nat → Int32} {h : Hp} (I : Inv h) : ∃ h' n, St_43 a h h' n ∧ n ≤ 1 ∧ Inv h' := by
  obtain ⟨⟨n, m, N⟩, _⟩ := id I
  exact qNo (c := f_X11_down) (md := f_X12_down) (v := dnR n m (h 31) 70 0) I (c_down N) (fun g J ge => by
    have e31 : g 31 = h 31 := ge 31 (by omega) (by omega)
    obtain ⟨h1, e, K⟩ := m_down (h := g) (n := n) (m := m) (by rw [e31]; exact N.1) J.2.2.2.2
    rw [e31] at e
    exact ⟨h1, e, K⟩)
