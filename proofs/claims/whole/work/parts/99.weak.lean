/-! LAYER 4. weakest, pulls, key -/
/-- houses that a fall of the row v takes -/
def fcN (n m : Nat) (e : Int32) (v : Row) : Nat := cnt (upS v) n - cnt (upS (fallW n m e 0 v).2.2) n
theorem fc_bc {n m : Nat} {e : Int32} {v : Row} (g : GdN n m v) (h : Hp) : f_J6_bitCount_0f7a4 (fallW n m e 0 v).1 h = nI (fcN n m e v) := (bc_fall g.2.1 g.2.2.2.1 h).2
theorem fc_8 {n m : Nat} {e : Int32} {v : Row} (g : GdN n m v) : fcN n m e v ≤ 8 := by
  have := cnt_le (upS v) n
  have := g.2.1
  unfold fcN; omega
def wkW (n m : Nat) (w : Row) : Nat → Nat × Nat
  | 0 => (0, 0)
  | j + 1 => if (wkW n m w j).2 < fcN n m (nI j) w then (j, fcN n m (nI j) w) else wkW n m w j
theorem wk_le {n m : Nat} {w : Row} (g : GdN n m w) : ∀ j, (wkW n m w j).1 ≤ j ∧ (wkW n m w j).2 ≤ 8
  | 0 => ⟨Nat.le_refl _, by show (0 : Nat) ≤ 8; omega⟩
  | j + 1 => by
    have ih := wk_le g j
    show (if (wkW n m w j).2 < fcN n m (nI j) w then (j, fcN n m (nI j) w) else wkW n m w j).1 ≤ j + 1 ∧ (if (wkW n m w j).2 < fcN n m (nI j) w then (j, fcN n m (nI j) w) else wkW n m w j).2 ≤ 8
    split
    · exact ⟨by show j ≤ j + 1; omega, fc_8 g⟩
    · exact ⟨by omega, ih.2⟩
theorem c_weakest {h : Hp} {n m : Nat} (N : NOW n m h) : ∃ h1, f_X11_weakest h = some (nI (wkW n m (h 31) 7).1, h1) ∧ KC h h1 := by
  have G := N.1.1
  have Q := loopW S_X11_weakest_6 (fun _ _ _ _ => none) (fun q (s : Nat × Hp) => q (nI (wkW n m (h 31) s.1).1) (nI (wkW n m (h 31) s.1).2) (nI s.1) s.2) 7 (fun j s => s.1 = j ∧ KC h s.2)
    (fun r => ∃ h1, r = some (nI (wkW n m (h 31) 7).1, h1) ∧ KC h h1) (by omega) (fun j s hj hs => ?_) (fun s hs => ?_) (0, h) ⟨rfl, KC_refl h⟩
  · exact Q
  · obtain ⟨j', u⟩ := s
    dsimp only at hs
    obtain ⟨hj', K⟩ := hs
    obtain rfl : j' = j := hj'
    obtain ⟨u', e1, K1, _⟩ := c_fallsNow (e := j') (NOW_KC N K) hj
    rw [KC_31 K] at e1
    refine ⟨(j' + 1, u'), ⟨rfl, KC_trans K K1⟩, fun q => ?_⟩
    have b := wk_le G j'
    have c8 := fc_8 (e := nI j') G
    show S_X11_weakest_6 q (nI (wkW n m (h 31) j').1) (nI (wkW n m (h 31) j').2) (nI j') u = q (nI (if (wkW n m (h 31) j').2 < fcN n m (nI j') (h 31) then (j', fcN n m (nI j') (h 31)) else wkW n m (h 31) j').1) (nI (if (wkW n m (h 31) j').2 < fcN n m (nI j') (h 31) then (j', fcN n m (nI j') (h 31)) else wkW n m (h 31) j').2) (nI (j' + 1)) u'
    unfold S_X11_weakest_6
    rw [show (7 : Int32) = nI 7 from rfl, if_pos ((nI_ltI (by omega) (by omega)).mpr hj), e1, obS, bnd_eq, fc_bc G]
    by_cases c : (wkW n m (h 31) j').2 < fcN n m (nI j') (h 31)
    · rw [if_pos ((nI_ltI (by omega) (by omega)).mpr c), if_pos c, nI_1]
    · rw [if_neg (fun z => c ((nI_ltI (by omega) (by omega)).mp z)), if_neg c, nI_1]
  · obtain ⟨j', u⟩ := s
    dsimp only at hs
    obtain ⟨hj', K⟩ := hs
    obtain rfl : j' = 7 := hj'
    exact ⟨_, ⟨u, rfl, K⟩, fun q => by
      show S_X11_weakest_6 q _ _ (nI 7) u = _
      unfold S_X11_weakest_6
      rw [show (7 : Int32) = nI 7 from rfl, if_neg (by decide)]⟩
theorem m_weakest {h : Hp} {n m : Nat} (G : GdN n m (h 31)) (h21 : h 30 21 = 0) : ∃ h1, f_X12_weakest h = some (nI (wkW n m (h 31) 7).1, h1) ∧ KM h h1 := by
  have w1 : (up1 h 30 0 0) 31 = h 31 := up1_ob (by decide)
  have Q := loopW S_X12_weakest_11 (fun _ _ _ _ => none) (fun q (s : (Nat × Int32) × Hp) => q (nI (wkW n m (h 31) s.1.1).1) s.1.2 (nI s.1.1) s.2) 7 (fun j s => s.1.1 = j ∧ s.1.2 = (if j = 0 then -1 else nI (wkW n m (h 31) j).2) ∧ KM h s.2)
    (fun r => ∃ h1, r = some (nI (wkW n m (h 31) 7).1, h1) ∧ KM h h1) (by omega) (fun j s hj hs => ?_) (fun s hs => ?_) ((0, -1), up1 h 30 0 0) ⟨rfl, rfl, KM_0⟩
  · unfold f_X12_weakest
    rw [bnd_eq]
    exact Q
  · obtain ⟨⟨j', x⟩, u⟩ := s
    dsimp only at hs
    obtain ⟨hj', hx, K⟩ := hs
    obtain rfl : j' = j := hj'
    have u31 : u 31 = h 31 := K.1 31 (by omega)
    obtain ⟨u', e1, _, _, K1, _⟩ := m_fallsIn (h := u) (n := n) (m := m) (e := nI j') (by rw [u31]; exact G) (by rw [K.2 21 (by decide) (by decide) (by decide)]; exact h21)
    rw [u31] at e1
    refine ⟨((j' + 1, nI (wkW n m (h 31) (j' + 1)).2), u'), ⟨rfl, by rw [if_neg (show ¬ j' + 1 = 0 by omega)], KM_trans K K1⟩, fun q => ?_⟩
    have b := wk_le G j'
    have c8 := fc_8 (e := nI j') G
    show S_X12_weakest_11 q (nI (wkW n m (h 31) j').1) x (nI j') u = q (nI (if (wkW n m (h 31) j').2 < fcN n m (nI j') (h 31) then (j', fcN n m (nI j') (h 31)) else wkW n m (h 31) j').1) (nI (if (wkW n m (h 31) j').2 < fcN n m (nI j') (h 31) then (j', fcN n m (nI j') (h 31)) else wkW n m (h 31) j').2) (nI (j' + 1)) u'
    rw [hx]
    unfold S_X12_weakest_11 F_X12_weakest_38
    rw [show (7 : Int32) = nI 7 from rfl, if_pos ((nI_ltI (by omega) (by omega)).mpr hj), e1, obS, bnd_eq, fc_bc G]
    by_cases z : j' = 0
    · subst z
      have lt : (-1 : Int32) < nI (fcN n m (nI 0) (h 31)) := Int32.lt_of_lt_of_le (show (-1 : Int32) < nI 0 by decide) ((nI_leI (by omega) (by omega)).mpr (Nat.zero_le _))
      rw [if_pos rfl, if_pos lt, bnd_eq, nI_1]
      unfold imax
      rw [if_pos lt]
      by_cases c : (wkW n m (h 31) 0).2 < fcN n m (nI 0) (h 31)
      · rw [if_pos c]
      · rw [if_neg c]
        have : fcN n m (nI 0) (h 31) = 0 := by
          have : ¬ 0 < fcN n m (nI 0) (h 31) := c
          omega
        rw [this]; rfl
    · rw [if_neg z]
      by_cases c : (wkW n m (h 31) j').2 < fcN n m (nI j') (h 31)
      · rw [if_pos ((nI_ltI (by omega) (by omega)).mpr c), if_pos c, bnd_eq, nI_1, zmax (by omega) (by omega), Nat.max_eq_right (by omega)]
      · rw [if_neg (fun z => c ((nI_ltI (by omega) (by omega)).mp z)), if_neg c, bnd_eq, nI_1, zmax (by omega) (by omega), Nat.max_eq_left (by omega)]
  · obtain ⟨⟨j', x⟩, u⟩ := s
    dsimp only at hs
    obtain ⟨hj', _, K⟩ := hs
    obtain rfl : j' = 7 := hj'
    exact ⟨_, ⟨u, rfl, K⟩, fun q => by
      show S_X12_weakest_11 q _ _ (nI 7) u = _
      unfold S_X12_weakest_11
      rw [show (7 : Int32) = nI 7 from rfl, if_neg (by decide)]⟩
/-! a house pulled -/
theorem gone_4 {n m i : Nat} {w : Row} (g : Gd n m w) (hi : i < n) : goneW i m w 4 = w 4 := gone_ob (by have := g.1.2.1; omega) g.1.2.2.2.1 (by omega)
theorem c_pulledBy {h : Hp} {n m i : Nat} (N : NOW n m h) (hi : i < n) : ∃ h1, f_X11_pulledBy (nI i) h = some (nI (1 + fcN n m (h 31 4) (goneW i m (h 31))), h1) ∧ KC h h1 := by
  have g := N.1
  have h8 := g.1.2.1
  have h6 := g.1.2.2.2.1
  obtain ⟨r, e1, K1, V, Lg, L, _⟩ := c_probe N
  obtain ⟨r2, e2, V2, f2⟩ := c_takeDown V h8 h6 hi
  have gg := gone_Gd hi g
  obtain ⟨e, he, ee⟩ := g.2.2.2.2.1
  have L2 : LV 500 r2 (goneW i m (h 31)) := LV_cg g.1.2.2.2.2 (fun k hk => gone_ob (by omega) h6 (by omega)) (LV_fr L fun k x y => f2 k (by omega) (by omega) (by omega))
  have W2 : LW 116 r2 := LG_LW (w := goneW i m (h 31)) (LG_cg (fun k hk => gone_ob (by omega) h6 (by omega)) (LG_fr Lg fun k x y => f2 k (by omega) (by omega) (by omega)))
  obtain ⟨h1, e3, _, _, _, _, _, f3⟩ := c_fall (c := 116) (r := 500) (e := e) (by decide) (Or.inl (by decide)) (by decide) gg V2 W2 L2 (by omega)
  refine ⟨h1, ?_, KC_trans K1 (KC_trans (fun k hk => f2 k (by omega) (by omega) (by omega)) (KC_pr f3))⟩
  unfold f_X11_pulledBy
  rw [e1, obS, e2, obS, show r2 116 12 = nI e from V2.2.2.2.2.1.trans ((gone_4 g hi).trans ee), e3, obS]
  dsimp only
  rw [fc_bc gg.1, ee, show (1 : Int32) = nI 1 from rfl, zadd]
theorem m_pullsOf {h : Hp} {n m i : Nat} (g : Gd n m (h 31)) (h21 : h 30 21 = 0) (hi : i < n) : ∃ h1, f_X12_pullsOf (nI i) h = some (nI (1 + fcN n m (h 31 4) (goneW i m (h 31))), h1) ∧ KM h h1 ∧ h1 30 0 = h 30 0 := by
  have h8 := g.1.2.1
  have h6 := g.1.2.2.2.1
  obtain ⟨u, hu⟩ : ∃ u, upA h 34 (mixR (h 31) (h 34) 492) = u := ⟨_, rfl⟩
  have u31 : u 31 = h 31 := by rw [← hu, upA_ob (by decide)]
  have uo : ∀ k, k ≠ 34 → u k = h k := fun k x => by rw [← hu, upA_ob x]
  have Ku : KEPT (h 31) u := by rw [← hu]; exact keep_K
  have K2 : KEPT (h 31) (upA u 31 (goneW i m (h 31))) := ⟨fun k hk => by rw [upA_ob (by decide)]; exact Ku.1 k hk, fun k hk => by rw [upA_at]; exact gone_ob (by omega) h6 (by omega)⟩
  obtain ⟨h1, e1, w1, _, K1⟩ := m_wouldFall (h := upA u 31 (goneW i m (h 31))) (n := n) (m := m) (e := h 31 4) (w0 := h 31) (by rw [upA_at]; exact (gone_Gd hi g).1) (by rw [upA_ob (by decide), uo 30 (by decide)]; exact h21) K2
  rw [upA_at] at e1
  refine ⟨h1, ?_, ⟨fun k hk => ?_, fun k _ x y => by rw [K1.2 k x y, upA_ob (by decide), uo 30 (by decide)]⟩, by rw [K1.2 0 (by decide) (by decide), upA_ob (by decide), uo 30 (by decide)]⟩
  · unfold f_X12_pullsOf
    rw [m_keepsM, obS, hu, m_isGone (m := m) (by rw [u31]; exact g.1.2.2.1) h6 (by omega), obS, u31, upA_at, gone_4 g hi, e1, obS]
    dsimp only
    rw [fc_bc (gone_Gd hi g).1, show (1 : Int32) = nI 1 from rfl, zadd]
  · by_cases c : k = 31
    · rw [c, w1]
    · rw [K1.1 k (by omega), upA_ob c, uo k (by omega)]
