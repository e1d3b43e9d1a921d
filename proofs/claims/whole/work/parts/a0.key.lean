/-! LAYER 4. weakest, pulls, key: the steps -/
theorem sp_21 {a : Nat → Int32} {h : Hp} (I : Inv h) : ∃ h' n, St_21 a h h' n ∧ n ≤ 1 ∧ Inv h' := by
  obtain ⟨⟨n, m, N⟩, _⟩ := id I
  exact qNo (c := f_X11_weakest) (md := f_X12_weakest) (v := nI (wkW n m (h 31) 7).1) I (c_weakest N) (fun g J ge => by
    have e31 : g 31 = h 31 := ge 31 (by omega) (by omega)
    obtain ⟨h1, e, K⟩ := m_weakest (h := g) (n := n) (m := m) (by rw [e31]; exact N.1.1) J.2.2.2.2
    rw [e31] at e
    exact ⟨h1, e, K⟩)
theorem sp_18 {a : Nat → Int32} {h : Hp} (I : Inv h) : ∃ h' n, St_18 a h h' n ∧ n ≤ 1 ∧ Inv h' := by
  obtain ⟨⟨n, m, N⟩, _⟩ := id I
  have g := N.1
  have h8 := g.1.2.1
  have H := N.2.1
  have cn := H.2.2.2.1.1
  rcases argI (a 1) (n := n) (by omega) with ⟨i, hi, e1⟩ | hx
  · have inm : ∀ q, q 31 = h 31 → f_X12_pulls (a 1) q = Option.bind (f_X12_throwsIf (b2i (falB (h 31) i)) 2 (up1 q 30 0 0)) fun r_8 => if r_8.1 then some (0, r_8.2) else Option.bind (f_X12_pullsOf (nI i) r_8.2) fun r_11 => some (r_11.1, r_11.2) := fun q qe => by
      have qq : (up1 q 30 0 0) 31 = h 31 := by rw [up1_ob (by decide), qe]
      unfold f_X12_pulls
      rw [bnd_eq, e1, noH_i (by rw [qq]; exact g.1.1) h8 hi, tIf, obS]
      dsimp only
      rw [tff, m_isF (by omega), obS, qq]
    cases hu : falB (h 31) i
    · have up : upB n (h 31) i = true := by rw [up_fal hi, hu]; rfl
      obtain ⟨h1, c1, K1⟩ := c_pulledBy N hi
      obtain ⟨h', k, s, l, J⟩ := qOk (c := f_X11_pulls (a 1)) (md := f_X12_pulls (a 1)) I ⟨h1, by
          unfold f_X11_pulls
          rw [e1, ckH_i cn h8 hi, obS, exOk, ckU_i H h8 up, obS, exOk, c1, obS], K1⟩ (fun q J qe => by
          have w := w30' qe
          obtain ⟨h', e2, K2, z⟩ := m_pullsOf (h := up1 q 30 0 0) (n := n) (m := m) (i := i) (by rw [w]; exact g) (by rw [up1_at, upd_ob (by decide)]; exact J.2.2.2.2) hi
          rw [w] at e2
          refine ⟨h', ?_, by rw [z, up1_at, upd_at], KM_trans KM_0 K2⟩
          rw [inm q (qe 31 (by omega) (by omega)), hu, tIf, obS]
          dsimp only
          rw [tff, e2, obS])
      exact ⟨h', k, Or.inl s, l, J⟩
    · have up : upB n (h 31) i = false := by rw [up_fal hi, hu]; rfl
      obtain ⟨h', k, s, l, J⟩ := qEr (c := f_X11_pulls (a 1)) (md := f_X12_pulls (a 1)) (E := "java/lang/IllegalStateException") (t := 2) I ⟨h, by
        unfold f_X11_pulls
        rw [e1, ckH_i cn h8 hi, obS, exOk, ckU_x H h8 (by omega) up, obS, exEr], KC_refl h⟩ (fun q _ qe => bE (by
        rw [inm q (qe 31 (by omega) (by omega)), hu, tIt, obS]; rfl))
      exact ⟨h', k, Or.inr (Or.inr s), l, J⟩
  · obtain ⟨h', k, s, l, J⟩ := qEr (c := f_X11_pulls (a 1)) (md := f_X12_pulls (a 1)) (E := "java/lang/IndexOutOfBoundsException") (t := 1) I ⟨h, by
        unfold f_X11_pulls
        rw [ckH_x cn h8 hx, obS, exEr], KC_refl h⟩ (fun q _ qe => bE (by
        unfold f_X12_pulls
        rw [bnd_eq, noH_x (by rw [w30' qe]; exact g.1.1) h8 hx, tIt, obS]; rfl))
    exact ⟨h', k, Or.inr (Or.inl s), l, J⟩
/-- pulled by the house i -/
def plN (n m : Nat) (w : Row) (i : Nat) : Nat := 1 + fcN n m (w 4) (goneW i m w)
def kyF (n m : Nat) (w : Row) (j : Nat) (s : Int32 × Nat) : Int32 × Nat := if upB n w j then (if s.2 < plN n m w j then (nI j, plN n m w j) else s) else s
def kyW (n m : Nat) (w : Row) (N : Nat) : Int32 × Nat := fldN (kyF n m w) (-1, 0) N
theorem pl_9 {n m i : Nat} {w : Row} (g : Gd n m w) (hi : i < n) : plN n m w i ≤ 9 := by
  have := fc_8 (e := w 4) (gone_Gd hi g).1
  unfold plN; omega
theorem ky_9 {n m : Nat} {w : Row} (g : Gd n m w) : ∀ N, (kyW n m w N).2 ≤ 9
  | 0 => by show (0 : Nat) ≤ 9; omega
  | N + 1 => by
    have ih := ky_9 g N
    show (kyF n m w N (kyW n m w N)).2 ≤ 9
    unfold kyF
    by_cases u : upB n w N = true
    · rw [if_pos u]
      split
      · exact pl_9 g (upB_lt u)
      · exact ih
    · rw [if_neg u]; exact ih
theorem sp_19 {a : Nat → Int32} {h : Hp} (I : Inv h) : ∃ h' n, St_19 a h h' n ∧ n ≤ 1 ∧ Inv h' := by
  obtain ⟨⟨n, m, N⟩, _⟩ := id I
  have g := N.1
  have h8 := g.1.2.1
  refine qNo (c := f_X11_key) (md := f_X12_key) (v := (kyW n m (h 31) n).1) I ?_ (fun p J ge => ?_)
  · have Q := loopW S_X11_key_6 (fun _ _ _ _ => none) (fun q (s : Nat × Hp) => q (kyW n m (h 31) s.1).1 (nI (kyW n m (h 31) s.1).2) (nI s.1) s.2) 8 (fun j s => s.1 = j ∧ KC h s.2)
      (fun r => ∃ h1, r = some ((kyW n m (h 31) n).1, h1) ∧ KC h h1) (by omega) (fun j s hj hs => ?_) (fun s hs => ?_) (0, h) ⟨rfl, KC_refl h⟩
    · exact Q
    · obtain ⟨j', u⟩ := s
      dsimp only at hs
      obtain ⟨hj', K⟩ := hs
      obtain rfl : j' = j := hj'
      have Nu := NOW_KC N K
      have u31 := KC_31 K
      have b := ky_9 g j'
      cases hu : upB n (h 31) j'
      · refine ⟨(j' + 1, u), ⟨rfl, K⟩, fun q => ?_⟩
        show S_X11_key_6 q (kyW n m (h 31) j').1 (nI (kyW n m (h 31) j').2) (nI j') u = q (kyF n m (h 31) j' (kyW n m (h 31) j')).1 (nI (kyF n m (h 31) j' (kyW n m (h 31) j')).2) (nI (j' + 1)) u
        unfold S_X11_key_6 F_X11_key_32 kyF
        rw [show (8 : Int32) = nI 8 from rfl, if_pos ((nI_ltI (by omega) (by omega)).mpr hj), c_isUp Nu.2.1 h8 (by omega), u31, hu, tff, tff, if_neg (nI_pos (by omega)), nI_1]
      · have hjn := upB_lt hu
        obtain ⟨u', e1, K1⟩ := c_pulledBy Nu hjn
        rw [u31] at e1
        refine ⟨(j' + 1, u'), ⟨rfl, KC_trans K K1⟩, fun q => ?_⟩
        have b2 := pl_9 g hjn
        show S_X11_key_6 q (kyW n m (h 31) j').1 (nI (kyW n m (h 31) j').2) (nI j') u = q (kyF n m (h 31) j' (kyW n m (h 31) j')).1 (nI (kyF n m (h 31) j' (kyW n m (h 31) j')).2) (nI (j' + 1)) u'
        unfold S_X11_key_6 F_X11_key_32 kyF
        rw [show (8 : Int32) = nI 8 from rfl, if_pos ((nI_ltI (by omega) (by omega)).mpr hj), c_isUp Nu.2.1 h8 (by omega), u31, hu, ttt, ttt, e1, obS]
        show (if nI (kyW n m (h 31) j').2 < nI (plN n m (h 31) j') then _ else _) = _
        by_cases c : (kyW n m (h 31) j').2 < plN n m (h 31) j'
        · rw [if_pos ((nI_ltI (by omega) (by omega)).mpr c), if_pos c, nI_1]; rfl
        · rw [if_neg (fun z => c ((nI_ltI (by omega) (by omega)).mp z)), if_neg c, nI_1]
    · obtain ⟨j', u⟩ := s
      dsimp only at hs
      obtain ⟨hj', K⟩ := hs
      obtain rfl : j' = 8 := hj'
      have ex : kyW n m (h 31) 8 = kyW n m (h 31) n := fldN_ext 8 h8 fun k x c _ => by unfold kyF; rw [upB_hi c, tff]
      exact ⟨_, ⟨u, rfl, K⟩, fun q => by
        show S_X11_key_6 q (kyW n m (h 31) 8).1 (nI (kyW n m (h 31) 8).2) (nI 8) u = _
        unfold S_X11_key_6
        rw [show (8 : Int32) = nI 8 from rfl, if_neg (by decide), ex]⟩
  · have p31 : p 31 = h 31 := ge 31 (by omega) (by omega)
    have Q := loopW S_X12_key_11 (fun _ _ _ _ => none) (fun q (s : Nat × Hp) => q (kyW n m (h 31) s.1).1 (nI (kyW n m (h 31) s.1).2) (nI s.1) s.2) n (fun j s => s.1 = j ∧ KM p s.2)
      (fun r => ∃ h1, r = some ((kyW n m (h 31) n).1, h1) ∧ KM p h1) (by omega) (fun j s hj hs => ?_) (fun s hs => ?_) (0, up1 p 30 0 0) ⟨rfl, KM_0⟩
    · unfold f_X12_key
      rw [bnd_eq]
      exact Q
    · obtain ⟨j', u⟩ := s
      dsimp only at hs
      obtain ⟨hj', K⟩ := hs
      obtain rfl : j' = j := hj'
      have u31 : u 31 = h 31 := (K.1 31 (by omega)).trans p31
      have u21 : u 30 21 = 0 := (K.2 21 (by decide) (by decide) (by decide)).trans J.2.2.2.2
      have b := ky_9 g j'
      cases hu : falB (h 31) j'
      · obtain ⟨u', e1, K1, _⟩ := m_pullsOf (h := u) (n := n) (m := m) (i := j') (by rw [u31]; exact g) u21 hj
        rw [u31] at e1
        refine ⟨(j' + 1, u'), ⟨rfl, KM_trans K K1⟩, fun q => ?_⟩
        have b2 := pl_9 g hj
        show S_X12_key_11 q (kyW n m (h 31) j').1 (nI (kyW n m (h 31) j').2) (nI j') u = q (kyF n m (h 31) j' (kyW n m (h 31) j')).1 (nI (kyF n m (h 31) j' (kyW n m (h 31) j')).2) (nI (j' + 1)) u'
        unfold S_X12_key_11 F_X12_key_36 F_X12_key_49 kyF
        rw [m_houses, u31, itP g.1.1 hj (by omega), m_isF (by omega), u31, obS, hu, tff, e1, obS, up_fal hj, hu, show (!false) = true from rfl, ttt]
        show (if nI (kyW n m (h 31) j').2 < nI (plN n m (h 31) j') then bnd (imax _ (nI (plN n m (h 31) j'))) _ else bnd (imax _ (nI (plN n m (h 31) j'))) _) = _
        rw [zmax (by omega) (by omega)]
        by_cases c : (kyW n m (h 31) j').2 < plN n m (h 31) j'
        · rw [if_pos ((nI_ltI (by omega) (by omega)).mpr c), if_pos c, bnd_eq, nI_1, Nat.max_eq_right (by omega)]
        · rw [if_neg (fun z => c ((nI_ltI (by omega) (by omega)).mp z)), if_neg c, bnd_eq, nI_1, Nat.max_eq_left (by omega)]
      · refine ⟨(j' + 1, u), ⟨rfl, K⟩, fun q => ?_⟩
        show S_X12_key_11 q (kyW n m (h 31) j').1 (nI (kyW n m (h 31) j').2) (nI j') u = q (kyF n m (h 31) j' (kyW n m (h 31) j')).1 (nI (kyF n m (h 31) j' (kyW n m (h 31) j')).2) (nI (j' + 1)) u
        unfold S_X12_key_11 F_X12_key_36 F_X12_key_49 kyF
        rw [m_houses, u31, itP g.1.1 hj (by omega), m_isF (by omega), u31, obS, hu, ttt, up_fal hj, hu, show (!true) = false from rfl, tff, if_neg (nI_pos (by omega)), bnd_eq, nI_1, show (0 : Int32) = nI 0 from rfl, zmax (by omega) (by omega), Nat.max_eq_left (by omega)]
    · obtain ⟨j', u⟩ := s
      dsimp only at hs
      obtain ⟨hj', K⟩ := hs
      obtain rfl : n = j' := hj'.symm
      have u31 : u 31 = h 31 := (K.1 31 (by omega)).trans p31
      exact ⟨_, ⟨u, rfl, K⟩, fun q => by
        show S_X12_key_11 q (kyW n m (h 31) n).1 (nI (kyW n m (h 31) n).2) (nI n) u = _
        unfold S_X12_key_11
        rw [m_houses, u31, itN g.1.1 (by omega)]⟩
