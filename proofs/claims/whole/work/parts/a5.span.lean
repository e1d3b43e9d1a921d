/-! LAYER 4. span -/
def spN (n m N1 : Nat) (w : Row) (s : Nat) : Nat := cnt (upS (goW false n m (upd w 9 (nI s)) N1)) n
def mnS (f : Nat → Nat) : Nat → Nat
  | 0 => 8
  | j + 1 => min (mnS f j) (f (j + 1))
def mxS (f : Nat → Nat) : Nat → Nat
  | 0 => 0
  | j + 1 => max (mxS f j) (f (j + 1))
theorem mm_8 {f : Nat → Nat} (h : ∀ j, f j ≤ 8) : ∀ j, mnS f j ≤ 8 ∧ mxS f j ≤ 8
  | 0 => ⟨by show (8 : Nat) ≤ 8; omega, by show (0 : Nat) ≤ 8; omega⟩
  | j + 1 => by
    have := mm_8 h j
    have := h (j + 1)
    show min (mnS f j) (f (j + 1)) ≤ 8 ∧ max (mxS f j) (f (j + 1)) ≤ 8
    omega
theorem sp_8le {n m N1 : Nat} {w : Row} (h8 : n ≤ 8) (s : Nat) : spN n m N1 w s ≤ 8 := by
  have := cnt_le (upS (goW false n m (upd w 9 (nI s)) N1)) n
  unfold spN; omega
theorem c_seedRun {h : Hp} {n m N1 s : Nat} (N : NOW n m h) (hN : N1 ≤ 70) : ∃ r h1, f_X1_copyFrom 116 100 h = some r ∧ f_X3_run 116 500 (nI N1) 1 (up1 r 116 17 (nI s)) = some h1 ∧ KC h h1 ∧ ∀ u, f_J6_bitCount_0f7a4 (h1 116 11) u = nI (spN n m N1 (h 31) s) := by
  have g := N.1
  have h6 := g.1.2.2.2.1
  obtain ⟨r, e1, K1, V, G, L, _⟩ := c_probe N
  have V2 : CV0 116 (up1 r 116 17 (nI s)) n m (upd (h 31) 9 (nI s)) := CV0_seed V h6 up1_at (fun k hk => up1_ob hk)
  have G2 : LG 116 (up1 r 116 17 (nI s)) (upd (h 31) 9 (nI s)) := LG_cg (fun k hk => upd_ob (by omega)) (LG_fr G fun k x y => up1_ob (by omega))
  have L2 : LV 500 (up1 r 116 17 (nI s)) (upd (h 31) 9 (nI s)) := LV_cg g.1.2.2.2.2 (fun k hk => upd_ob (by omega)) (LV_fr L fun k x y => up1_ob (by omega))
  obtain ⟨h1, e2, V1, _, _, f⟩ := c_run (c := 116) (r := 500) (N := N1) (b := true) (by decide) (Or.inl (by decide)) (by decide) (seed_Gd g) V2 (LG_LW G2) L2 hN
  exact ⟨r, h1, e1, e2, KC_trans K1 (KC_trans (fun k hk => up1_ob (by omega)) (KC_pr f)), fun u => c_cntUp (w := goW false n m (upd (h 31) 9 (nI s)) N1) V1 g.1.2.1 u⟩
theorem c_span {h : Hp} {n m N1 : Nat} {y : Int32} (N : NOW n m h) (hN : N1 ≤ 70) : ∃ h1, F_X11_span_16 (nI N1) y FU 8 0 1 h = some (Except.ok (if y = 0 then nI (mnS (spN n m N1 (h 31)) 6) else nI (mxS (spN n m N1 (h 31)) 6)), h1) ∧ KC h h1 := by
  obtain ⟨f, hf⟩ : ∃ f, spN n m N1 (h 31) = f := ⟨_, rfl⟩
  have f8 : ∀ j, f j ≤ 8 := fun j => by rw [← hf]; exact sp_8le N.1.1.2.1 j
  have Q := loopW (S_X11_span_16 (nI N1) y) (fun _ _ _ _ => none) (fun q (s : Nat × Hp) => q (nI (mnS f s.1)) (nI (mxS f s.1)) (nI (s.1 + 1)) s.2) 6 (fun j s => s.1 = j ∧ KC h s.2)
    (fun r => ∃ h1, r = some (Except.ok (if y = 0 then nI (mnS f 6) else nI (mxS f 6)), h1) ∧ KC h h1) (by omega) (fun j s hj hs => ?_) (fun s hs => ?_) (0, h) ⟨rfl, KC_refl h⟩
  · rw [hf]; exact Q
  · obtain ⟨j', u⟩ := s
    dsimp only at hs
    obtain ⟨hj', K⟩ := hs
    obtain rfl : j' = j := hj'
    obtain ⟨r, u', e1, e2, K2, b⟩ := c_seedRun (s := j' + 1) (NOW_KC N K) hN
    rw [KC_31 K, hf] at b
    have b8 := mm_8 f8 j'
    have c8 := f8 (j' + 1)
    refine ⟨(j' + 1, u'), ⟨rfl, KC_trans K K2⟩, fun q => ?_⟩
    show S_X11_span_16 (nI N1) y q (nI (mnS f j')) (nI (mxS f j')) (nI (j' + 1)) u = q (nI (min (mnS f j') (f (j' + 1)))) (nI (max (mxS f j') (f (j' + 1)))) (nI (j' + 1 + 1)) u'
    unfold S_X11_span_16
    rw [show (6 : Int32) = nI 6 from rfl, if_neg (fun z => absurd ((nI_ltI (by omega) (by omega)).mp z) (by omega)), e1, obS, bnd_eq, e2, obS, bnd_eq, b, bnd_eq, bnd_eq, nI_1, zmin (by omega) (by omega), zmax (by omega) (by omega)]
  · obtain ⟨j', u⟩ := s
    dsimp only at hs
    obtain ⟨hj', K⟩ := hs
    obtain rfl : j' = 6 := hj'
    refine ⟨_, ⟨u, rfl, K⟩, fun q => ?_⟩
    show S_X11_span_16 (nI N1) y q (nI (mnS f 6)) (nI (mxS f 6)) (nI (6 + 1)) u = _
    unfold S_X11_span_16
    rw [if_pos (by decide)]
    by_cases z : y = 0
    · rw [if_pos z, if_pos z]
    · rw [if_neg z, if_neg z]
theorem m_span {p : Hp} {n m N1 : Nat} {y : Int32} (g : Gd n m (p 31)) (h21 : p 30 21 = 0) (hN : N1 ≤ 70) : ∃ r h1, f_X12_keepsAll p = some r ∧ F_X12_span_28 (nI N1) y FU (-1) 1 r = some ((if y = 0 then nI (mnS (spN n m N1 (p 31)) 6) else nI (mxS (spN n m N1 (p 31)) 6)), h1) ∧ KM p h1 ∧ h1 30 0 = p 30 0 := by
  obtain ⟨f, hf⟩ : ∃ f, spN n m N1 (p 31) = f := ⟨_, rfl⟩
  have h8 := g.1.2.1
  have f8 : ∀ j, f j ≤ 8 := fun j => by rw [← hf]; exact sp_8le h8 j
  obtain ⟨r, hr⟩ : ∃ r, upA p 34 (mixR (p 31) (p 34) 492) = r := ⟨_, rfl⟩
  have ro : ∀ k, k ≠ 34 → r k = p k := fun k x => by rw [← hr, upA_ob x]
  have Kr : KEPT (p 31) r := by rw [← hr]; exact keep_K
  have Q := loopW (S_X12_span_28 (nI N1) y) (fun _ _ _ => none) (fun q (s : (Nat × Int32) × Hp) => q s.1.2 (nI (s.1.1 + 1)) s.2) 6
    (fun j s => s.1.1 = j ∧ s.1.2 = (if j = 0 then -1 else if y = 0 then nI (mnS f j) else nI (mxS f j)) ∧ s.2 31 = p 31 ∧ KEPT (p 31) s.2 ∧ KT r s.2)
    (fun x => ∃ h1, x = some ((if y = 0 then nI (mnS f 6) else nI (mxS f 6)), h1) ∧ KM p h1 ∧ h1 30 0 = p 30 0) (by omega) (fun j s hj hs => ?_) (fun s hs => ?_) ((0, -1), r) ⟨rfl, rfl, ro 31 (by decide), Kr, ⟨fun _ _ => rfl, fun _ _ _ => rfl⟩⟩
  · obtain ⟨h1, e, K⟩ := Q
    exact ⟨r, h1, by rw [m_keepsM, hr], by rw [hf]; exact e, K⟩
  · obtain ⟨⟨j', x⟩, u⟩ := s
    dsimp only at hs
    obtain ⟨hj', hx, u31, Ku, Kt⟩ := hs
    obtain rfl : j' = j := hj'
    have gs : Gd n m (upd (p 31) 9 (nI (j' + 1))) := seed_Gd g
    obtain ⟨t, ht⟩ : ∃ t, up1 u 31 9 (nI (j' + 1)) = t := ⟨_, rfl⟩
    have t31 : t 31 = upd (p 31) 9 (nI (j' + 1)) := by rw [← ht, up1_at, u31]
    have to : ∀ k, k ≠ 31 → t k = u k := fun k x => by rw [← ht, up1_ob x]
    obtain ⟨v, e, w1, E3, F3⟩ := m_goesOn (h := t) (n := n) (m := m) (N := N1) (calm := false) (by rw [t31]; exact gs.1) (by rw [to 30 (by decide), Kt.2 21 (by decide) (by decide), ro 30 (by decide)]; exact h21) (by omega)
    rw [t31] at w1
    have Kv : KEPT (p 31) v := ⟨fun k hk => by rw [F3 34 (by decide) (by decide) (by decide) (by decide) (by decide), to 34 (by decide)]; exact Ku.1 k hk, fun k hk => by rw [w1, go_law gs (Or.inr hk), upd_ob (by omega)]⟩
    obtain ⟨z, hz⟩ : ∃ z, upA v 31 (mixR (v 34) (v 31) 492) = z := ⟨_, rfl⟩
    have z31 : z 31 = p 31 := by rw [← hz]; exact back_31 Kv
    have zo : ∀ k, k ≠ 31 → z k = v k := fun k x => by rw [← hz, upA_ob x]
    have Kz : KEPT (p 31) z := ⟨fun k hk => by rw [zo 34 (by decide)]; exact Kv.1 k hk, fun k _ => by rw [z31]⟩
    have Kt' : KT r z := ⟨fun k hk => by rw [zo k (by omega), F3 k (by omega) (by omega) (by omega) (by omega) (by omega), to k (by omega), Kt.1 k hk], fun i a b => by rw [zo 30 (by decide), E3 i a b, to 30 (by decide), Kt.2 i a b]⟩
    have b8 := mm_8 f8 j'
    have c8 := f8 (j' + 1)
    have sd : f_X12_standing v = some (orTo (upS (goW false n m (upd (p 31) 9 (nI (j' + 1))) N1)) n) := by rw [std_eq (n := n) (by rw [w1]; exact (go_Gd gs N1).1.1) h8, w1]
    have bc : ∀ u, f_J6_bitCount_0f7a4 (orTo (upS (goW false n m (upd (p 31) 9 (nI (j' + 1))) N1)) n) u = nI (f (j' + 1)) := fun u => by rw [bcn h8, ← hf]; rfl
    refine ⟨((j' + 1, if y = 0 then nI (mnS f (j' + 1)) else nI (mxS f (j' + 1))), z), ⟨rfl, by rw [if_neg (show ¬ j' + 1 = 0 by omega)], z31, Kz, Kt'⟩, fun q => ?_⟩
    show S_X12_span_28 (nI N1) y q x (nI (j' + 1)) u = q (if y = 0 then nI (min (mnS f j') (f (j' + 1))) else nI (max (mxS f j') (f (j' + 1)))) (nI (j' + 1 + 1)) z
    unfold S_X12_span_28
    rw [show (6 : Int32) = nI 6 from rfl, if_neg (fun z => absurd ((nI_ltI (by omega) (by omega)).mp z) (by omega)), bnd_eq, ht, show f_X12_goesOn (nI N1) 0 t = _ from e, obS]
    dsimp only
    rw [sd, obS, bnd_eq, bc, m_backM, obS, hz, nI_1, hx]
    by_cases j0 : j' = 0
    · subst j0
      rw [if_pos rfl, if_pos (show (-1 : Int32) < 0 by decide)]
      have e1 : min (mnS f 0) (f (0 + 1)) = f (0 + 1) := by show min 8 (f (0 + 1)) = f (0 + 1); omega
      have e2 : max (mxS f 0) (f (0 + 1)) = f (0 + 1) := by show max 0 (f (0 + 1)) = f (0 + 1); omega
      rw [e1, e2, ite_self]
    · rw [if_neg j0]
      by_cases y0 : y = 0
      · rw [if_pos y0, if_pos y0, if_neg (nI_pos (by omega)), if_pos y0, bnd_eq, zmin (by omega) (by omega)]
      · rw [if_neg y0, if_neg y0, if_neg (nI_pos (by omega)), if_neg y0, bnd_eq, zmax (by omega) (by omega)]
  · obtain ⟨⟨j', x⟩, u⟩ := s
    dsimp only at hs
    obtain ⟨hj', hx, u31, Ku, Kt⟩ := hs
    obtain rfl : j' = 6 := hj'
    refine ⟨_, ⟨u, rfl, ?_, by rw [Kt.2 0 (by decide) (by decide), ro 30 (by decide)]⟩, fun q => ?_⟩
    · refine ⟨fun k hk => ?_, fun i _ a b => by rw [Kt.2 i a b, ro 30 (by decide)]⟩
      by_cases c : k = 31
      · rw [c, u31]
      · rw [Kt.1 k (by omega), ro k (by omega)]
    · show S_X12_span_28 (nI N1) y q x (nI (6 + 1)) u = _
      unfold S_X12_span_28
      rw [if_pos (by decide), hx, if_neg (by decide)]
theorem sp_46 {a : Nat → Int32} {h : Hp} (I : Inv h) : ∃ h' n, St_46 a h h' n ∧ n ≤ 1 ∧ Inv h' := by
  obtain ⟨⟨n, m, N⟩, _⟩ := id I
  have g := N.1
  have ca : ∀ u, f_X11_checkAmount (a 1) 0 70 u = f_X11_checkAmount (a 1) (nI 0) (nI 70) u := fun u => rfl
  obtain ⟨y, hy⟩ : ∃ y, nz (a 2) = y := ⟨_, rfl⟩
  unfold St_46
  rw [hy]
  rcases argA (a 1) (b := 70) (by omega) with ⟨N1, hN, e1⟩ | hx
  · obtain ⟨h1, c1, K1⟩ := c_span (y := y) N hN
    obtain ⟨h', k, s, l, J⟩ := qOk (c := f_X11_span (a 1) y) (md := f_X12_span (a 1) y) I ⟨h1, by
        unfold f_X11_span
        rw [ca, ckR (by omega) ⟨N1, by omega, hN, e1⟩, obS, exOk, e1, c1], K1⟩ (fun q J qe => by
        have w := w30' qe
        obtain ⟨r, h', d1, d2, K2, z⟩ := m_span (p := up1 q 30 0 0) (n := n) (m := m) (N1 := N1) (y := y) (by rw [w]; exact g) (by rw [up1_at, upd_ob (by decide)]; exact J.2.2.2.2) hN
        rw [w] at d2
        refine ⟨h', ?_, by rw [z, up1_at, upd_at], KM_trans KM_0 K2⟩
        unfold f_X12_span
        rw [bnd_eq, e1, noA_i hN, tIf, obS]
        dsimp only
        rw [tff, d1, obS, d2])
    exact ⟨h', k, Or.inl s, l, J⟩
  · obtain ⟨h', k, s, l, J⟩ := qEr (c := f_X11_span (a 1) y) (md := f_X12_span (a 1) y) (E := "java/lang/IllegalArgumentException") (t := 1) I ⟨h, by
        unfold f_X11_span
        rw [ca, ckX hx, obS, exEr], KC_refl h⟩ (fun q _ qe => bE (by
        unfold f_X12_span
        rw [bnd_eq, noA_x hx, tIt, obS]; rfl))
    exact ⟨h', k, Or.inr s, l, J⟩
