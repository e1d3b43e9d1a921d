/-! LAYER 4. A city without someone; person, swap -/
theorem c_put {c n m p : Nat} {h : Hp} {w : Row} {x : Int32} (H : CV0 c h n m w) (h6 : m ≤ 6) (hp : p < m) : f_X1_put c (nI p) x h = some (up1 h (c + 6) p x) := by
  unfold f_X1_put
  rw [c_isPerson H.2.2.2.1.2.1 h6 (by omega), decide_eq_true hp, ttt, gdT (nI_ix (by omega) (by omega)), bnd_eq, nI_clamp (by omega)]
/-- someone's place written -/
def plW (w : Row) (p : Nat) (x : Int32) : Row := upd w (114 + 3 * p) x
theorem plW_Gd {n m p : Nat} {w : Row} {x : Int32} (g : Gd n m w) (hp : p < m) (hx : x = -1 ∨ ∃ i, i < n ∧ falB w i = false ∧ x = nI i) : Gd n m (plW w p x) :=
  Gd_1 g (by have := g.1.2.2.2.1; omega) (by have := g.1.2.2.2.1; omega) (by omega) (fun _ _ _ => by omega) (fun _ _ _ _ _ => by omega) (fun _ _ _ => hx) (fun _ _ _ => by omega)
theorem plW_ob {w : Row} {p k : Nat} {x : Int32} (h : k ≠ 114 + 3 * p) : plW w p x k = w k := upd_ob h
theorem pr_put {r : Hp} {n m p : Nat} {w : Row} {x : Int32} (h6 : m ≤ 6) (hp : p < m) (V : CV0 116 r n m w) (G : LG 116 r w) (g : GdL w) (L : LV 500 r w) :
    f_X1_put 116 (nI p) x r = some (up1 r 122 p x) ∧ CV0 116 (up1 r 122 p x) n m (plW w p x) ∧ LG 116 (up1 r 122 p x) (plW w p x) ∧ LV 500 (up1 r 122 p x) (plW w p x) ∧ ∀ k, k ≠ 122 → (up1 r 122 p x) k = r k :=
  ⟨c_put V h6 hp, CV0_put V h6 hp up1_at (fun k hk => up1_ob hk), LG_cg (fun k hk => plW_ob (by omega)) (LG_fr G fun k x y => up1_ob (by omega)), LV_cg g (fun k hk => plW_ob (by omega)) (LV_fr L fun k x y => up1_ob (by omega)), fun k hk => up1_ob hk⟩
theorem c_fallsWithout {h : Hp} {n m p e : Nat} (N : NOW n m h) (hp : p < m) (he : e < 7) : ∃ h1, f_X11_fallsWithout (nI p) (nI e) h = some ((fallW n m (nI e) 0 (plW (h 31) p (-1))).1, h1) ∧ KC h h1 := by
  have g := N.1
  have h6 := g.1.2.2.2.1
  obtain ⟨r, e1, K1, V, G, L, _⟩ := c_probe N
  obtain ⟨e2, V2, G2, L2, f2⟩ := pr_put (x := -1) h6 hp V G g.1.2.2.2.2 L
  obtain ⟨h1, e3, _, _, _, _, _, f3⟩ := c_fall (c := 116) (r := 500) (e := e) (by decide) (Or.inl (by decide)) (by decide) (plW_Gd g hp (Or.inl rfl)) V2 (LG_LW G2) L2 he
  refine ⟨h1, ?_, KC_trans K1 (KC_trans (fun k hk => f2 k (by omega)) (KC_pr f3))⟩
  unfold f_X11_fallsWithout
  rw [e1, obS, e2, obS, e3, obS]
def ndV (n m : Nat) (w : Row) (e : Int32) (p : Nat) : Int32 := (fallW n m e 0 (plW w p (-1))).1 &&& ((fallW n m e 0 w).1 ^^^ (-1))
theorem m_needsOf {h : Hp} {n m p : Nat} {e : Int32} (g : Gd n m (h 31)) (h21 : h 30 21 = 0) (hp : p < m) : ∃ h1, f_X12_needsOf (nI p) e h = some (ndV n m (h 31) e p, h1) ∧ KM h h1 ∧ h1 30 0 = h 30 0 := by
  have h6 := g.1.2.2.2.1
  obtain ⟨u, e1, _, u31, K1, z1⟩ := m_fallsIn (e := e) g.1 h21
  obtain ⟨v, hv⟩ : ∃ v, upA u 34 (mixR (u 31) (u 34) 492) = v := ⟨_, rfl⟩
  have vo : ∀ k, k ≠ 34 → v k = u k := fun k x => by rw [← hv, upA_ob x]
  have v31 : v 31 = h 31 := (vo 31 (by decide)).trans u31
  have Kv : KEPT (h 31) v := by rw [← u31, ← hv]; exact keep_K
  obtain ⟨t, ht⟩ : ∃ t, up1 v 31 (114 + 3 * p) (-1) = t := ⟨_, rfl⟩
  have t31 : t 31 = plW (h 31) p (-1) := by rw [← ht, up1_at, v31]; rfl
  have to : ∀ k, k ≠ 31 → t k = v k := fun k x => by rw [← ht, up1_ob x]
  have Kt : KEPT (h 31) t := ⟨fun k hk => by rw [to 34 (by decide)]; exact Kv.1 k hk, fun k hk => by rw [t31]; exact plW_ob (by omega)⟩
  obtain ⟨h1, e2, w1, _, K2⟩ := m_wouldFall (h := t) (n := n) (m := m) (e := e) (w0 := h 31) (by rw [t31]; exact (plW_Gd g hp (Or.inl rfl)).1) (by rw [to 30 (by decide), vo 30 (by decide), K1.2 21 (by decide) (by decide) (by decide)]; exact h21) Kt
  rw [t31] at e2
  refine ⟨h1, ?_, ⟨fun k hk => ?_, fun k x0 x y => by rw [K2.2 k x y, to 30 (by decide), vo 30 (by decide), K1.2 k x0 x y]⟩, by rw [K2.2 0 (by decide) (by decide), to 30 (by decide), vo 30 (by decide)]; exact z1⟩
  · unfold f_X12_needsOf
    rw [e1, obS]
    dsimp only
    rw [m_keepsM, obS, hv, show f_X12_personAt (nI p) 0 v = nI (114 + 3 * p) from m_personAtI (w := 0), gdT (nI_ix (by omega) (by omega)), bnd_eq, nI_clamp (by omega), ht, e2, obS]
    rfl
  · by_cases c : k = 31
    · rw [c, w1]
    · rw [K2.1 k (by omega), to k c, vo k (by omega), K1.1 k (by omega)]
theorem sp_7 {a : Nat → Int32} {h : Hp} (I : Inv h) : ∃ h' n, St_7 a h h' n ∧ n ≤ 1 ∧ Inv h' := by
  obtain ⟨⟨n, m, N⟩, _⟩ := id I
  have g := N.1
  have h6 := g.1.2.2.2.1
  have H := N.2.1
  have cm := H.2.2.2.1.2.1
  obtain ⟨e, he, ee⟩ := g.2.2.2.2.1
  rcases argI (a 1) (n := m) (by omega) with ⟨p, hp, e1⟩ | hx
  · have inc : f_X11_person (a 1) (a 2) h = (if a 2 = 0 then some (Except.ok (atR (h 31) p), h) else if a 2 = 1 then some (Except.ok (hdR (h 31) p), h) else if a 2 = 2 then some (Except.ok (cmR (h 31) p), h) else if a 2 = 3 then Option.bind (f_X11_fallsWithout (nI p) (h 100 12) h) fun r_17 => Option.bind (f_X11_fallsNow (r_17.2 100 12) r_17.2) fun r_19 => some (Except.ok (r_17.1 &&& (r_19.1 ^^^ (-1))), r_19.2)
        else some (Except.error "java/util/NoSuchElementException", h)) := by
      unfold f_X11_person
      rw [e1, ckP_i cm h6 hp, obS, exOk, c_placeOf H h6 (by omega), c_holdOf H h6 (by omega), c_daysOf H h6 (by omega), obS, obS, obS, if_pos hp, if_pos hp, if_pos hp]
    have inm : ∀ q, q 31 = h 31 → f_X12_person (a 1) (a 2) q = (if f_X12_in (a 2) (nI 0) (nI 3) (up1 q 30 0 0) = true then F_X12_person_33 (nI p) (a 2) 0 (up1 q 30 0 0) else F_X12_person_33 (nI p) (a 2) 1 (up1 q 30 0 0)) := fun q qe => by
      have qq : (up1 q 30 0 0) 31 = h 31 := by rw [up1_ob (by decide), qe]
      unfold f_X12_person
      rw [bnd_eq, e1, noP_i (by rw [qq]; exact g.1.2.2.1) h6 hp, tIf, obS]
      dsimp only
      rw [tff]; rfl
    rcases argR (a 2) 0 3 (by omega) (by omega) with r2 | r2
    · have in0 : ∀ q, q 31 = h 31 → f_X12_person (a 1) (a 2) q = if a 2 = 3 then Option.bind (f_X12_needsOf (nI p) (h 31 4) (up1 q 30 0 0)) fun r_5 => some (r_5.1, r_5.2) else Option.bind (f_X12_ofPerson (nI p) (a 2) (up1 q 30 0 0)) fun r_7 => some (r_7, up1 q 30 0 0) := fun q qe => by
        have qq : (up1 q 30 0 0) 31 = h 31 := by rw [up1_ob (by decide), qe]
        rw [inm q qe, inRt (by omega) r2, ttt]
        unfold F_X12_person_33
        rw [tI0, obS]
        dsimp only
        rw [tff, qq]
      obtain ⟨k, _, hk, ek⟩ := r2
      by_cases k3 : k = 3
      · subst k3
        have a3 : a 2 = 3 := ek
        obtain ⟨h1, c1, K1⟩ := c_fallsWithout N hp (show e < 7 by omega)
        obtain ⟨h2, c2, K2, _⟩ := c_fallsNow (NOW_KC N K1) (show e < 7 by omega)
        rw [KC_31 K1] at c2
        obtain ⟨h', j, s, l, J⟩ := qOk (c := f_X11_person (a 1) (a 2)) (md := f_X12_person (a 1) (a 2)) (v := ndV n m (h 31) (nI e) p) I ⟨h2, by
            have x1 : h 100 12 = nI e := H.2.2.2.2.1.trans ee
            have x2 : h1 100 12 = nI e := by rw [K1 100 (by omega)]; exact x1
            rw [inc, a3, if_neg (by decide), if_neg (by decide), if_neg (by decide), if_pos rfl, x1, c1, obS]
            dsimp only
            rw [x2, c2, obS]
            rfl, KC_trans K1 K2⟩ (fun q J qe => by
            have w := w30' qe
            obtain ⟨h', e2, K2, z⟩ := m_needsOf (h := up1 q 30 0 0) (n := n) (m := m) (p := p) (e := h 31 4) (by rw [w]; exact g) (by rw [up1_at, upd_ob (by decide)]; exact J.2.2.2.2) hp
            rw [w] at e2
            refine ⟨h', ?_, by rw [z, up1_at, upd_at], KM_trans KM_0 K2⟩
            rw [in0 q (qe 31 (by omega) (by omega)), if_pos a3, e2, obS, ee])
        exact ⟨h', j, Or.inl s, l, J⟩
      · have a3 : ¬ a 2 = 3 := by rw [ek]; exact fun z => k3 ((nI_eq (b := 3) (by omega) (by omega)).mp z)
        obtain ⟨h', j, s, l, J⟩ := qOk (c := f_X11_person (a 1) (a 2)) (md := f_X12_person (a 1) (a 2)) (v := h 31 (114 + 3 * p + k)) I ⟨h, by
            rw [inc]
            obtain rfl | rfl | rfl : k = 0 ∨ k = 1 ∨ k = 2 := by omega
            · rw [if_pos (show a 2 = 0 from ek)]; rfl
            · rw [ek, if_neg (by decide), if_pos (show nI 1 = 1 from rfl)]; rfl
            · rw [ek, if_neg (by decide), if_neg (by decide), if_pos (show nI 2 = 2 from rfl)]; rfl, KC_refl h⟩ (fun q J qe => by
            have w := w30' qe
            refine ⟨up1 q 30 0 0, ?_, up1_same, KM_0⟩
            rw [in0 q (qe 31 (by omega) (by omega)), if_neg a3, ek, m_ofPerson (by omega) (by omega), obS, w])
        exact ⟨h', j, Or.inl s, l, J⟩
    · obtain ⟨h', j, s, l, J⟩ := qEr (c := f_X11_person (a 1) (a 2)) (md := f_X12_person (a 1) (a 2)) (E := "java/util/NoSuchElementException") (t := 2) I ⟨h, by
        have ne : ∀ k, k ≤ 3 → ¬ a 2 = nI k := fun k hk z => by
          rcases r2 with q | q
          · rw [z] at q; exact nI_pos (by omega) q
          · rw [z] at q; exact absurd ((nI_ltI (by omega) (by omega)).mp q) (by omega)
        rw [inc, if_neg (show ¬ a 2 = 0 from ne 0 (by omega)), if_neg (show ¬ a 2 = 1 from ne 1 (by omega)), if_neg (show ¬ a 2 = 2 from ne 2 (by omega)), if_neg (show ¬ a 2 = 3 from ne 3 (by omega))], KC_refl h⟩ (fun q _ qe => bE (by
        rw [inm q (qe 31 (by omega) (by omega)), inRf r2, tff]
        unfold F_X12_person_33
        rw [tI1, obS]; rfl))
      exact ⟨h', j, Or.inr (Or.inr s), l, J⟩
  · obtain ⟨h', k, s, l, J⟩ := qEr (c := f_X11_person (a 1) (a 2)) (md := f_X12_person (a 1) (a 2)) (E := "java/lang/IndexOutOfBoundsException") (t := 1) I ⟨h, by
        unfold f_X11_person
        rw [ckP_x cm h6 hx, obS, exEr], KC_refl h⟩ (fun q _ qe => bE (by
        unfold f_X12_person
        rw [bnd_eq, noP_x (by rw [w30' qe]; exact g.1.2.2.1) h6 hx, tIt, obS]; rfl))
    exact ⟨h', k, Or.inr (Or.inl s), l, J⟩
