/-! LAYER 4. odds -/
def odI (v : Int32) : Nat → Int32
  | 0 => 10000
  | k + 1 => (odI v k * (100 - v)) / 100
def plB (m : Nat) (w : Row) (p : Nat) : Bool := decide (p < m) && !decide (atR w p = -1)
theorem c_odds {h : Hp} {n m X : Nat} (N : NOW n m h) (hX : X ≤ 4) : F_X11_odds_12 (nI X) FU 10000 0 h = some (Except.ok (odI (h 31 6) (cnt (plB m (h 31)) 6 * X)), h) := by
  have H := N.2.1
  have h6 := N.1.1.2.2.2.1
  have v6 : h 100 14 = h 31 6 := H.2.2.2.2.2.2.1
  obtain ⟨C, hC⟩ : ∃ C, cnt (plB m (h 31)) 6 = C := ⟨_, rfl⟩
  have Q := loop0 (S_X11_odds_12 (nI X)) (fun _ _ _ => none) (fun j q => q (odI (h 31 6) (C * j)) (nI j) h) X (some (Except.ok (odI (h 31 6) (C * X)), h)) (by omega) (fun j hj q => ?_) (fun q => ?_)
  · rw [hC]; exact Q
  · show S_X11_odds_12 (nI X) q (odI (h 31 6) (C * j)) (nI j) h = q (odI (h 31 6) (C * (j + 1))) (nI (j + 1)) h
    unfold S_X11_odds_12
    rw [if_pos ((nI_ltI (by omega) (by omega)).mpr hj)]
    have Q2 := loop0 (S_X11_odds_20 q (nI X) (nI j)) (fun _ _ _ => none) (fun i k => k (odI (h 31 6) (C * j + cnt (plB m (h 31)) i)) (nI i) h) 6 (q (odI (h 31 6) (C * (j + 1))) (nI (j + 1)) h) (by omega) (fun i hi k => ?_) (fun k => ?_)
    · exact Q2
    · show S_X11_odds_20 q (nI X) (nI j) k (odI (h 31 6) (C * j + cnt (plB m (h 31)) i)) (nI i) h = k (odI (h 31 6) (C * j + (cnt (plB m (h 31)) i + (if plB m (h 31) i then 1 else 0)))) (nI (i + 1)) h
      unfold S_X11_odds_20 plB
      rw [show (6 : Int32) = nI 6 from rfl, if_pos ((nI_ltI (by omega) (by omega)).mpr hi), c_placeOf H h6 (by omega), obS, v6, nI_1]
      by_cases z : i < m
      · rw [if_pos z, decide_eq_true z, Bool.true_and]
        by_cases y : atR (h 31) i = -1
        · rw [if_pos y, decide_eq_true y]; rfl
        · rw [if_neg y, decide_eq_false y, bnd_eq]; rfl
      · rw [if_neg z, decide_eq_false z, Bool.false_and, if_pos (rfl : (-1 : Int32) = -1), tff]; rfl
    · show S_X11_odds_20 q (nI X) (nI j) k (odI (h 31 6) (C * j + cnt (plB m (h 31)) 6)) (nI 6) h = _
      unfold S_X11_odds_20
      rw [show (6 : Int32) = nI 6 from rfl, if_neg (by decide), nI_1, hC, Nat.mul_succ]
  · show S_X11_odds_12 (nI X) q (odI (h 31 6) (C * X)) (nI X) h = _
    unfold S_X11_odds_12
    rw [if_neg (fun z => absurd ((nI_ltI (by omega) (by omega)).mp z) (Nat.lt_irrefl X))]
theorem m_odds {h : Hp} {n m X : Nat} (G : GdN n m (h 31)) (hX : X ≤ 4) : F_X12_odds_35 (nI X) FU 10000 0 h = some (odI (h 31 6) (cnt (plB m (h 31)) m * X), h) := by
  have h6 := G.2.2.2.1
  have Q := loop0 (S_X12_odds_35 (nI X)) (fun _ _ _ => none) (fun j q => q (odI (h 31 6) (cnt (plB m (h 31)) j * X)) (nI j) h) m (some (odI (h 31 6) (cnt (plB m (h 31)) m * X), h)) (by omega) (fun j hj q => ?_) (fun q => ?_)
  · rw [show cnt (plB m (h 31)) 0 = 0 from rfl, Nat.zero_mul] at Q; exact Q
  · show S_X12_odds_35 (nI X) q (odI (h 31 6) (cnt (plB m (h 31)) j * X)) (nI j) h = q (odI (h 31 6) ((cnt (plB m (h 31)) j + (if plB m (h 31) j then 1 else 0)) * X)) (nI (j + 1)) h
    unfold S_X12_odds_35
    rw [m_people, itP G.2.2.1 hj (by omega)]
    obtain ⟨A, hA⟩ : ∃ A, cnt (plB m (h 31)) j * X = A := ⟨_, rfl⟩
    obtain ⟨b, hb⟩ : ∃ b, plB m (h 31) j = b := ⟨_, rfl⟩
    have Q2 := loop0 (S_X12_odds_46 q (nI X) (nI j)) (fun _ _ _ => none) (fun i k => k (odI (h 31 6) (A + (if b then i else 0))) (nI i) h) X (q (odI (h 31 6) (A + (if b then X else 0))) (nI (j + 1)) h) (by omega) (fun i hi k => ?_) (fun k => ?_)
    · rw [hA, hb, Nat.add_mul, hA, show (if b = true then 1 else 0) * X = if b = true then X else 0 by cases b <;> simp]
      rw [ite_self] at Q2
      exact Q2
    · show S_X12_odds_46 q (nI X) (nI j) k (odI (h 31 6) (A + (if b then i else 0))) (nI i) h = k (odI (h 31 6) (A + (if b then i + 1 else 0))) (nI (i + 1)) h
      unfold S_X12_odds_46
      rw [if_pos ((nI_ltI (by omega) (by omega)).mpr hi), m_ofPerson0 (by omega), obS, nI_1, ← hb]
      unfold plB
      rw [decide_eq_true hj, Bool.true_and]
      show (if atR (h 31) j = -1 then _ else _) = _
      by_cases y : atR (h 31) j = -1
      · rw [if_pos y, decide_eq_true y]; rfl
      · rw [if_neg y, decide_eq_false y, bnd_eq]; rfl
    · show S_X12_odds_46 q (nI X) (nI j) k (odI (h 31 6) (A + (if b then X else 0))) (nI X) h = _
      unfold S_X12_odds_46
      rw [if_neg (fun z => absurd ((nI_ltI (by omega) (by omega)).mp z) (Nat.lt_irrefl X)), nI_1]
  · show S_X12_odds_35 (nI X) q (odI (h 31 6) (cnt (plB m (h 31)) m * X)) (nI m) h = _
    unfold S_X12_odds_35
    rw [m_people, itN G.2.2.1 (by omega)]
theorem sp_37 {a : Nat → Int32} {h : Hp} (I : Inv h) : ∃ h' n, St_37 a h h' n ∧ n ≤ 1 ∧ Inv h' := by
  obtain ⟨⟨n, m, N⟩, _⟩ := id I
  have G := N.1.1
  have h6 := G.2.2.2.1
  have ca : ∀ u, f_X11_checkAmount (a 1) 0 4 u = f_X11_checkAmount (a 1) (nI 0) (nI 4) u := fun u => rfl
  have ma : ∀ u, f_X12_in (a 1) 0 4 u = f_X12_in (a 1) (nI 0) (nI 4) u := fun u => rfl
  have ce : cnt (plB m (h 31)) 6 = cnt (plB m (h 31)) m := cnt_ext 6 h6 fun k x _ => by unfold plB; rw [decide_eq_false (by omega)]; rfl
  rcases argR (a 1) 0 4 (by omega) (by omega) with r | r
  · obtain ⟨X, _, hX, e1⟩ := id r
    obtain ⟨h', k, s, l, J⟩ := qOk (c := f_X11_odds (a 1)) (md := f_X12_odds (a 1)) (v := odI (h 31 6) (cnt (plB m (h 31)) m * X)) I ⟨h, by
        unfold f_X11_odds
        rw [ca, ckR (by omega) r, obS, exOk, e1, c_odds N hX, ce], KC_refl h⟩ (fun q J qe => by
        have w := w30' qe
        refine ⟨up1 q 30 0 0, ?_, up1_same, KM_0⟩
        unfold f_X12_odds F_X12_odds_20
        rw [bnd_eq, ma, inRt (by omega) r, ttt, tI0, obS]
        dsimp only
        rw [tff, e1, m_odds (n := n) (m := m) (by rw [w]; exact G) hX, w])
    exact ⟨h', k, Or.inl s, l, J⟩
  · obtain ⟨h', k, s, l, J⟩ := qEr (c := f_X11_odds (a 1)) (md := f_X12_odds (a 1)) (E := "java/lang/IllegalArgumentException") (t := 1) I ⟨h, by
        unfold f_X11_odds
        rw [ca, ckX r, obS, exEr], KC_refl h⟩ (fun q _ qe => bE (by
        unfold f_X12_odds F_X12_odds_20
        rw [bnd_eq, ma, inRf r, tff, tI1, obS]; rfl))
    exact ⟨h', k, Or.inr s, l, J⟩
