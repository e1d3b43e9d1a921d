/-! LAYER 4. law: its lines -/
section H6
variable {b : Nat → Nat} {L : Nat}
def LNr (N : Nat) (u g : Hp) (l : Nat) : Prop := ∃ k a B T, k ≤ 2 ∧ a ≤ 99 ∧ B ≤ T ∧ T ≤ N ∧ (g 31 (1342 + 4 * l) = nI k ∧ u 517 l = nI k) ∧ (g 31 (1342 + 4 * l + 1) = nI a ∧ u 518 l = nI a) ∧ (g 31 (1342 + 4 * l + 2) = nI B ∧ u 519 l = nI B) ∧ (g 31 (1342 + 4 * l + 3) = nI T ∧ u 520 l = nI T) ∧
  (∀ j, B ≤ j → j < T → CDr u g j) ∧ tyOk (cdD (g 31)) B (T - B) ∧ (B = T ∨ tyR (cdD (g 31)) B (T - B) = some [true])
theorem LNr_fr {N N' l : Nat} {u g u' g' : Hp} (H : LNr N u g l) (h1 : ∀ k, 517 ≤ k → k ≤ 520 → u' k l = u k l) (h2 : ∀ j, j < N → u' 521 j = u 521 j ∧ u' 522 j = u 522 j) (h3 : ∀ i, i < 4 → g' 31 (1342 + 4 * l + i) = g 31 (1342 + 4 * l + i)) (h4 : ∀ k, 1390 ≤ k → k < 1390 + 2 * N → g' 31 k = g 31 k) (hN : N ≤ N') : LNr N' u' g' l := by
  obtain ⟨k, a, B, T, c1, c2, c3, c4, ⟨d1, d2⟩, ⟨d3, d4⟩, ⟨d5, d6⟩, ⟨d7, d8⟩, e1, e2, e3⟩ := H
  have ty : ∀ i, i ≤ T - B → tyR (cdD (g' 31)) B i = tyR (cdD (g 31)) B i := fun i hi => ty_cg i fun j hj => by unfold cdD; rw [h4 _ (by omega) (by omega)]
  have q0 := h3 0 (by omega)
  rw [Nat.add_zero] at q0
  refine ⟨k, a, B, T, c1, c2, c3, by omega, ⟨by rw [q0]; exact d1, by rw [h1 517 (by omega) (by omega)]; exact d2⟩, ⟨by rw [h3 1 (by omega)]; exact d3, by rw [h1 518 (by omega) (by omega)]; exact d4⟩, ⟨by rw [h3 2 (by omega)]; exact d5, by rw [h1 519 (by omega) (by omega)]; exact d6⟩, ⟨by rw [h3 3 (by omega)]; exact d7, by rw [h1 520 (by omega) (by omega)]; exact d8⟩, fun j p q => ?_, fun i hi => by rw [ty i hi]; exact e2 i hi, by rw [ty _ (Nat.le_refl _)]; exact e3⟩
  obtain ⟨y, y1, y2, y3, y4⟩ := e1 j p q
  exact ⟨y, y1, by rw [h4 _ (by omega) (by omega)]; exact y2, by rw [(h2 j (by omega)).1]; exact y3, fun z => by rw [(h2 j (by omega)).2, h4 _ (by omega) (by omega)]; exact y4 z⟩
def LWS (b : Nat → Nat) (L f l N : Nat) (u g : Hp) : Prop := LXc b L u ∧ TKc b L f u ∧ LXm b L g ∧ (∃ p, PTm b L p f g) ∧ u 516 8 = nI l ∧ u 516 7 = nI N ∧ g 30 18 = nI N ∧ N ≤ f ∧ ∀ l', l' < l → LNr N u g l'
def FWc (u u' : Hp) : Prop := (∀ k, k ≠ 2 → (k < 516 ∨ 522 < k) → u' k = u k) ∧ u' 2 1 = u 2 1
def FWm (g g' : Hp) : Prop := (∀ k, k ≠ 30 → k ≠ 31 → g' k = g k) ∧ (∀ i, i ≠ 12 → i ≠ 14 → i ≠ 15 → i ≠ 18 → g' 30 i = g 30 i) ∧ ∀ k, k < 1342 → g' 31 k = g 31 k
theorem FWc_trans {a c d : Hp} (x : FWc a c) (y : FWc c d) : FWc a d := ⟨fun k p q => (y.1 k p q).trans (x.1 k p q), y.2.trans x.2⟩
theorem FWm_trans {a c d : Hp} (x : FWm a c) (y : FWm c d) : FWm a d := ⟨fun k p q => (y.1 k p q).trans (x.1 k p q), fun i p q r s => (y.2.1 i p q r s).trans (x.2.1 i p q r s), fun k hk => (y.2.2 k hk).trans (x.2.2 k hk)⟩
theorem FWc_of {u u' : Hp} (F : FRc u u') : FWc u u' := ⟨fun k h _ => F.1 k h, F.2.1⟩
theorem FWm_of {g g' : Hp} (F : FRm g g') : FWm g g' := ⟨fun k h _ => F.1 k h, fun i a b _ _ => F.2 i a b, fun k _ => by rw [F.1 31 (by decide)]⟩
theorem FWc_L {N : Nat} {u u' : Hp} (F : FLc N u u') : FWc u u' := ⟨F.1, F.2.1⟩
theorem FWm_L {N : Nat} {g g' : Hp} (F : FLm N g g') : FWm g g' := ⟨F.1, F.2.1, fun k hk => F.2.2 k (by omega)⟩
theorem FWc_22 {u : Hp} {v : Int32} : FWc u (up1 u 2 2 v) := ⟨fun k h _ => up1_ob h, by rw [up1_at, upd_ob (by decide)]⟩
theorem FWm_31 {g : Hp} {i : Nat} {v : Int32} (h : 1342 ≤ i) : FWm g (up1 g 31 i v) := ⟨fun k _ p => up1_ob p, fun i _ _ _ _ => by rw [up1_ob (by decide)], fun k hk => by rw [up1_at, upd_ob (by omega)]⟩
/-- what a line of a law leaves -/
def LLo (b : Nat → Nat) (L l : Nat) (u g : Hp) (cl ml : Option (Bool × Hp)) : Prop :=
  (∃ u' g' f' N', cl = some (true, u') ∧ ml = some (true, g') ∧ LWS b L f' (l + 1) N' u' g' ∧ FWc u u' ∧ FWm g g' ∧ u' 2 2 = u 2 2) ∨
  (∃ u' g' x, cl = some (false, u') ∧ ml = some (false, g') ∧ u' 2 2 = nI x ∧ g' 30 14 = nI x ∧ FWc u u' ∧ FWm g g')
theorem LXm_31 {g : Hp} {i : Nat} {v : Int32} (X : LXm b L g) : LXm b L (up1 g 31 i v) := ⟨X.1, by rw [up1_ob (by decide)]; exact X.2.1, fun i hi => by rw [up1_ob (by decide)]; exact X.2.2 i hi⟩
theorem LXc_k {u : Hp} {k i : Nat} {v : Int32} (h2 : k ≠ 2) (h3 : k ≠ 3) (X : LXc b L u) : LXc b L (up1 u k i v) := ⟨X.1, by rw [up1_ob h2.symm]; exact X.2.1, fun i hi => by rw [up1_ob h3.symm]; exact X.2.2 i hi⟩
theorem TKc_k {u : Hp} {f k i : Nat} {v : Int32} (h2 : k ≠ 2) (T : TKc b L f u) : TKc b L f (up1 u k i v) := by unfold TKc at T ⊢; rw [up1_ob h2.symm]; exact T
theorem fi_ln {f : Nat} : fiW b L [w_firm, w_soft, w_grow] f 0 = if wdB b L w_firm f then 0 else if wdB b L w_soft f then 1 else if wdB b L w_grow f then 2 else -1 := rfl
theorem fi_lb {f : Nat} : fiW b L [w_firm, w_soft, w_grow] f 0 = -1 ∨ ∃ c, c ≤ 2 ∧ fiW b L [w_firm, w_soft, w_grow] f 0 = nI c ∧ f < L ∧ ltB b f = true := by
  rw [fi_ln]
  have K : ∀ {w : List Nat}, okW w = true → wdB b L w f = true → f < L ∧ ltB b f = true := fun h q => ⟨(wd_lt h q).1, (wd_lt h q).2.1⟩
  cases h1 : wdB b L w_firm f
  · rw [tff]
    cases h2 : wdB b L w_soft f
    · rw [tff]
      cases h3 : wdB b L w_grow f
      · exact Or.inl rfl
      · exact Or.inr ⟨2, by omega, rfl, K (by decide) h3⟩
    · exact Or.inr ⟨1, by omega, rfl, K (by decide) h2⟩
  · exact Or.inr ⟨0, by omega, rfl, K (by decide) h1⟩
def lopC (l N : Nat) (k a : Int32) (u : Hp) : Hp := up1 (up1 (up1 u 517 l k) 518 l a) 519 l (nI N)
theorem c_open {l N : Nat} {k a : Int32} {u : Hp} (h8 : u 516 8 = nI l) (h7 : u 516 7 = nI N) (hl : l < 12) : f_X4_openLine 516 k a u = some (lopC l N k a u) := by
  have a1 : (up1 u 517 l k) 516 8 = nI l := by rw [up1_ob (by decide)]; exact h8
  have a2 : (up1 (up1 u 517 l k) 518 l a) 516 8 = nI l := by rw [up1_ob (by decide)]; exact a1
  have a3 : (up1 (up1 u 517 l k) 518 l a) 516 7 = nI N := by rw [up1_ob (by decide), up1_ob (by decide)]; exact h7
  unfold f_X4_openLine lopC
  rw [h8, if_neg (nI_pos (by omega)), if_pos (show nI l < 12 from (nI_ltI (b := 12) (by omega) (by omega)).mpr hl), gdT (nI_ix (by omega) (by omega)), bnd_eq, nI_clamp (by omega)]
  show gd (ix ((up1 u 517 l k) 516 8) 12) _ = _
  rw [a1, gdT (nI_ix (by omega) (by omega)), bnd_eq, nI_clamp (by omega)]
  show gd (ix ((up1 (up1 u 517 l k) 518 l a) 516 8) 12) _ = _
  rw [a2, gdT (nI_ix (by omega) (by omega)), bnd_eq, nI_clamp (by omega), a3]
def lclC (l N : Nat) (u : Hp) : Hp := up1 (up1 u 520 l (nI N)) 516 8 (nI (l + 1))
theorem c_close {l N : Nat} {u : Hp} (h8 : u 516 8 = nI l) (h7 : u 516 7 = nI N) (hl : l < 12) : f_X4_closeLine 516 u = some (lclC l N u) := by
  have a1 : (up1 u 520 l (nI N)) 516 8 = nI l := by rw [up1_ob (by decide)]; exact h8
  unfold f_X4_closeLine lclC
  rw [h8, if_neg (nI_pos (by omega)), if_pos (show nI l < 12 from (nI_ltI (b := 12) (by omega) (by omega)).mpr hl), gdT (nI_ix (by omega) (by omega)), bnd_eq, nI_clamp (by omega), h7]
  show bnd (up1 (up1 u 520 l (nI N)) 516 8 (((up1 u 520 l (nI N)) 516 8) + 1)) _ = _
  rw [a1, bnd_eq, nI_1]
theorem ES5_0 {N : Nat} {u g : Hp} (h7 : u 516 7 = nI N) (h18 : g 30 18 = nI N) : ES5 N N [] u g := by
  refine ⟨h7, h18, Nat.le_refl _, fun j p q => by omega, by rw [Nat.sub_self]; rfl, fun i hi => ?_⟩
  obtain rfl : i = 0 := by omega
  exact ⟨[], rfl, Nat.zero_le _⟩
/-- a line closed -/
theorem J_close {l N N' f' : Nat} {k a : Nat} {s : List Bool} {u g u3 g4 u5 g5 : Hp} (hl : l < 12) (k2 : k ≤ 2) (a2 : a ≤ 99) (ln : ∀ l', l' < l → LNr N u g l') (H5 : LST b L N f' N' s u5 g5) (hs : (N' = N ∧ s = []) ∨ s = [true]) (hNN : N ≤ N') (hN' : N' ≤ f')
    (K : FLc N u3 u5) (M : FLm N g4 g5) (s22 : u5 2 2 = u 2 2)
    (v8 : u3 516 8 = nI l) (v : u3 517 l = nI k ∧ u3 518 l = nI a ∧ u3 519 l = nI N) (vo : ∀ x y, 517 ≤ x → x ≤ 520 → y < l → u3 x y = u x y) (vc : ∀ j, u3 521 j = u 521 j ∧ u3 522 j = u 522 j) (vf : FWc u u3)
    (r : g4 31 (1342 + 4 * l) = nI k ∧ g4 31 (1342 + 4 * l + 1) = nI a ∧ g4 31 (1342 + 4 * l + 2) = nI N) (ro : ∀ x, (x < 1342 + 4 * l ∨ 1342 + 4 * l + 2 < x) → g4 31 x = g 31 x) (rf : FWm g g4) :
    LLo b L l u g (F_X5_readLine_58 516 u5) (Option.bind (F_X12_readLawLine_131 (nI (1342 + 4 * l)) g5) fun r_3 => if r_3.1 then some (true, r_3.2) else some (false, r_3.2)) := by
  obtain ⟨X, T, Xm, ⟨p, P⟩, E⟩ := id H5
  obtain ⟨N7, N18⟩ := LS_N H5
  have f'L := T.1
  have X4 := X.1
  have p3 : nI (1342 + 4 * l) + 3 = nI (1342 + 4 * l + 3) := by rw [show (3 : Int32) = nI 3 from rfl, zadd]
  unfold F_X5_readLine_58 F_X12_readLawLine_131
  rw [c_close (l := l) (N := N') (by rw [K.2.2.1]; exact v8) N7 hl, obS, p3, gdT (nI_ix (by omega) (by omega)), bnd_eq, nI_clamp (by omega), N18, obS, ttt]
  obtain ⟨u6, hu6⟩ : ∃ u6, lclC l N' u5 = u6 := ⟨_, rfl⟩
  obtain ⟨g6, hg6⟩ : ∃ g6, up1 g5 31 (1342 + 4 * l + 3) (nI N') = g6 := ⟨_, rfl⟩
  have o6 : ∀ x, x ≠ 516 → x ≠ 520 → u6 x = u5 x := fun x p q => by rw [← hu6]; unfold lclC; rw [up1_ob p, up1_ob q]
  have q6 : ∀ y, y ≠ l → u6 520 y = u5 520 y := fun y p => by rw [← hu6]; unfold lclC; rw [up1_ob (by decide), up1_at, upd_ob p]
  have r6 : ∀ x, x ≠ 1342 + 4 * l + 3 → g6 31 x = g5 31 x := fun x p => by rw [← hg6, up1_at, upd_ob p]
  have m6 : ∀ x, x ≠ 31 → g6 x = g5 x := fun x p => by rw [← hg6, up1_ob p]
  have ec : ∀ j, cdD (g6 31) j = cdD (g5 31) j := fun j => by unfold cdD; rw [r6 _ (by omega)]
  have ef : cdD (g6 31) = cdD (g5 31) := funext ec
  refine Or.inl ⟨u6, g6, f', N', by rw [hu6], by rw [hg6], ⟨?_, ?_, ?_, ⟨p, P.1, by rw [m6 30 (by decide)]; exact P.2.1, P.2.2⟩, ?_, ?_, by rw [m6 30 (by decide)]; exact N18, hN', fun l' hl' => ?_⟩, ?_, ?_, ?_⟩
  · rw [← hu6]; exact LXc_k (by decide) (by decide) (LXc_k (by decide) (by decide) X)
  · rw [← hu6]; exact TKc_k (by decide) (TKc_k (by decide) T)
  · rw [← hg6]; exact LXm_31 Xm
  · rw [← hu6]; exact up1_same
  · rw [← hu6]; unfold lclC; rw [up1_at, upd_ob (by decide), up1_ob (by decide)]; exact N7
  · by_cases c : l' = l
    · obtain ⟨E1, E2, E3, E4, E5, E6⟩ := E
      rw [c]
      have l1 : 1342 + 4 * l + 3 < 1390 := by omega
      refine ⟨k, a, N, N', k2, a2, hNN, Nat.le_refl _, ⟨?_, ?_⟩, ⟨?_, ?_⟩, ⟨?_, ?_⟩, ⟨?_, ?_⟩, fun j p q => ?_, by rw [ef]; exact E6, ?_⟩
      · rw [r6 _ (by omega), M.2.2 _ (by omega)]; exact r.1
      · rw [o6 _ (by decide) (by decide), K.2.2.2.1 517 (by omega) (by omega)]; exact v.1
      · rw [r6 _ (by omega), M.2.2 _ (by omega)]; exact r.2.1
      · rw [o6 _ (by decide) (by decide), K.2.2.2.1 518 (by omega) (by omega)]; exact v.2.1
      · rw [r6 _ (by omega), M.2.2 _ (by omega)]; exact r.2.2
      · rw [o6 _ (by decide) (by decide), K.2.2.2.1 519 (by omega) (by omega)]; exact v.2.2
      · rw [← hg6, up1_same]
      · rw [← hu6]; unfold lclC; rw [up1_ob (by decide), up1_same]
      · obtain ⟨y, y1, y2, y3, y4⟩ := E4 j p q
        exact ⟨y, y1, by rw [r6 _ (by omega)]; exact y2, by rw [o6 521 (by decide) (by decide)]; exact y3, fun z => by rw [o6 522 (by decide) (by decide), r6 _ (by omega)]; exact y4 z⟩
      · rcases hs with ⟨h1, _⟩ | h1
        · exact Or.inl h1.symm
        · refine Or.inr ?_
          rw [ef, E5, h1]
    · refine LNr_fr (ln l' (by omega)) (fun x x1 x2 => ?_) (fun j hj => ?_) (fun i hi => ?_) (fun x x1 x2 => ?_) hNN
      · have : u6 x l' = u5 x l' := by
          by_cases z : x = 520
          · rw [z]; exact q6 l' c
          · rw [o6 x (by omega) z]
        rw [this, K.2.2.2.1 x x1 x2]
        exact vo x l' x1 x2 (by omega)
      · obtain ⟨k1, k2⟩ := K.2.2.2.2 j hj
        rw [o6 521 (by decide) (by decide), o6 522 (by decide) (by decide), k1, k2]
        exact vc j
      · rw [r6 _ (by omega), M.2.2 _ (by omega), ro _ (by omega)]
      · rw [r6 _ (by omega), M.2.2 _ (by omega), ro _ (by omega)]
  · refine FWc_trans (FWc_trans vf (FWc_L K)) ⟨fun x p q => o6 x (by omega) (by omega), by rw [o6 2 (by decide) (by decide)]⟩
  · refine FWm_trans (FWm_trans rf (FWm_L M)) (by rw [← hg6]; exact FWm_31 (by omega))
  · rw [o6 2 (by decide) (by decide)]; exact s22
theorem J_lawLine {f l N : Nat} {u g : Hp} (H : LWS b L f l N u g) (hl : l < 12) : LLo b L l u g (f_X5_readLine 516 u) (f_X12_readLine 0 (nI l) g) := by
  obtain ⟨X, T, Xm, ⟨p, P⟩, q8, q7, q18, hN, ln⟩ := id H
  have fL := T.1
  have X4 := X.1
  obtain ⟨g1, e1, h12, h14, Fm⟩ := m_letters Xm P
  have Xm1 := FRm_LX Fm Xm
  have i1 := m_isWord s_1018 Xm1 fL h12 h14
  have i2 := m_isWord s_1031 Xm1 fL h12 h14
  have i3 := m_isWord s_1032 Xm1 fL h12 h14
  have x2 : (1342 : Int32) + 4 * nI l = nI (1342 + 4 * l) := by rw [show (1342 : Int32) = nI 1342 from rfl, show (4 : Int32) = nI 4 from rfl, zmul, zadd]
  have M0 : f_X12_readLine 0 (nI l) g = Option.bind (F_X12_readLawLine_55 (nI (1342 + 4 * l)) (fiW b L [w_firm, w_soft, w_grow] f 0) (nI (1342 + 4 * l)) g1) fun r_3 => if r_3.1 then some (true, r_3.2) else some (false, r_3.2) := by
    unfold f_X12_readLine F_X12_readLine_16 f_X12_readLawLine
    rw [e1, obS, if_pos rfl, if_pos (show nI l < 12 from (nI_ltI (b := 12) (by omega) (by omega)).mpr hl), if_pos rfl, bnd_eq, x2, i1, obS, i2, obS, i3, obS, fi_ln]
    cases wdB b L w_firm f <;> cases wdB b L w_soft f <;> cases wdB b L w_grow f <;> rfl
  obtain ⟨A, A'⟩ := c_take s_1009 X T
  rw [M0]
  unfold f_X5_readLine F_X12_readLawLine_55
  have gix : ∀ i, i < 4 → ix (nI (1342 + 4 * l + i)) 2190 := fun i hi => nI_ix (by omega) (by omega)
  have gi0 : ix (nI (1342 + 4 * l)) 2190 := nI_ix (by omega) (by omega)
  have p1 : nI (1342 + 4 * l) + 1 = nI (1342 + 4 * l + 1) := nI_1 _
  have p2 : nI (1342 + 4 * l) + 2 = nI (1342 + 4 * l + 2) := by rw [show (2 : Int32) = nI 2 from rfl, zadd]
  have p3 : nI (1342 + 4 * l) + 3 = nI (1342 + 4 * l + 3) := by rw [show (3 : Int32) = nI 3 from rfl, zadd]
  rw [gdT gi0, bnd_eq, gdT gi0, nI_clamp (by omega), p1, p2]
  rcases fi_lb (b := b) (L := L) (f := f) with z | ⟨k, k2, z, lf, lt⟩
  · rw [A z, obS, if_pos rfl, c_fail T, obS, z, if_pos (show (up1 g1 31 (1342 + 4 * l) (-1)) 31 (1342 + 4 * l) < 0 by rw [up1_same]; decide), obS, tff]
    exact Or.inr ⟨_, _, f, rfl, rfl, by dsimp only; exact up1_same, by dsimp only; rw [up1_ob (by decide)]; exact h14, FWc_22, FWm_trans (FWm_of Fm) (FWm_31 (by omega))⟩
  · have nz : ¬ fiW b L [w_firm, w_soft, w_grow] f 0 = -1 := by rw [z]; exact nI_np (by omega)
    obtain ⟨u1, e2, T1, F1⟩ := A' nz
    have X1 := FRc_LX F1 X
    have nx := nx_lt (b := b) lf
    have f1L := T1.1
    obtain ⟨g2, hg2⟩ : ∃ g2, up1 g1 31 (1342 + 4 * l) (nI k) = g2 := ⟨_, rfl⟩
    have Xm2 : LXm b L g2 := by rw [← hg2]; exact LXm_31 Xm1
    have P2 : PTm b L (edN b L f) (nxN b L f) g2 := by
      rw [← hg2]
      exact PT_up (Or.inl (by decide)) ⟨ed_L fL, by rw [h12]; unfold edN; rw [if_pos lf, if_pos lt], rfl⟩
    have g22 : g2 31 (1342 + 4 * l) = nI k := by rw [← hg2, up1_same]
    obtain ⟨g3, e3, k14, F3, hp⟩ := m_num (lo := 0) (h1 := 100) (by omega) (by omega) Xm2 P2
    obtain ⟨C, C'⟩ := c_number (lo := 0) (h1 := 100) (by omega) (by omega) X1 T1
    have W2 : FWm g g2 := FWm_trans (FWm_of Fm) (by rw [← hg2]; exact FWm_31 (by omega))
    have W3 := FWm_trans W2 (FWm_of F3)
    rw [z] at nz e2
    rw [e2, obS, if_neg nz, z, hg2, if_neg (show ¬ g2 31 (1342 + 4 * l) < 0 by rw [g22]; exact nI_pos (by omega)), show f_X12_number 0 99 g2 = some (nbV b L (nxN b L f) 0 100, g3) from e3, obS]
    dsimp only
    rw [gdT (gix 1 (by omega)), bnd_eq, gdT (gix 1 (by omega)), nI_clamp (n := 1342 + 4 * l + 1) (by omega)]
    cases q : nbB b L (nxN b L f) 0 100
    · rw [show f_X10_takeNumber 0 99 u1 = some (-1, up1 u1 2 2 (nI (nxN b L f))) from C' q, obS, if_pos rfl, nb_no q, if_pos (show (up1 g3 31 (1342 + 4 * l + 1) (-1)) 31 (1342 + 4 * l + 1) < 0 by rw [up1_same]; decide), obS, tff]
      exact Or.inr ⟨_, _, nxN b L f, rfl, rfl, by dsimp only; exact up1_same, by dsimp only; rw [up1_ob (by decide)]; exact k14, FWc_trans (FWc_of F1) FWc_22, FWm_trans W3 (FWm_31 (by omega))⟩
    · obtain ⟨u2, e4, T2, F2⟩ := C q
      obtain ⟨v1, v2, v3⟩ := nb_np q
      obtain ⟨a, ha⟩ : ∃ a, vcN b 48 (nxN b L f) (dEn b L (nxN b L f) - nxN b L f) = a := ⟨_, rfl⟩
      rw [ha] at v1 v3 e4
      have q1 : nxN b L f < L := by
        have ⟨q1, _⟩ := Bool.and_eq_true_iff.mp q
        exact (of_decide_eq_true q1).1
      have nx2 := nx_lt (b := b) q1
      have FF := FRc_trans F1 F2
      have X2 := FRc_LX FF X
      have h8 : u2 516 8 = nI l := by rw [FF.1 516 (by decide)]; exact q8
      have h7 : u2 516 7 = nI N := by rw [FF.1 516 (by decide)]; exact q7
      obtain ⟨u3, hu3⟩ : ∃ u3, lopC l N (nI k) (nI a) u2 = u3 := ⟨_, rfl⟩
      have o3 : ∀ x, (x < 517 ∨ 519 < x) → u3 x = u2 x := fun x hx => by rw [← hu3]; unfold lopC; rw [up1_ob (by omega), up1_ob (by omega), up1_ob (by omega)]
      have w3 : u3 517 l = nI k ∧ u3 518 l = nI a ∧ u3 519 l = nI N := by
        rw [← hu3]; unfold lopC
        refine ⟨?_, ?_, up1_same⟩
        · rw [up1_ob (by decide), up1_ob (by decide), up1_same]
        · rw [up1_ob (by decide), up1_same]
      have z3 : ∀ x y, y ≠ l → u3 x y = u2 x y := fun x y hy => by
        rw [← hu3]; unfold lopC
        have U : ∀ (h : Hp) (k' : Nat) (v : Int32), up1 h k' l v x y = h x y := fun h k' v => by
          by_cases c : x = k'
          · rw [c, up1_at, upd_ob hy]
          · rw [up1_ob c]
        rw [U, U, U]
      have X3 : LXc b L u3 := ⟨X2.1, by rw [o3 2 (by omega)]; exact X2.2.1, fun i hi => by rw [o3 3 (by omega)]; exact X2.2.2 i hi⟩
      have T3 : TKc b L (nxN b L (nxN b L f)) u3 := by
        have T2' := T2
        unfold TKc at T2' ⊢
        rw [o3 2 (by omega)]; exact T2'
      obtain ⟨g4, hg4⟩ : ∃ g4, up1 (up1 (up1 g3 31 (1342 + 4 * l + 1) (nI a)) 31 (1342 + 4 * l + 2) (nI N)) 30 15 0 = g4 := ⟨_, rfl⟩
      have g318 : g3 30 18 = nI N := by rw [F3.2 18 (by decide) (by decide), ← hg2, up1_ob (by decide), Fm.2 18 (by decide) (by decide)]; exact q18
      have g431 : ∀ x, x ≠ 1342 + 4 * l + 1 → x ≠ 1342 + 4 * l + 2 → g4 31 x = g3 31 x := fun x a1 a2 => by rw [← hg4, up1_ob (by decide), up1_at, upd_ob a2, up1_at, upd_ob a1]
      have g331 : ∀ x, x ≠ 1342 + 4 * l → g3 31 x = g 31 x := fun x a1 => by rw [F3.1 31 (by decide), ← hg2, up1_at, upd_ob a1, Fm.1 31 (by decide)]
      have r4 : g4 31 (1342 + 4 * l) = nI k ∧ g4 31 (1342 + 4 * l + 1) = nI a ∧ g4 31 (1342 + 4 * l + 2) = nI N := by
        refine ⟨?_, ?_, ?_⟩
        · rw [g431 _ (by omega) (by omega), F3.1 31 (by decide)]; exact g22
        · rw [← hg4, up1_ob (by decide), up1_at, upd_ob (by omega), up1_same]
        · rw [← hg4, up1_ob (by decide), up1_same]
      have g430 : ∀ i, i ≠ 15 → g4 30 i = g3 30 i := fun i hi => by rw [← hg4, up1_at, upd_ob hi, up1_ob (by decide), up1_ob (by decide)]
      have g4o : ∀ x, x ≠ 30 → x ≠ 31 → g4 x = g3 x := fun x a1 a2 => by rw [← hg4, up1_ob a1, up1_ob a2, up1_ob a2]
      have Xm3 := FRm_LX F3 Xm2
      have Xm4 : LXm b L g4 := ⟨Xm3.1, by rw [g430 13 (by decide)]; exact Xm3.2.1, fun i hi => by rw [g4o 38 (by decide) (by decide)]; exact Xm3.2.2 i hi⟩
      have hp := hp q
      have P4 : PTm b L (edN b L (nxN b L f)) (nxN b L (nxN b L f)) g4 := ⟨hp.1, by rw [g430 12 (by decide)]; exact hp.2.1, hp.2.2⟩
      have S4 : LST b L N (nxN b L (nxN b L f)) N [] u3 g4 := ⟨X3, T3, Xm4, ⟨_, P4⟩, ES5_0 (by rw [o3 516 (by omega)]; exact h7) (by rw [g430 18 (by decide)]; exact g318)⟩
      have d4 : g4 30 15 = nI 0 := by rw [← hg4, up1_same]; rfl
      have W4 : FWm g g4 := FWm_trans W3 ⟨g4o, fun i _ _ h _ => g430 i h, fun x hx => g431 x (by omega) (by omega)⟩
      have V3 : FWc u u3 := FWc_trans (FWc_of FF) ⟨fun x _ hx => o3 x (by omega), by rw [o3 2 (by omega)]⟩
      have s3 : u3 2 2 = u 2 2 := by rw [o3 2 (by omega)]; exact FF.2.2
      have fin : ∀ (u5 g5 : Hp) (f' N' : Nat) (s : List Bool), LST b L N f' N' s u5 g5 → ((N' = N ∧ s = []) ∨ s = [true]) → N ≤ N' → N' ≤ f' → FLc N u3 u5 → FLm N g4 g5 → u5 2 2 = u 2 2 →
          LLo b L l u g (F_X5_readLine_58 516 u5) (Option.bind (F_X12_readLawLine_131 (nI (1342 + 4 * l)) g5) fun r_3 => if r_3.1 then some (true, r_3.2) else some (false, r_3.2)) := fun u5 g5 f' N' s H5 hs h1 h2 K M s5 =>
        J_close hl k2 (by omega) ln H5 hs h1 h2 K M s5 (by rw [o3 516 (by omega)]; exact h8) w3 (fun x y x1 x2 hy => by rw [z3 x y (by omega), FF.1 x (by omega)]) (fun j => by rw [o3 521 (by omega), o3 522 (by omega), FF.1 521 (by decide), FF.1 522 (by decide)]; exact ⟨rfl, rfl⟩) V3 r4 (fun x hx => by rw [g431 x (by omega) (by omega), g331 x (by omega)]) W4
      rw [show f_X10_takeNumber 0 99 u1 = some (nI a, u2) from e4, obS, v1, if_neg (show ¬ (up1 g3 31 (1342 + 4 * l + 1) (nI a)) 31 (1342 + 4 * l + 1) < 0 by rw [up1_same]; exact nI_pos (by omega))]
      dsimp only
      rw [if_neg (show ¬ nI a = -1 from nI_np (by omega)), c_open h8 h7 hl, obS, hu3, gdT (gix 2 (by omega)), bnd_eq, nI_clamp (by omega), up1_ob (show 30 ≠ 31 by decide), g318, bnd_eq, hg4]
      obtain ⟨Y, Y'⟩ := c_takes s_1010 X3 T3
      obtain ⟨Z, Z'⟩ := m_passes s_1033 Xm4 P4
      cases i : wdB b L w_if (nxN b L (nxN b L f))
      · obtain ⟨g5, e5, P5, _, F5⟩ := Z' i
        rw [Y' i, obS, tff, e5, obS, tff]
        exact fin u3 g5 _ N [] (LS_mv S4 T3 (FRc_refl u3) P5 F5) (Or.inl ⟨rfl, rfl⟩) (Nat.le_refl _) (by omega) (FLc_of (FRc_refl u3)) (FLm_of F5) s3
      · obtain ⟨g5, e5, P5, _, F5⟩ := Z i
        obtain ⟨u5, e6, T5, F6⟩ := Y i
        have nx3 := nx_lt (b := b) (wd_lt (by decide) i).1
        have S5 := LS_mv S4 T5 F6 P5 F5
        rw [e6, obS, ttt, e5, obS, ttt]
        rcases J_cond u5 g5 _ N [] S5 (by rw [F5.2 15 (by decide) (by decide)]; exact d4) (Nat.zero_le _) (by omega) with ⟨u6, g6, f6, N6, a1, a2, H6, a4, a5, a6, a7, a8, a9, a10⟩ | ⟨u6, g6, x, a1, a2, a3, a4, a5, a6⟩
        · rw [a1, obS, ttt, a2, obS, ttt]
          exact fin u6 g6 f6 N6 [true] H6 (Or.inr rfl) a5 (by omega) (FLc_trans (FLc_of (N := N) F6) a7 (Nat.le_refl _)) (FLm_trans (FLm_of (N := N) F5) a8 (Nat.le_refl _)) (by rw [a10, F6.2.2]; exact s3)
        · rw [a1, obS, tff, a2, obS, tff, obS, tff]
          exact Or.inr ⟨_, _, x, rfl, rfl, a3, a4, FWc_trans (FWc_trans V3 (FWc_of F6)) (FWc_L a5), FWm_trans (FWm_trans W4 (FWm_of F5)) (FWm_L a6)⟩
end H6
