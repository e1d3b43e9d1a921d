/-! LAYER 4. Copies of a City and of a Law -/
theorem cpy_in {f g : Row} {n i : Nat} (h : i < n) : va_cpy f g 0 0 n i = f i := by
  rw [pk_cpy_in (by omega) (by omega)]
  congr 1
  omega
/-- rows of the city k0 are those of k1 -/
def CP (k0 k1 : Nat) (h h' : Hp) : Prop := (∀ i, i < 8 → h' (k0 + 1) i = h (k1 + 1) i ∧ h' (k0 + 2) i = h (k1 + 2) i ∧ h' (k0 + 3) i = h (k1 + 3) i ∧ h' (k0 + 4) i = h (k1 + 4) i) ∧
  (∀ i, i < 64 → h' (k0 + 5) i = h (k1 + 5) i) ∧ (∀ i, i < 6 → h' (k0 + 6) i = h (k1 + 6) i ∧ h' (k0 + 7) i = h (k1 + 7) i ∧ h' (k0 + 8) i = h (k1 + 8) i) ∧
  (h' k0 9 = h k1 9 ∧ h' k0 10 = h k1 10 ∧ h' k0 11 = h k1 11 ∧ h' k0 12 = h k1 12 ∧ h' k0 13 = h k1 13 ∧ h' k0 14 = h k1 14 ∧ h' k0 15 = h k1 15 ∧ h' k0 16 = h k1 16 ∧ h' k0 17 = h k1 17) ∧
  h' (k0 + 9) 1 = h (k1 + 9) 1 ∧ (∀ i, i < 360 → h' (k0 + 10) i = h (k1 + 10) i) ∧ ∀ k, (k < k0 ∨ k0 + 10 < k) → h' k = h k
theorem c_copyFrom {k0 k1 : Nat} {h : Hp} (hk : k0 + 10 < k1 ∨ k1 + 10 < k0) : ∃ h', f_X1_copyFrom k0 k1 h = some h' ∧ CP k0 k1 h h' := by
  unfold f_X1_copyFrom f_X6_copyFrom
  simp only [↓zbn, zob]
  refine ⟨_, rfl, fun i hi => ⟨?_, ?_, ?_, ?_⟩, fun i hi => ?_, fun i hi => ⟨?_, ?_, ?_⟩, ⟨?_, ?_, ?_, ?_, ?_, ?_, ?_, ?_, ?_⟩, ?_, fun i hi => ?_, fun k hk2 => ?_⟩
  all_goals simp (disch := omega) only [up1_ob, upA_ob, upA_at, up1_at, upd_ob, upd_at, cpy_in]
theorem CP_CV0 {k0 k1 n m : Nat} {h h' : Hp} {w : Row} (H : CP k0 k1 h h') (h6 : m ≤ 6) (V : CV0 k1 h n m w) : CV0 k0 h' n m w := by
  obtain ⟨a1, a2, a3, ⟨b9, b10, b11, b12, b13, b14, b15, b16, b17⟩, _⟩ := H
  obtain ⟨c1, c2, c3, ⟨d1, d2, d3⟩, d4, d5, d6, d7, d8, d9⟩ := V
  refine ⟨fun i hi => ?_, fun k hk => (a2 k hk).trans (c2 k hk), fun p hp => ?_, ⟨b9.trans d1, b10.trans d2, b11.trans d3⟩, b12.trans d4, b13.trans d5, b14.trans d6, b15.trans d7, b16.trans d8, b17.trans d9⟩
  · obtain ⟨x1, x2, x3, x4⟩ := a1 i hi
    obtain ⟨y1, y2, y3, y4⟩ := c1 i hi
    exact ⟨x1.trans y1, x2.trans y2, x3.trans y3, x4.trans y4⟩
  · obtain ⟨x1, x2, x3⟩ := a3 p (by omega)
    obtain ⟨y1, y2, y3⟩ := c3 p hp
    exact ⟨x1.trans y1, x2.trans y2, x3.trans y3⟩
theorem CP_LG {k0 k1 : Nat} {h h' : Hp} {w : Row} (H : CP k0 k1 h h') (V : LG k1 h w) : LG k0 h' w := by
  obtain ⟨_, _, _, _, a, b, _⟩ := H
  obtain ⟨L, l1, l2, l3, l4⟩ := V
  exact ⟨L, l1, l2, a.trans l3, fun k f hk hf => (b _ (by omega)).trans (l4 k f hk hf)⟩
theorem CP_LW {k0 k1 : Nat} {h h' : Hp} (H : CP k0 k1 h h') (V : LW k1 h) : LW k0 h' := by
  obtain ⟨_, _, _, _, a, b, _⟩ := H
  obtain ⟨L, l1, l3⟩ := V
  exact ⟨L, l1, a.trans l3⟩
theorem CP_fr {k0 k1 : Nat} {h h' : Hp} (H : CP k0 k1 h h') : ∀ k, (k < k0 ∨ k0 + 10 < k) → h' k = h k := H.2.2.2.2.2.2
/-- rows of the law k0 are those of k1 -/
def CPL (k0 k1 : Nat) (h h' : Hp) : Prop := h' k0 8 = h k1 8 ∧ h' k0 7 = h k1 7 ∧ (∀ i, i < 12 → h' (k0 + 1) i = h (k1 + 1) i ∧ h' (k0 + 2) i = h (k1 + 2) i ∧ h' (k0 + 3) i = h (k1 + 3) i ∧ h' (k0 + 4) i = h (k1 + 4) i) ∧
  (∀ i, i < 400 → h' (k0 + 5) i = h (k1 + 5) i ∧ h' (k0 + 6) i = h (k1 + 6) i) ∧ ∀ k, (k < k0 ∨ k0 + 6 < k) → h' k = h k
theorem c_copyLaw {k0 k1 : Nat} {h : Hp} (hk : k0 + 7 < k1 ∨ k1 + 7 < k0) : ∃ h', f_X4_copyFrom k0 k1 h = some h' ∧ CPL k0 k1 h h' := by
  unfold f_X4_copyFrom
  simp only [↓zbn, zob]
  refine ⟨_, rfl, ?_, ?_, fun i hi => ⟨?_, ?_, ?_, ?_⟩, fun i hi => ⟨?_, ?_⟩, fun k hk2 => ?_⟩
  all_goals simp (disch := omega) only [up1_ob, upA_ob, upA_at, up1_at, upd_ob, upd_at, cpy_in]
theorem CPL_LV {k0 k1 : Nat} {h h' : Hp} {w : Row} (H : CPL k0 k1 h h') (g : GdL w) (V : LV k1 h w) : LV k0 h' w := by
  obtain ⟨a, _, b, d, _⟩ := H
  obtain ⟨v1, v2⟩ := V
  refine ⟨?_, fun l hl => ?_⟩
  · rw [a]; exact v1
  · have hl12 : l < 12 := Nat.lt_of_lt_of_le hl (ln_12 g)
    obtain ⟨x1, x2, x3, x4⟩ := b l hl12
    obtain ⟨y1, y2, y3, y4, y5⟩ := v2 l hl
    have h3 : w 3 = 1 := by
      by_cases c : w 3 = 1
      · exact c
      · unfold lnW at hl; rw [if_neg c] at hl; omega
    have l400 : toW w l ≤ 400 := by
      unfold lnW at hl
      rw [if_pos h3] at hl
      exact (bd_cl ((g.2 h3).2 l hl).2.2.2.1 (by decide)).2
    refine ⟨x1.trans y1, x2.trans y2, x3.trans y3, x4.trans y4, fun j p q => ?_⟩
    obtain ⟨z1, z2⟩ := d j (by omega)
    obtain ⟨u1, u2⟩ := y5 j p q
    exact ⟨z1.trans u1, fun r => z2.trans (u2 r)⟩
/-! what is the same below the draft -/
theorem tyR_congr {cd cd' : Nat → Nat} {b : Nat} : ∀ j, (∀ i, i < j → cd' (b + i) = cd (b + i)) → tyR cd' b j = tyR cd b j
  | 0, _ => rfl
  | j + 1, h => by
    show Option.bind (tyR cd' b j) (tyS (cd' (b + j))) = Option.bind (tyR cd b j) (tyS (cd (b + j)))
    rw [tyR_congr j (fun i hi => h i (by omega)), h j (by omega)]
theorem GdL_cg {w w' : Row} (hc : ∀ k, (k = 3 ∨ (492 ≤ k ∧ k < 1341)) → w' k = w k) (g : GdL w) : GdL w' := by
  obtain ⟨g3, gl⟩ := g
  refine ⟨bd_eq (hc 3 (by omega)) g3, fun h3 => ?_⟩
  rw [hc 3 (by omega)] at h3
  obtain ⟨b, l⟩ := gl h3
  rw [hc 492 (by omega)]
  refine ⟨bd_eq (hc 492 (by omega)) b, fun i hi => ?_⟩
  have i12 : i < 12 := Nat.lt_of_lt_of_le hi (bd_cl b (by decide)).2
  have e1 : ∀ j, j < 400 → cdW w' j = cdW w j := fun j hj => by unfold cdW; rw [hc _ (by omega)]
  have e2 : fromW w' i = fromW w i := by unfold fromW; rw [hc _ (by omega)]
  have e3 : toW w' i = toW w i := by unfold toW; rw [hc _ (by omega)]
  obtain ⟨a1, a2, a3, a4, a5, a6, a7, a8⟩ := l i hi
  have t400 : toW w i ≤ 400 := (bd_cl a4 (by decide)).2
  refine ⟨bd_eq (hc _ (by omega)) a1, bd_eq (hc _ (by omega)) a2, bd_eq (hc _ (by omega)) a3, bd_eq (hc _ (by omega)) a4, by rw [e2, e3]; exact a5, fun j p q => ?_, ?_, ?_⟩
  · rw [e2] at p
    rw [e3] at q
    exact bd_eq (hc _ (by omega)) (a6 j p q)
  · rw [e2, e3]
    intro j hj
    rw [tyR_congr j (fun i hi => e1 _ (by omega))]
    exact a7 j hj
  · rw [e2, e3, tyR_congr (toW w i - fromW w i) (fun i hi => e1 _ (by omega))]
    exact a8
theorem Gd_cg {n m : Nat} {w w' : Row} (hc : ∀ k, k < 1341 → w' k = w k) (g : Gd n m w) : Gd n m w' := by
  have fb : ∀ j, j < 8 → falB w' j = falB w j := fun j hj => by unfold falB; rw [hc _ (by omega)]
  have ub : ∀ j, j < 8 → upB n w' j = upB n w j := fun j hj => by unfold upB; rw [fb j hj]
  obtain ⟨⟨n0, n8, m1, m6, gl⟩, g1, g2, g3, g4, g5, g6, g7, g9, g8⟩ := g
  refine ⟨⟨(hc 0 (by omega)).trans n0, n8, (hc 1 (by omega)).trans m1, m6, GdL_cg (fun k hk => hc k (by omega)) gl⟩, fun j hj => ?_, fun a b ha hb => ?_, fun q hq => ?_, ?_, ?_, ?_, ?_, ?_, ?_⟩
  · obtain ⟨a, b, c, d, f⟩ := g1 j hj
    exact ⟨bd_eq (hc _ (by omega)) a, bd_eq (hc _ (by omega)) b, bd_eq (hc _ (by omega)) c, bd_eq (hc _ (by omega)) d, bd_eq (hc _ (by omega)) f⟩
  · obtain ⟨x, y⟩ := g2 a b ha hb
    rw [ub a ha, ub b hb]
    exact ⟨bd_eq (hc _ (by omega)) x, fun q => by rw [hc _ (by omega)]; exact y q⟩
  · obtain ⟨x1, y, z⟩ := g3 q hq
    refine ⟨?_, bd_eq (hc _ (by omega)) y, bd_eq (hc _ (by omega)) z⟩
    rw [hc _ (by omega)]
    rcases x1 with x1 | ⟨a, x1, x2, x3⟩
    · exact Or.inl x1
    · exact Or.inr ⟨a, x1, by rw [fb a (by omega)]; exact x2, x3⟩
  · exact bd_eq (hc _ (by omega)) g4
  · exact bd_eq (hc _ (by omega)) g5
  · exact bd_eq (hc _ (by omega)) g6
  · exact bd_eq (hc _ (by omega)) g7
  · exact bd_eq (hc _ (by omega)) g9
  · exact bd_eq (hc _ (by omega)) g8
theorem CV0_cg {c n m : Nat} {h : Hp} {w w' : Row} (h6 : m ≤ 6) (hc : ∀ k, k < 132 → w' k = w k) (H : CV0 c h n m w) : CV0 c h n m w' := by
  obtain ⟨a1, a2, a3, ⟨b1, b2, b3⟩, a5⟩ := H
  refine ⟨fun j hj => ?_, fun k hk => ?_, fun q hq => ?_, ⟨b1, b2, ?_⟩, ?_⟩
  · unfold wtR fmR ivR agR
    rw [hc _ (by omega), hc _ (by omega), hc _ (by omega), hc _ (by omega)]
    exact a1 j hj
  · rw [hc _ (by omega)]; exact a2 k hk
  · unfold atR hdR cmR
    rw [hc _ (by omega), hc _ (by omega), hc _ (by omega)]
    exact a3 q hq
  · rw [b3]
    exact orTo_congr 8 fun j hj => by unfold upB falB; rw [hc _ (by omega)]
  · rw [hc 4 (by omega), hc 5 (by omega), hc 6 (by omega), hc 7 (by omega), hc 2 (by omega), hc 9 (by omega)]
    exact a5
theorem LG_cg {c : Nat} {h : Hp} {w w' : Row} (hc : ∀ k, (k = 8 ∨ (132 ≤ k ∧ k < 492)) → w' k = w k) (H : LG c h w) : LG c h w' := by
  obtain ⟨L, a, b, d, e⟩ := H
  exact ⟨L, a, by rw [hc 8 (by omega)]; exact b, d, fun k x p q => by rw [hc _ (by omega)]; exact e k x p q⟩
theorem LV_cg {r : Nat} {h : Hp} {w w' : Row} (g : GdL w) (hc : ∀ k, (k = 3 ∨ (492 ≤ k ∧ k < 1341)) → w' k = w k) (H : LV r h w) : LV r h w' := by
  have el : lnW w' = lnW w := by unfold lnW; rw [hc 3 (by omega), hc 492 (by omega)]
  obtain ⟨v1, v2⟩ := H
  refine ⟨by rw [hc 3 (by omega), hc 492 (by omega)]; exact v1, fun l hl => ?_⟩
  rw [el] at hl
  have hl12 : l < 12 := Nat.lt_of_lt_of_le hl (ln_12 g)
  have h3 : w 3 = 1 := by
    by_cases c : w 3 = 1
    · exact c
    · unfold lnW at hl; rw [if_neg c] at hl; omega
  have l400 : toW w l ≤ 400 := by
    unfold lnW at hl
    rw [if_pos h3] at hl
    exact (bd_cl ((g.2 h3).2 l hl).2.2.2.1 (by decide)).2
  have e2 : fromW w' l = fromW w l := by unfold fromW; rw [hc _ (by omega)]
  have e3 : toW w' l = toW w l := by unfold toW; rw [hc _ (by omega)]
  obtain ⟨y1, y2, y3, y4, y5⟩ := v2 l hl
  rw [hc _ (by omega), hc _ (by omega), hc _ (by omega), hc _ (by omega), e2, e3]
  refine ⟨y1, y2, y3, y4, fun j p q => ?_⟩
  obtain ⟨u1, u2⟩ := y5 j p q
  have ec : cdW w' j = cdW w j := by unfold cdW; rw [hc _ (by omega)]
  have en : nmW w' j = nmW w j := by unfold nmW; rw [hc _ (by omega)]
  rw [ec, en]
  exact ⟨u1, u2⟩
