/-! LAYER 4. The class's evening more -/
theorem min_bd {a : Int32} {x b : Nat} (hb : b < 1000) (h : a = nI x) (hx : x < 2 ^ 31) : ∃ y, y ≤ b ∧ imin (nI b) a = nI y := by
  subst h
  exact ⟨min b x, Nat.min_le_left _ _, zmin (by omega) hx⟩
theorem smF_nn {w : Row} {F : Nat → Int32} {k : Int32} {l : Nat} (g : GdL w) (hl : l < lnW w) : ∃ a, a ≤ 99 ∧ smF F w k l = nI a := by
  have h3 : w 3 = 1 := by
    by_cases c : w 3 = 1
    · exact c
    · unfold lnW at hl; rw [if_neg c] at hl; omega
  unfold lnW at hl
  rw [if_pos h3] at hl
  obtain ⟨a, ha, e⟩ := ((g.2 h3).2 l hl).2.1
  unfold smF
  by_cases c1 : w (493 + 4 * l) = k
  · rw [if_pos c1]
    by_cases c2 : hlW F w l = true
    · rw [if_pos c2]; exact ⟨a, ha, e⟩
    · rw [if_neg c2]; exact ⟨0, by omega, rfl⟩
  · rw [if_neg c1]; exact ⟨0, by omega, rfl⟩
theorem sumTo_nn {f : Nat → Int32} {B : Nat} : ∀ N, (∀ j, j < N → ∃ a, a ≤ B ∧ f j = nI a) → ∃ a, a ≤ B * N ∧ sumTo f N = nI a
  | 0, _ => ⟨0, by omega, rfl⟩
  | N + 1, h => by
    obtain ⟨a, ha, ea⟩ := sumTo_nn N (fun j hj => h j (by omega))
    obtain ⟨b, hb, eb⟩ := h N (by omega)
    refine ⟨a + b, ?_, ?_⟩
    · rw [Nat.mul_succ]; omega
    · show sumTo f N + f N = _
      rw [ea, eb, nI_add]
theorem ln_12 {w : Row} (g : GdL w) : lnW w ≤ 12 := by
  unfold lnW
  split
  · exact (bd_cl (g.2 ‹_›).1 (by decide)).2
  · omega
theorem sm_nn {n m i : Nat} {w : Row} {e k : Int32} (g : GdL w) : ∃ a, a ≤ 1188 ∧ smW n m w e k i = nI a := by
  obtain ⟨a, ha, e⟩ := sumTo_nn (f := smF (fcW n m w e i) w k) (B := 99) (lnW w) (fun j hj => smF_nn g hj)
  exact ⟨a, by have := ln_12 g; omega, e⟩
theorem age_Gd {n m i : Nat} {e : Int32} {w : Row} (hi : i < 8) (g : Gd n m w) : Gd n m (ageW n m e i w) := by
  have o : ∀ k, k ≠ 74 + 5 * i + 2 → k ≠ 74 + 5 * i + 3 → ageW n m e i w k = w k := fun k a b => age_ob ⟨a, b⟩
  have fb : ∀ j, falB (ageW n m e i w) j = falB w j := fun j => by unfold falB; rw [o _ (by omega) (by omega)]
  have ub : ∀ j, upB n (ageW n m e i w) j = upB n w j := fun j => by unfold upB; rw [fb]
  obtain ⟨gn, g1, g2, g3, g4, g5, g6, g7, g9, g8⟩ := g
  have q2 : bd (ageW n m e i w) (74 + 5 * i + 2) 9 := by
    unfold ageW
    by_cases z : falB w i = true
    · rw [if_pos z]; exact (g1 i hi).2.2.1
    · rw [if_neg z]
      obtain ⟨a, ha, ea⟩ := (g1 i hi).2.2.1
      obtain ⟨b, hb, eb⟩ := sm_nn (n := n) (m := m) (i := i) (e := e) (k := 2) gn.2.2.2.2
      have em : imin 9 (ivR w i + smW n m w e 2 i) = nI (min 9 (a + b)) := by
        unfold ivR; rw [ea, eb, nI_add, show (9 : Int32) = nI 9 from rfl, zmin (by omega) (by omega)]
      by_cases y : w 4 = 0
      · rw [if_pos y]; exact ⟨min 9 (a + b), by omega, by rw [upd_ob (by omega), upd_at, em]⟩
      · rw [if_neg y]; exact ⟨min 9 (a + b), by omega, by rw [upd_at, em]⟩
  have q3 : bd (ageW n m e i w) (74 + 5 * i + 3) 99 := by
    unfold ageW
    by_cases z : falB w i = true
    · rw [if_pos z]; exact (g1 i hi).2.2.2.1
    · rw [if_neg z]
      obtain ⟨a, ha, ea⟩ := (g1 i hi).2.2.2.1
      by_cases y : w 4 = 0
      · rw [if_pos y]
        refine ⟨min 99 (a + 1), by omega, ?_⟩
        rw [upd_at]
        unfold agR
        rw [ea, nI_1, show (99 : Int32) = nI 99 from rfl, zmin (by omega) (by omega)]
      · rw [if_neg y]; exact ⟨a, ha, by rw [upd_ob (by omega), ea]⟩
  refine ⟨GdN_congr (fun k hk => o k (by omega) (by omega)) gn, fun j hj => ?_, fun a b ha hb => ?_, fun p hp => ?_, ?_, ?_, ?_, ?_, ?_, ?_⟩
  · obtain ⟨a, b, c, d, f⟩ := g1 j hj
    refine ⟨bd_eq (o _ (by omega) (by omega)) a, bd_eq (o _ (by omega) (by omega)) b, ?_, ?_, bd_eq (o _ (by omega) (by omega)) f⟩
    · by_cases z : j = i
      · rw [z]; exact q2
      · exact bd_eq (o _ (by omega) (by omega)) c
    · by_cases z : j = i
      · rw [z]; exact q3
      · exact bd_eq (o _ (by omega) (by omega)) d
  · obtain ⟨x, y⟩ := g2 a b ha hb
    rw [ub, ub]
    exact ⟨bd_eq (o _ (by omega) (by omega)) x, fun q => by rw [o _ (by omega) (by omega)]; exact y q⟩
  · obtain ⟨x, y, z⟩ := g3 p hp
    refine ⟨?_, bd_eq (o _ (by omega) (by omega)) y, bd_eq (o _ (by omega) (by omega)) z⟩
    rw [o _ (by omega) (by omega)]
    rcases x with x | ⟨a, x1, x2, x3⟩
    · exact Or.inl x
    · exact Or.inr ⟨a, x1, by rw [fb]; exact x2, x3⟩
  · exact bd_eq (o _ (by omega) (by omega)) g4
  · exact bd_eq (o _ (by omega) (by omega)) g5
  · exact bd_eq (o _ (by omega) (by omega)) g6
  · exact bd_eq (o _ (by omega) (by omega)) g7
  · exact bd_eq (o _ (by omega) (by omega)) g9
  · exact bd_eq (o _ (by omega) (by omega)) g8
/-- one row of a person written -/
theorem at_Gd {n m p : Nat} {w : Row} {x : Int32} (g : Gd n m w) (hp : p < 6) (hx : x = -1 ∨ ∃ i, i < n ∧ falB w i = false ∧ x = nI i) : Gd n m (upd w (114 + 3 * p) x) := by
  have o : ∀ k, k ≠ 114 + 3 * p → upd w (114 + 3 * p) x k = w k := fun k a => upd_ob a
  have f8 := g.1.2.1
  have f6 := g.1.2.2.2.1
  have fb : ∀ j, j < 8 → falB (upd w (114 + 3 * p) x) j = falB w j := fun j hj => by unfold falB; rw [o _ (by omega)]
  have ub : ∀ j, j < 8 → upB n (upd w (114 + 3 * p) x) j = upB n w j := fun j hj => by unfold upB; rw [fb j hj]
  obtain ⟨gn, g1, g2, g3, g4, g5, g6, g7, g9, g8⟩ := g
  refine ⟨GdN_congr (fun k hk => o k (by omega)) gn, fun j hj => ?_, fun a b ha hb => ?_, fun q hq => ?_, ?_, ?_, ?_, ?_, ?_, ?_⟩
  · obtain ⟨a, b, c, d, f⟩ := g1 j hj
    exact ⟨bd_eq (o _ (by omega)) a, bd_eq (o _ (by omega)) b, bd_eq (o _ (by omega)) c, bd_eq (o _ (by omega)) d, bd_eq (o _ (by omega)) f⟩
  · obtain ⟨x, y⟩ := g2 a b ha hb
    rw [ub a ha, ub b hb]
    exact ⟨bd_eq (o _ (by omega)) x, fun q => by rw [o _ (by omega)]; exact y q⟩
  · obtain ⟨x1, y, z⟩ := g3 q hq
    refine ⟨?_, bd_eq (o _ (by omega)) y, bd_eq (o _ (by omega)) z⟩
    by_cases e : q = p
    · subst e
      rw [upd_at]
      rcases hx with h | ⟨i, h1, h2, h3⟩
      · exact Or.inl h
      · exact Or.inr ⟨i, h1, by rw [fb i (by omega)]; exact h2, h3⟩
    · rw [o _ (by omega)]
      rcases x1 with x1 | ⟨a, x1, x2, x3⟩
      · exact Or.inl x1
      · exact Or.inr ⟨a, x1, by rw [fb a (by omega)]; exact x2, x3⟩
  · exact bd_eq (o _ (by omega)) g4
  · exact bd_eq (o _ (by omega)) g5
  · exact bd_eq (o _ (by omega)) g6
  · exact bd_eq (o _ (by omega)) g7
  · exact bd_eq (o _ (by omega)) g9
  · exact bd_eq (o _ (by omega)) g8
/-- evening, week, wander, prop, seed written -/
theorem lo_Gd {n m : Nat} {w w' : Row} (g : Gd n m w) (o : ∀ k, k ≠ 2 → k ≠ 4 → k ≠ 5 → k ≠ 6 → k ≠ 7 → k ≠ 8 → k ≠ 9 → w' k = w k) (h4 : bd w' 4 6) (h5 : bd w' 5 9999) (h6 : bd w' 6 100) (h7 : bd w' 7 99) (h2 : bd w' 2 12) (h8 : bd w' 8 60) : Gd n m w' := by
  have fb : ∀ j, falB w' j = falB w j := fun j => by unfold falB; rw [o _ (by omega) (by omega) (by omega) (by omega) (by omega) (by omega) (by omega)]
  have ub : ∀ j, upB n w' j = upB n w j := fun j => by unfold upB; rw [fb j]
  obtain ⟨gn, g1, g2, g3, _⟩ := g
  have O : ∀ k, (k < 2 ∨ k = 3 ∨ 9 < k) → w' k = w k := fun k hk => o k (by omega) (by omega) (by omega) (by omega) (by omega) (by omega) (by omega)
  refine ⟨GdN_congr (fun k hk => O k (by omega)) gn, fun j hj => ?_, fun a b ha hb => ?_, fun q hq => ?_, h4, h5, h6, h7, h2, h8⟩
  · obtain ⟨a, b, c, d, f⟩ := g1 j hj
    exact ⟨bd_eq (O _ (by omega)) a, bd_eq (O _ (by omega)) b, bd_eq (O _ (by omega)) c, bd_eq (O _ (by omega)) d, bd_eq (O _ (by omega)) f⟩
  · obtain ⟨x, y⟩ := g2 a b ha hb
    rw [ub, ub]
    exact ⟨bd_eq (O _ (by omega)) x, fun q => by rw [O _ (by omega)]; exact y q⟩
  · obtain ⟨x1, y, z⟩ := g3 q hq
    refine ⟨?_, bd_eq (O _ (by omega)) y, bd_eq (O _ (by omega)) z⟩
    rw [O _ (by omega)]
    rcases x1 with x1 | ⟨a, x1, x2, x3⟩
    · exact Or.inl x1
    · exact Or.inr ⟨a, x1, by rw [fb]; exact x2, x3⟩
theorem seed_Gd {n m : Nat} {w : Row} {x : Int32} (g : Gd n m w) : Gd n m (upd w 9 x) := by
  have g' := g
  obtain ⟨gn, g1, g2, g3, g4, g5, g6, g7, g9, g8⟩ := g
  refine lo_Gd g' (fun k _ _ _ _ _ _ a => upd_ob a) ?_ ?_ ?_ ?_ ?_ ?_
  · exact bd_eq (upd_ob (by decide)) g4
  · exact bd_eq (upd_ob (by decide)) g5
  · exact bd_eq (upd_ob (by decide)) g6
  · exact bd_eq (upd_ob (by decide)) g7
  · exact bd_eq (upd_ob (by decide)) g9
  · exact bd_eq (upd_ob (by decide)) g8
theorem upS_f {w : Row} {T : Nat} (h : upS w T = true) : falB w T = false := by
  unfold upS at h
  cases hf : falB w T
  · rfl
  · rw [hf] at h; cases h
theorem wan_Gd {n m p : Nat} {w : Row} (hp : p < 6) (g : Gd n m w) : Gd n m (wanW n p w) := by
  unfold wanW
  split
  · exact g
  · split
    · split
      · exact seed_Gd g
      · rename_i z
        refine at_Gd (seed_Gd g) hp (Or.inr ⟨_, ?_, ?_, rfl⟩)
        · exact (nthT_ok (Nat.mod_lt _ (by omega))).1
        · have := (nthT_ok (p := upS w) (n := n) (x := (drV (drS (drS (w 9)))).toNatClampNeg % cnt (upS w) n) (Nat.mod_lt _ (by omega))).2.1
          have e : ∀ j, falB (upd w 9 (drS (drS (w 9)))) j = falB w j := fun j => by unfold falB; rw [upd_ob (by omega)]
          rw [e]
          exact upS_f this
    · exact seed_Gd g
theorem tick_Gd {n m : Nat} {w : Row} (g : Gd n m w) : Gd n m (tickW w) := by
  have g' := g
  obtain ⟨gn, g1, g2, g3, g4, g5, g6, g7, g9, g8⟩ := g
  obtain ⟨e, he, ee⟩ := g4
  obtain ⟨k, hk, ek⟩ := g5
  have k7 : (w 4 + 1 = 7) = (e = 6) := by
    rw [ee, nI_1, show (7 : Int32) = nI 7 from rfl, zeq (by omega) (by omega)]
    exact propext ⟨fun _ => by omega, fun _ => by omega⟩
  refine lo_Gd g' (fun k _ a b _ _ _ _ => tick_ob a b) ?_ ?_ ?_ ?_ ?_ ?_
  · unfold tickW
    by_cases z : e = 6
    · rw [if_pos (by rw [k7]; exact z)]; exact ⟨0, by omega, by rw [upd_ob (by decide), upd_at]; rfl⟩
    · rw [if_neg (by rw [k7]; exact z)]; exact ⟨e + 1, by omega, by rw [upd_at, ee, nI_1]⟩
  · unfold tickW
    by_cases z : e = 6
    · rw [if_pos (by rw [k7]; exact z)]
      refine ⟨min 9999 (k + 1), by omega, ?_⟩
      rw [upd_at, ek, nI_1, show (9999 : Int32) = nI 9999 from by decide, zmin (by omega) (by omega)]
    · rw [if_neg (by rw [k7]; exact z)]; exact ⟨k, hk, by rw [upd_ob (by decide), ek]⟩
  · exact bd_eq (tick_ob (by decide) (by decide)) g6
  · exact bd_eq (tick_ob (by decide) (by decide)) g7
  · exact bd_eq (tick_ob (by decide) (by decide)) g9
  · exact bd_eq (tick_ob (by decide) (by decide)) g8
theorem ev_Gd {n m : Nat} {calm : Bool} {w : Row} (g : Gd n m w) : Gd n m (evW calm n m w) := by
  have g1 : Gd n m (agW n m (w 4) (fallW n m (w 4) 0 w).2.2) :=
    fldN_ind (fun _ (v : Row) => Gd n m v) (fl_Gd 9 0 w g) n fun i v hi h => age_Gd (by have := g.1.2.1; omega) h
  unfold evW
  refine tick_Gd ?_
  cases calm
  · exact fldN_ind (fun _ (v : Row) => Gd n m v) g1 m fun i v hi h => wan_Gd (by have := g.1.2.2.2.1; omega) h
  · exact g1
theorem go_Gd {n m : Nat} {calm : Bool} {w : Row} (g : Gd n m w) : ∀ j, Gd n m (goW calm n m w j)
  | 0 => g
  | j + 1 => ev_Gd (go_Gd g j)
