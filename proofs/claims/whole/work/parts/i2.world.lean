/-! ASSEMBLY: every cell of the first heap stands -/
section AL
variable {l : Launch} {s : State} {D : va_G} {c : Nat → ClassId} {b q0 q1 q2 : Nat} {qs0 qs1 f : Nat → Nat} {H : Heap}
theorem arrV_cg {cA : ClassId} {n : Nat} {g g' : Nat → Value} (h : ∀ j, j < n → g j = g' j) : arrV cA n g = arrV cA n g' := by
  have : (fun j : Fin n => g j.val) = fun j : Fin n => g' j.val := funext fun j => h j.val j.isLt
  unfold arrV
  rw [this]
theorem objs_lo : ∀ k, k < 100 → cls k ≠ 99 → k ∈ [1, 2, 3, 4, 5, 6, 7, 8, 9, 10, 11, 12, 13, 14, 15, 16, 17, 18, 19, 20, 21, 22, 23, 24, 25, 26, 27, 30, 31, 32, 33, 34, 35, 36, 37, 38, 39, 40, 41, 42, 43, 44, 45, 46, 50] := by decide +kernel
theorem objs_hi : ∀ k, k < 548 → 100 ≤ k → cls k ≠ 99 → (k < 436 ∧ (k - 100) % 16 ≤ 10) ∨ (500 ≤ k ∧ (k - 500) % 16 ≤ 7) := by decide +kernel
theorem mem_objs {k : Nat} (h : k ∈ objs) : k < 548 ∧ cls k ≠ 99 := by
  have ⟨h1, h2⟩ := List.mem_filter.mp h
  exact ⟨List.mem_range.mp h1, by simpa using h2⟩
def wsC (c : Nat → ClassId) (q0 : Nat) (qs0 : Nat → Nat) (q1 : Nat) (qs1 : Nat → Nat) (q2 : Nat) : va_W := [] ++ (((([] : va_W) ++ sh_X11 c q0 qs0) ++ sh_X12 c q1 qs1) ++ [(q2, .inl (c 3, 1, .inr (.inl fun _ => 0)))])
set_option maxRecDepth 100000 in
theorem at_all {AT : Nat × va_E → Prop} (hAT : ∀ (a n : Nat) (u v : Nat → Option Nat), (∀ i, i < n → u i = v i) → AT (a, .inl (c 4, n, .inr (.inr (.inr (.inr u))))) → AT (a, .inl (c 4, n, .inr (.inr (.inr (.inr v)))))) (P : ∀ q ∈ wsC c q0 qs0 q1 qs1 q2, AT q) : ∀ k ∈ objs, AT (adT b q0 qs0 q1 qs1 q2 f k, cellE ((l, s, adT b q0 qs0 q1 qs1 q2 f, D, c) : GX) h0c k) := by
  unfold wsC sh_X11 sh_X12 sh_X10 sh_X3 sh_X9 sh_X8 sh_X7 sh_X0 at P
  simp only [List.forall_mem_append, List.forall_mem_cons, List.forall_mem_nil, List.nil_append, and_true, true_and] at P
  obtain ⟨⟨⟨⟨t1, t27⟩, ⟨⟨⟨⟨⟨⟨⟨⟨⟨⟨⟨⟨⟨⟨⟨⟨⟨⟨⟨⟨⟨⟨⟨t2, t3⟩, C0⟩, C1⟩, L0⟩, L1⟩, ⟨t4, ⟨t5, ⟨⟨⟨⟨⟨⟨⟨⟨t6, t7⟩, t8⟩, t9⟩, t10⟩, t11⟩, t12⟩, t13⟩, t14⟩⟩⟩⟩, ⟨⟨t15, t17⟩, ⟨⟨⟨⟨⟨⟨⟨t16, t18⟩, S0⟩, S1⟩, S2⟩, S3⟩, S4⟩, S5⟩⟩⟩, ⟨t19, ⟨⟨t20, t21⟩, t22⟩⟩⟩, ⟨t23, ⟨⟨t24, t25⟩, t26⟩⟩⟩, C2⟩, L2⟩, C3⟩, C4⟩, C5⟩, C6⟩, C7⟩, C8⟩, C9⟩, C10⟩, C11⟩, C12⟩, C13⟩, C14⟩⟩, ⟨⟨t30, t31⟩, ⟨⟨⟨⟨⟨⟨⟨⟨⟨⟨⟨⟨⟨⟨t32, t33⟩, t34⟩, t35⟩, t36⟩, t37⟩, t38⟩, t39⟩, t40⟩, t41⟩, t42⟩, t43⟩, t44⟩, t45⟩, t46⟩⟩⟩, t50⟩ := P
  have C0' := at_city (l := l) (s := s) (ad := adT b q0 qs0 q1 qs1 q2 f) (D := D) (h := h0c) (k := 100) ⟨0, by decide, rfl⟩ C0 rfl (fun i hi => by
    rcases (show i = 0 ∨ i = 1 ∨ i = 2 ∨ i = 3 ∨ i = 4 ∨ i = 5 ∨ i = 6 ∨ i = 7 ∨ i = 8 ∨ i = 9 by omega) with rfl | rfl | rfl | rfl | rfl | rfl | rfl | rfl | rfl | rfl
    all_goals rfl) rfl (fun i h1 h2 => by
    rcases (show i = 1 ∨ i = 2 ∨ i = 3 ∨ i = 4 ∨ i = 5 ∨ i = 6 ∨ i = 7 ∨ i = 8 ∨ i = 9 ∨ i = 10 by omega) with rfl | rfl | rfl | rfl | rfl | rfl | rfl | rfl | rfl | rfl
    all_goals rfl)
  have C1' := at_city (l := l) (s := s) (ad := adT b q0 qs0 q1 qs1 q2 f) (D := D) (h := h0c) (k := 116) ⟨1, by decide, rfl⟩ C1 rfl (fun i hi => by
    rcases (show i = 0 ∨ i = 1 ∨ i = 2 ∨ i = 3 ∨ i = 4 ∨ i = 5 ∨ i = 6 ∨ i = 7 ∨ i = 8 ∨ i = 9 by omega) with rfl | rfl | rfl | rfl | rfl | rfl | rfl | rfl | rfl | rfl
    all_goals rfl) rfl (fun i h1 h2 => by
    rcases (show i = 1 ∨ i = 2 ∨ i = 3 ∨ i = 4 ∨ i = 5 ∨ i = 6 ∨ i = 7 ∨ i = 8 ∨ i = 9 ∨ i = 10 by omega) with rfl | rfl | rfl | rfl | rfl | rfl | rfl | rfl | rfl | rfl
    all_goals rfl)
  have C2' := at_city (l := l) (s := s) (ad := adT b q0 qs0 q1 qs1 q2 f) (D := D) (h := h0c) (k := 132) ⟨2, by decide, rfl⟩ C2 rfl (fun i hi => by
    rcases (show i = 0 ∨ i = 1 ∨ i = 2 ∨ i = 3 ∨ i = 4 ∨ i = 5 ∨ i = 6 ∨ i = 7 ∨ i = 8 ∨ i = 9 by omega) with rfl | rfl | rfl | rfl | rfl | rfl | rfl | rfl | rfl | rfl
    all_goals rfl) rfl (fun i h1 h2 => by
    rcases (show i = 1 ∨ i = 2 ∨ i = 3 ∨ i = 4 ∨ i = 5 ∨ i = 6 ∨ i = 7 ∨ i = 8 ∨ i = 9 ∨ i = 10 by omega) with rfl | rfl | rfl | rfl | rfl | rfl | rfl | rfl | rfl | rfl
    all_goals rfl)
  have C3' := at_city (l := l) (s := s) (ad := adT b q0 qs0 q1 qs1 q2 f) (D := D) (h := h0c) (k := 148) ⟨3, by decide, rfl⟩ C3 rfl (fun i hi => by
    rcases (show i = 0 ∨ i = 1 ∨ i = 2 ∨ i = 3 ∨ i = 4 ∨ i = 5 ∨ i = 6 ∨ i = 7 ∨ i = 8 ∨ i = 9 by omega) with rfl | rfl | rfl | rfl | rfl | rfl | rfl | rfl | rfl | rfl
    all_goals rfl) rfl (fun i h1 h2 => by
    rcases (show i = 1 ∨ i = 2 ∨ i = 3 ∨ i = 4 ∨ i = 5 ∨ i = 6 ∨ i = 7 ∨ i = 8 ∨ i = 9 ∨ i = 10 by omega) with rfl | rfl | rfl | rfl | rfl | rfl | rfl | rfl | rfl | rfl
    all_goals rfl)
  have C4' := at_city (l := l) (s := s) (ad := adT b q0 qs0 q1 qs1 q2 f) (D := D) (h := h0c) (k := 164) ⟨4, by decide, rfl⟩ C4 rfl (fun i hi => by
    rcases (show i = 0 ∨ i = 1 ∨ i = 2 ∨ i = 3 ∨ i = 4 ∨ i = 5 ∨ i = 6 ∨ i = 7 ∨ i = 8 ∨ i = 9 by omega) with rfl | rfl | rfl | rfl | rfl | rfl | rfl | rfl | rfl | rfl
    all_goals rfl) rfl (fun i h1 h2 => by
    rcases (show i = 1 ∨ i = 2 ∨ i = 3 ∨ i = 4 ∨ i = 5 ∨ i = 6 ∨ i = 7 ∨ i = 8 ∨ i = 9 ∨ i = 10 by omega) with rfl | rfl | rfl | rfl | rfl | rfl | rfl | rfl | rfl | rfl
    all_goals rfl)
  have C5' := at_city (l := l) (s := s) (ad := adT b q0 qs0 q1 qs1 q2 f) (D := D) (h := h0c) (k := 180) ⟨5, by decide, rfl⟩ C5 rfl (fun i hi => by
    rcases (show i = 0 ∨ i = 1 ∨ i = 2 ∨ i = 3 ∨ i = 4 ∨ i = 5 ∨ i = 6 ∨ i = 7 ∨ i = 8 ∨ i = 9 by omega) with rfl | rfl | rfl | rfl | rfl | rfl | rfl | rfl | rfl | rfl
    all_goals rfl) rfl (fun i h1 h2 => by
    rcases (show i = 1 ∨ i = 2 ∨ i = 3 ∨ i = 4 ∨ i = 5 ∨ i = 6 ∨ i = 7 ∨ i = 8 ∨ i = 9 ∨ i = 10 by omega) with rfl | rfl | rfl | rfl | rfl | rfl | rfl | rfl | rfl | rfl
    all_goals rfl)
  have C6' := at_city (l := l) (s := s) (ad := adT b q0 qs0 q1 qs1 q2 f) (D := D) (h := h0c) (k := 196) ⟨6, by decide, rfl⟩ C6 rfl (fun i hi => by
    rcases (show i = 0 ∨ i = 1 ∨ i = 2 ∨ i = 3 ∨ i = 4 ∨ i = 5 ∨ i = 6 ∨ i = 7 ∨ i = 8 ∨ i = 9 by omega) with rfl | rfl | rfl | rfl | rfl | rfl | rfl | rfl | rfl | rfl
    all_goals rfl) rfl (fun i h1 h2 => by
    rcases (show i = 1 ∨ i = 2 ∨ i = 3 ∨ i = 4 ∨ i = 5 ∨ i = 6 ∨ i = 7 ∨ i = 8 ∨ i = 9 ∨ i = 10 by omega) with rfl | rfl | rfl | rfl | rfl | rfl | rfl | rfl | rfl | rfl
    all_goals rfl)
  have C7' := at_city (l := l) (s := s) (ad := adT b q0 qs0 q1 qs1 q2 f) (D := D) (h := h0c) (k := 212) ⟨7, by decide, rfl⟩ C7 rfl (fun i hi => by
    rcases (show i = 0 ∨ i = 1 ∨ i = 2 ∨ i = 3 ∨ i = 4 ∨ i = 5 ∨ i = 6 ∨ i = 7 ∨ i = 8 ∨ i = 9 by omega) with rfl | rfl | rfl | rfl | rfl | rfl | rfl | rfl | rfl | rfl
    all_goals rfl) rfl (fun i h1 h2 => by
    rcases (show i = 1 ∨ i = 2 ∨ i = 3 ∨ i = 4 ∨ i = 5 ∨ i = 6 ∨ i = 7 ∨ i = 8 ∨ i = 9 ∨ i = 10 by omega) with rfl | rfl | rfl | rfl | rfl | rfl | rfl | rfl | rfl | rfl
    all_goals rfl)
  have C8' := at_city (l := l) (s := s) (ad := adT b q0 qs0 q1 qs1 q2 f) (D := D) (h := h0c) (k := 228) ⟨8, by decide, rfl⟩ C8 rfl (fun i hi => by
    rcases (show i = 0 ∨ i = 1 ∨ i = 2 ∨ i = 3 ∨ i = 4 ∨ i = 5 ∨ i = 6 ∨ i = 7 ∨ i = 8 ∨ i = 9 by omega) with rfl | rfl | rfl | rfl | rfl | rfl | rfl | rfl | rfl | rfl
    all_goals rfl) rfl (fun i h1 h2 => by
    rcases (show i = 1 ∨ i = 2 ∨ i = 3 ∨ i = 4 ∨ i = 5 ∨ i = 6 ∨ i = 7 ∨ i = 8 ∨ i = 9 ∨ i = 10 by omega) with rfl | rfl | rfl | rfl | rfl | rfl | rfl | rfl | rfl | rfl
    all_goals rfl)
  have C9' := at_city (l := l) (s := s) (ad := adT b q0 qs0 q1 qs1 q2 f) (D := D) (h := h0c) (k := 244) ⟨9, by decide, rfl⟩ C9 rfl (fun i hi => by
    rcases (show i = 0 ∨ i = 1 ∨ i = 2 ∨ i = 3 ∨ i = 4 ∨ i = 5 ∨ i = 6 ∨ i = 7 ∨ i = 8 ∨ i = 9 by omega) with rfl | rfl | rfl | rfl | rfl | rfl | rfl | rfl | rfl | rfl
    all_goals rfl) rfl (fun i h1 h2 => by
    rcases (show i = 1 ∨ i = 2 ∨ i = 3 ∨ i = 4 ∨ i = 5 ∨ i = 6 ∨ i = 7 ∨ i = 8 ∨ i = 9 ∨ i = 10 by omega) with rfl | rfl | rfl | rfl | rfl | rfl | rfl | rfl | rfl | rfl
    all_goals rfl)
  have C10' := at_city (l := l) (s := s) (ad := adT b q0 qs0 q1 qs1 q2 f) (D := D) (h := h0c) (k := 260) ⟨10, by decide, rfl⟩ C10 rfl (fun i hi => by
    rcases (show i = 0 ∨ i = 1 ∨ i = 2 ∨ i = 3 ∨ i = 4 ∨ i = 5 ∨ i = 6 ∨ i = 7 ∨ i = 8 ∨ i = 9 by omega) with rfl | rfl | rfl | rfl | rfl | rfl | rfl | rfl | rfl | rfl
    all_goals rfl) rfl (fun i h1 h2 => by
    rcases (show i = 1 ∨ i = 2 ∨ i = 3 ∨ i = 4 ∨ i = 5 ∨ i = 6 ∨ i = 7 ∨ i = 8 ∨ i = 9 ∨ i = 10 by omega) with rfl | rfl | rfl | rfl | rfl | rfl | rfl | rfl | rfl | rfl
    all_goals rfl)
  have C11' := at_city (l := l) (s := s) (ad := adT b q0 qs0 q1 qs1 q2 f) (D := D) (h := h0c) (k := 276) ⟨11, by decide, rfl⟩ C11 rfl (fun i hi => by
    rcases (show i = 0 ∨ i = 1 ∨ i = 2 ∨ i = 3 ∨ i = 4 ∨ i = 5 ∨ i = 6 ∨ i = 7 ∨ i = 8 ∨ i = 9 by omega) with rfl | rfl | rfl | rfl | rfl | rfl | rfl | rfl | rfl | rfl
    all_goals rfl) rfl (fun i h1 h2 => by
    rcases (show i = 1 ∨ i = 2 ∨ i = 3 ∨ i = 4 ∨ i = 5 ∨ i = 6 ∨ i = 7 ∨ i = 8 ∨ i = 9 ∨ i = 10 by omega) with rfl | rfl | rfl | rfl | rfl | rfl | rfl | rfl | rfl | rfl
    all_goals rfl)
  have C12' := at_city (l := l) (s := s) (ad := adT b q0 qs0 q1 qs1 q2 f) (D := D) (h := h0c) (k := 292) ⟨12, by decide, rfl⟩ C12 rfl (fun i hi => by
    rcases (show i = 0 ∨ i = 1 ∨ i = 2 ∨ i = 3 ∨ i = 4 ∨ i = 5 ∨ i = 6 ∨ i = 7 ∨ i = 8 ∨ i = 9 by omega) with rfl | rfl | rfl | rfl | rfl | rfl | rfl | rfl | rfl | rfl
    all_goals rfl) rfl (fun i h1 h2 => by
    rcases (show i = 1 ∨ i = 2 ∨ i = 3 ∨ i = 4 ∨ i = 5 ∨ i = 6 ∨ i = 7 ∨ i = 8 ∨ i = 9 ∨ i = 10 by omega) with rfl | rfl | rfl | rfl | rfl | rfl | rfl | rfl | rfl | rfl
    all_goals rfl)
  have C13' := at_city (l := l) (s := s) (ad := adT b q0 qs0 q1 qs1 q2 f) (D := D) (h := h0c) (k := 308) ⟨13, by decide, rfl⟩ C13 rfl (fun i hi => by
    rcases (show i = 0 ∨ i = 1 ∨ i = 2 ∨ i = 3 ∨ i = 4 ∨ i = 5 ∨ i = 6 ∨ i = 7 ∨ i = 8 ∨ i = 9 by omega) with rfl | rfl | rfl | rfl | rfl | rfl | rfl | rfl | rfl | rfl
    all_goals rfl) rfl (fun i h1 h2 => by
    rcases (show i = 1 ∨ i = 2 ∨ i = 3 ∨ i = 4 ∨ i = 5 ∨ i = 6 ∨ i = 7 ∨ i = 8 ∨ i = 9 ∨ i = 10 by omega) with rfl | rfl | rfl | rfl | rfl | rfl | rfl | rfl | rfl | rfl
    all_goals rfl)
  have C14' := at_city (l := l) (s := s) (ad := adT b q0 qs0 q1 qs1 q2 f) (D := D) (h := h0c) (k := 324) ⟨14, by decide, rfl⟩ C14 rfl (fun i hi => by
    rcases (show i = 0 ∨ i = 1 ∨ i = 2 ∨ i = 3 ∨ i = 4 ∨ i = 5 ∨ i = 6 ∨ i = 7 ∨ i = 8 ∨ i = 9 by omega) with rfl | rfl | rfl | rfl | rfl | rfl | rfl | rfl | rfl | rfl
    all_goals rfl) rfl (fun i h1 h2 => by
    rcases (show i = 1 ∨ i = 2 ∨ i = 3 ∨ i = 4 ∨ i = 5 ∨ i = 6 ∨ i = 7 ∨ i = 8 ∨ i = 9 ∨ i = 10 by omega) with rfl | rfl | rfl | rfl | rfl | rfl | rfl | rfl | rfl | rfl
    all_goals rfl)
  have S0' := at_city (l := l) (s := s) (ad := adT b q0 qs0 q1 qs1 q2 f) (D := D) (h := h0c) (k := 340) ⟨15, by decide, rfl⟩ S0 rfl (fun i hi => by
    rcases (show i = 0 ∨ i = 1 ∨ i = 2 ∨ i = 3 ∨ i = 4 ∨ i = 5 ∨ i = 6 ∨ i = 7 ∨ i = 8 ∨ i = 9 by omega) with rfl | rfl | rfl | rfl | rfl | rfl | rfl | rfl | rfl | rfl
    all_goals rfl) rfl (fun i h1 h2 => by
    rcases (show i = 1 ∨ i = 2 ∨ i = 3 ∨ i = 4 ∨ i = 5 ∨ i = 6 ∨ i = 7 ∨ i = 8 ∨ i = 9 ∨ i = 10 by omega) with rfl | rfl | rfl | rfl | rfl | rfl | rfl | rfl | rfl | rfl
    all_goals rfl)
  have S1' := at_city (l := l) (s := s) (ad := adT b q0 qs0 q1 qs1 q2 f) (D := D) (h := h0c) (k := 356) ⟨16, by decide, rfl⟩ S1 rfl (fun i hi => by
    rcases (show i = 0 ∨ i = 1 ∨ i = 2 ∨ i = 3 ∨ i = 4 ∨ i = 5 ∨ i = 6 ∨ i = 7 ∨ i = 8 ∨ i = 9 by omega) with rfl | rfl | rfl | rfl | rfl | rfl | rfl | rfl | rfl | rfl
    all_goals rfl) rfl (fun i h1 h2 => by
    rcases (show i = 1 ∨ i = 2 ∨ i = 3 ∨ i = 4 ∨ i = 5 ∨ i = 6 ∨ i = 7 ∨ i = 8 ∨ i = 9 ∨ i = 10 by omega) with rfl | rfl | rfl | rfl | rfl | rfl | rfl | rfl | rfl | rfl
    all_goals rfl)
  have S2' := at_city (l := l) (s := s) (ad := adT b q0 qs0 q1 qs1 q2 f) (D := D) (h := h0c) (k := 372) ⟨17, by decide, rfl⟩ S2 rfl (fun i hi => by
    rcases (show i = 0 ∨ i = 1 ∨ i = 2 ∨ i = 3 ∨ i = 4 ∨ i = 5 ∨ i = 6 ∨ i = 7 ∨ i = 8 ∨ i = 9 by omega) with rfl | rfl | rfl | rfl | rfl | rfl | rfl | rfl | rfl | rfl
    all_goals rfl) rfl (fun i h1 h2 => by
    rcases (show i = 1 ∨ i = 2 ∨ i = 3 ∨ i = 4 ∨ i = 5 ∨ i = 6 ∨ i = 7 ∨ i = 8 ∨ i = 9 ∨ i = 10 by omega) with rfl | rfl | rfl | rfl | rfl | rfl | rfl | rfl | rfl | rfl
    all_goals rfl)
  have S3' := at_city (l := l) (s := s) (ad := adT b q0 qs0 q1 qs1 q2 f) (D := D) (h := h0c) (k := 388) ⟨18, by decide, rfl⟩ S3 rfl (fun i hi => by
    rcases (show i = 0 ∨ i = 1 ∨ i = 2 ∨ i = 3 ∨ i = 4 ∨ i = 5 ∨ i = 6 ∨ i = 7 ∨ i = 8 ∨ i = 9 by omega) with rfl | rfl | rfl | rfl | rfl | rfl | rfl | rfl | rfl | rfl
    all_goals rfl) rfl (fun i h1 h2 => by
    rcases (show i = 1 ∨ i = 2 ∨ i = 3 ∨ i = 4 ∨ i = 5 ∨ i = 6 ∨ i = 7 ∨ i = 8 ∨ i = 9 ∨ i = 10 by omega) with rfl | rfl | rfl | rfl | rfl | rfl | rfl | rfl | rfl | rfl
    all_goals rfl)
  have S4' := at_city (l := l) (s := s) (ad := adT b q0 qs0 q1 qs1 q2 f) (D := D) (h := h0c) (k := 404) ⟨19, by decide, rfl⟩ S4 rfl (fun i hi => by
    rcases (show i = 0 ∨ i = 1 ∨ i = 2 ∨ i = 3 ∨ i = 4 ∨ i = 5 ∨ i = 6 ∨ i = 7 ∨ i = 8 ∨ i = 9 by omega) with rfl | rfl | rfl | rfl | rfl | rfl | rfl | rfl | rfl | rfl
    all_goals rfl) rfl (fun i h1 h2 => by
    rcases (show i = 1 ∨ i = 2 ∨ i = 3 ∨ i = 4 ∨ i = 5 ∨ i = 6 ∨ i = 7 ∨ i = 8 ∨ i = 9 ∨ i = 10 by omega) with rfl | rfl | rfl | rfl | rfl | rfl | rfl | rfl | rfl | rfl
    all_goals rfl)
  have S5' := at_city (l := l) (s := s) (ad := adT b q0 qs0 q1 qs1 q2 f) (D := D) (h := h0c) (k := 420) ⟨20, by decide, rfl⟩ S5 rfl (fun i hi => by
    rcases (show i = 0 ∨ i = 1 ∨ i = 2 ∨ i = 3 ∨ i = 4 ∨ i = 5 ∨ i = 6 ∨ i = 7 ∨ i = 8 ∨ i = 9 by omega) with rfl | rfl | rfl | rfl | rfl | rfl | rfl | rfl | rfl | rfl
    all_goals rfl) rfl (fun i h1 h2 => by
    rcases (show i = 1 ∨ i = 2 ∨ i = 3 ∨ i = 4 ∨ i = 5 ∨ i = 6 ∨ i = 7 ∨ i = 8 ∨ i = 9 ∨ i = 10 by omega) with rfl | rfl | rfl | rfl | rfl | rfl | rfl | rfl | rfl | rfl
    all_goals rfl)
  have L0' := at_law (l := l) (s := s) (ad := adT b q0 qs0 q1 qs1 q2 f) (D := D) (h := h0c) (k := 500) ⟨0, by decide, rfl⟩ L0 rfl (fun i hi => by
    rcases (show i = 0 ∨ i = 1 ∨ i = 2 ∨ i = 3 ∨ i = 4 ∨ i = 5 ∨ i = 6 by omega) with rfl | rfl | rfl | rfl | rfl | rfl | rfl
    all_goals rfl) rfl (fun i h1 h2 => by
    rcases (show i = 1 ∨ i = 2 ∨ i = 3 ∨ i = 4 ∨ i = 5 ∨ i = 6 ∨ i = 7 by omega) with rfl | rfl | rfl | rfl | rfl | rfl | rfl
    all_goals rfl)
  have L1' := at_law (l := l) (s := s) (ad := adT b q0 qs0 q1 qs1 q2 f) (D := D) (h := h0c) (k := 516) ⟨1, by decide, rfl⟩ L1 rfl (fun i hi => by
    rcases (show i = 0 ∨ i = 1 ∨ i = 2 ∨ i = 3 ∨ i = 4 ∨ i = 5 ∨ i = 6 by omega) with rfl | rfl | rfl | rfl | rfl | rfl | rfl
    all_goals rfl) rfl (fun i h1 h2 => by
    rcases (show i = 1 ∨ i = 2 ∨ i = 3 ∨ i = 4 ∨ i = 5 ∨ i = 6 ∨ i = 7 by omega) with rfl | rfl | rfl | rfl | rfl | rfl | rfl
    all_goals rfl)
  have L2' := at_law (l := l) (s := s) (ad := adT b q0 qs0 q1 qs1 q2 f) (D := D) (h := h0c) (k := 532) ⟨2, by decide, rfl⟩ L2 rfl (fun i hi => by
    rcases (show i = 0 ∨ i = 1 ∨ i = 2 ∨ i = 3 ∨ i = 4 ∨ i = 5 ∨ i = 6 by omega) with rfl | rfl | rfl | rfl | rfl | rfl | rfl
    all_goals rfl) rfl (fun i h1 h2 => by
    rcases (show i = 1 ∨ i = 2 ∨ i = 3 ∨ i = 4 ∨ i = 5 ∨ i = 6 ∨ i = 7 by omega) with rfl | rfl | rfl | rfl | rfl | rfl | rfl
    all_goals rfl)
  intro k hk
  obtain ⟨k5, k9⟩ := mem_objs hk
  by_cases lo : k < 100
  · have m := objs_lo k lo k9
    simp only [List.mem_cons, List.not_mem_nil, or_false] at m
    rcases m with rfl | rfl | rfl | rfl | rfl | rfl | rfl | rfl | rfl | rfl | rfl | rfl | rfl | rfl | rfl | rfl | rfl | rfl | rfl | rfl | rfl | rfl | rfl | rfl | rfl | rfl | rfl | rfl | rfl | rfl | rfl | rfl | rfl | rfl | rfl | rfl | rfl | rfl | rfl | rfl | rfl | rfl | rfl | rfl | rfl
    · rw [cell_ob (m := 9) rfl (by decide)]
      exact t1
    · rw [cell_ob (m := 8) rfl (by decide)]
      exact t2.1
    · rw [cell_ar (t := 0) rfl (by decide) rfl]
      exact t3.1
    · rw [cell_ob (m := 2) rfl (by decide)]
      exact t4.1
    · rw [cell_ob (m := 7) rfl (by decide)]
      exact t5.1
    · rw [cell_ar (t := 0) rfl (by decide) rfl]
      exact t6.1
    · rw [cell_ar (t := 0) rfl (by decide) rfl]
      exact t7.1
    · rw [cell_ar (t := 0) rfl (by decide) rfl]
      exact t8.1
    · rw [cell_ar (t := 0) rfl (by decide) rfl]
      exact t9.1
    · rw [cell_ar (t := 0) rfl (by decide) rfl]
      exact t10.1
    · rw [cell_ar (t := 0) rfl (by decide) rfl]
      exact t11.1
    · rw [cell_ar (t := 0) rfl (by decide) rfl]
      exact t12.1
    · rw [cell_ar (t := 0) rfl (by decide) rfl]
      exact t13.1
    · rw [cell_ar (t := 0) rfl (by decide) rfl]
      exact t14.1
    · rw [cell_ob (m := 6) rfl (by decide)]
      exact t15
    · rw [cell_ar (t := 0) rfl (by decide) rfl]
      exact t16.1
    · have e : cellE ((l, s, adT b q0 qs0 q1 qs1 q2 f, D, c) : GX) h0c 17 = .inl (c 4, 6, .inr (.inr (.inr (.inr fun i => some (adT b q0 qs0 q1 qs1 q2 f (rel 17 i)))))) := rfl
      rw [e]
      have z := t17.1
      refine hAT _ _ _ _ (fun i hi => ?_) z
      rcases (show i = 0 ∨ i = 1 ∨ i = 2 ∨ i = 3 ∨ i = 4 ∨ i = 5 by omega) with rfl | rfl | rfl | rfl | rfl | rfl
      all_goals rfl
    · rw [cell_ar (t := 0) rfl (by decide) rfl]
      exact t18.1
    · rw [cell_ob (m := 5) rfl (by decide)]
      exact t19.1
    · rw [cell_ar (t := 0) rfl (by decide) rfl]
      exact t20.1
    · rw [cell_ar (t := 0) rfl (by decide) rfl]
      exact t21.1
    · rw [cell_ar (t := 0) rfl (by decide) rfl]
      exact t22.1
    · rw [cell_ob (m := 0) rfl (by decide)]
      exact t23.1
    · rw [cell_ar (t := 0) rfl (by decide) rfl]
      exact t24.1
    · rw [cell_ar (t := 0) rfl (by decide) rfl]
      exact t25.1
    · rw [cell_ar (t := 0) rfl (by decide) rfl]
      exact t26.1
    · have e : cellE ((l, s, adT b q0 qs0 q1 qs1 q2 f, D, c) : GX) h0c 27 = .inl (c 4, 12, .inr (.inr (.inr (.inr fun i => some (adT b q0 qs0 q1 qs1 q2 f (rel 27 i)))))) := rfl
      rw [e]
      have z := t27.1
      refine hAT _ _ _ _ (fun i hi => ?_) z
      rcases (show i = 0 ∨ i = 1 ∨ i = 2 ∨ i = 3 ∨ i = 4 ∨ i = 5 ∨ i = 6 ∨ i = 7 ∨ i = 8 ∨ i = 9 ∨ i = 10 ∨ i = 11 by omega) with rfl | rfl | rfl | rfl | rfl | rfl | rfl | rfl | rfl | rfl | rfl | rfl
      all_goals rfl
    · rw [cell_ob (m := 10) rfl (by decide)]
      exact t30
    · rw [cell_ar (t := 0) rfl (by decide) rfl]
      exact t31.1
    · rw [cell_ar (t := 0) rfl (by decide) rfl]
      exact t32.1
    · rw [cell_ar (t := 0) rfl (by decide) rfl]
      exact t33.1
    · rw [cell_ar (t := 0) rfl (by decide) rfl]
      exact t34.1
    · rw [cell_ar (t := 0) rfl (by decide) rfl]
      exact t35.1
    · rw [cell_ar (t := 0) rfl (by decide) rfl]
      exact t36.1
    · rw [cell_ar (t := 0) rfl (by decide) rfl]
      exact t37.1
    · rw [cell_ar (t := 1) rfl (by decide) rfl]
      exact t38.1
    · rw [cell_ar (t := 0) rfl (by decide) rfl]
      exact t39.1
    · rw [cell_ar (t := 0) rfl (by decide) rfl]
      exact t40.1
    · rw [cell_ar (t := 0) rfl (by decide) rfl]
      exact t41.1
    · rw [cell_ar (t := 0) rfl (by decide) rfl]
      exact t42.1
    · rw [cell_ar (t := 2) rfl (by decide) rfl]
      exact t43.1
    · rw [cell_ar (t := 0) rfl (by decide) rfl]
      exact t44.1
    · rw [cell_ar (t := 0) rfl (by decide) rfl]
      exact t45.1
    · rw [cell_ar (t := 0) rfl (by decide) rfl]
      exact t46.1
    · exact t50.1
  · rcases objs_hi k k5 (by omega) k9 with ⟨h1, h2⟩ | ⟨h1, h2⟩
    · have e : k = 100 + 16 * ((k - 100) / 16) + (k - 100) % 16 := by omega
      have c21 : (k - 100) / 16 < 21 := by omega
      generalize (k - 100) / 16 = d at e c21
      generalize (k - 100) % 16 = j at e h2
      subst e
      rcases (show d = 0 ∨ d = 1 ∨ d = 2 ∨ d = 3 ∨ d = 4 ∨ d = 5 ∨ d = 6 ∨ d = 7 ∨ d = 8 ∨ d = 9 ∨ d = 10 ∨ d = 11 ∨ d = 12 ∨ d = 13 ∨ d = 14 ∨ d = 15 ∨ d = 16 ∨ d = 17 ∨ d = 18 ∨ d = 19 ∨ d = 20 by omega) with rfl | rfl | rfl | rfl | rfl | rfl | rfl | rfl | rfl | rfl | rfl | rfl | rfl | rfl | rfl | rfl | rfl | rfl | rfl | rfl | rfl
      · exact C0' j h2
      · exact C1' j h2
      · exact C2' j h2
      · exact C3' j h2
      · exact C4' j h2
      · exact C5' j h2
      · exact C6' j h2
      · exact C7' j h2
      · exact C8' j h2
      · exact C9' j h2
      · exact C10' j h2
      · exact C11' j h2
      · exact C12' j h2
      · exact C13' j h2
      · exact C14' j h2
      · exact S0' j h2
      · exact S1' j h2
      · exact S2' j h2
      · exact S3' j h2
      · exact S4' j h2
      · exact S5' j h2
    · have e : k = 500 + 16 * ((k - 500) / 16) + (k - 500) % 16 := by omega
      have c3 : (k - 500) / 16 < 3 := by omega
      generalize (k - 500) / 16 = d at e c3
      generalize (k - 500) % 16 = j at e h2
      subst e
      rcases (show d = 0 ∨ d = 1 ∨ d = 2 by omega) with rfl | rfl | rfl
      · exact L0' j h2
      · exact L1' j h2
      · exact L2' j h2
end AL
