/-! LAYER 4. How much can press: numbers, not words that go round -/
def sumN (f : Nat → Nat) : Nat → Nat
  | 0 => 0
  | j + 1 => sumN f j + f j
theorem sumN_congr {f g : Nat → Nat} : ∀ n, (∀ j, j < n → f j = g j) → sumN f n = sumN g n
  | 0, _ => rfl
  | n + 1, h => by
    show sumN f n + f n = sumN g n + g n
    rw [sumN_congr n (fun j hj => h j (by omega)), h n (by omega)]
theorem sumN_add {f g : Nat → Nat} : ∀ n, sumN (fun j => f j + g j) n = sumN f n + sumN g n
  | 0 => rfl
  | n + 1 => by
    show sumN (fun j => f j + g j) n + (f n + g n) = sumN f n + f n + (sumN g n + g n)
    rw [sumN_add n]; omega
theorem sumN_le {f : Nat → Nat} {B : Nat} : ∀ n, (∀ j, j < n → f j ≤ B) → sumN f n ≤ B * n
  | 0, _ => Nat.zero_le _
  | n + 1, h => by
    show sumN f n + f n ≤ B * (n + 1)
    have a := sumN_le (f := f) (B := B) n (fun j hj => h j (by omega))
    have b := h n (by omega)
    rw [Nat.mul_succ]; omega
theorem sumN_mono {f : Nat → Nat} : ∀ {b a : Nat}, a ≤ b → sumN f a ≤ sumN f b
  | 0, a, h => by rw [show a = 0 from by omega]; exact Nat.le_refl _
  | b + 1, a, h => by
    by_cases c : a = b + 1
    · rw [c]; exact Nat.le_refl _
    · exact Nat.le_trans (sumN_mono (b := b) (by omega)) (Nat.le_add_right _ _)
theorem sumN_one {f : Nat → Nat} {n i : Nat} (hi : i < n) : f i ≤ sumN f n :=
  Nat.le_trans (show f i ≤ sumN f (i + 1) from Nat.le_add_left _ _) (sumN_mono hi)
theorem sumN_div {f : Nat → Nat} {c s : Nat} : ∀ n, sumN (fun o => c * f o / s) n * s ≤ c * sumN f n
  | 0 => by show 0 * s ≤ _; rw [Nat.zero_mul]; exact Nat.zero_le _
  | n + 1 => by
    show (sumN (fun o => c * f o / s) n + c * f n / s) * s ≤ c * (sumN f n + f n)
    rw [Nat.add_mul, Nat.mul_add]
    have a := sumN_div (f := f) (c := c) (s := s) n
    have b := Nat.div_mul_le_self (c * f n) s
    omega
theorem sumTo_N {f : Nat → Int32} {F : Nat → Nat} : ∀ n, (∀ j, j < n → f j = nI (F j)) → sumTo f n = nI (sumN F n)
  | 0, _ => rfl
  | n + 1, h => by
    show sumTo f n + f n = nI (sumN F n + F n)
    rw [sumTo_N n (fun j hj => h j (by omega)), h n (by omega), nI_add]
section BD
variable {n m : Nat} {w : Row}
theorem pt_N (g : Gd n m w) : ∃ F : Nat → Nat → Nat, ∀ i o, i < 8 → o < 8 → F i o ≤ 9 ∧ ptR w i o = nI (F i o) := by
  refine ⟨fun i o => (ptR w i o).toNatClampNeg, fun i o hi ho => ?_⟩
  have := bd_cl (g.2.2.1 i o hi ho).1 (by decide)
  exact ⟨this.2, this.1⟩
theorem wt_N (g : Gd n m w) : ∃ F : Nat → Nat, ∀ i, i < 8 → F i ≤ 99 ∧ wtR w i = nI (F i) := by
  refine ⟨fun i => (wtR w i).toNatClampNeg, fun i hi => ?_⟩
  have := bd_cl (g.2.1 i hi).1 (by decide)
  exact ⟨this.2, this.1⟩
theorem gives_N {Pt : Nat → Nat → Nat} {Wt P : Nat → Nat} {p nx : Row} (h8 : n ≤ 8) (hP : ∀ i o, i < 8 → o < 8 → Pt i o ≤ 9 ∧ ptR w i o = nI (Pt i o)) (hW : ∀ i, i < 8 → Wt i ≤ 99 ∧ wtR w i = nI (Wt i)) (hp : ∀ i, i < 8 → p i = nI (P i)) (hp8 : sumN P 8 ≤ 792)
    (hn : ∀ o, o < 8 → nx o = nI 0) : ∀ i, i ≤ n → ∃ G : Nat → Nat, (∀ o, o < 8 → givesAll n (wtR w) (ptR w) p nx i o = nI (G o)) ∧ sumN G 8 ≤ sumN (fun h => (Wt h + P h) / 2) i
  | 0, _ => ⟨fun _ => 0, fun o ho => hn o ho, by
      have : ∀ k, sumN (fun _ => 0) k = 0 := fun k => by
        induction k with
        | zero => rfl
        | succ k ih => show sumN (fun _ => 0) k + 0 = 0; rw [ih]
      rw [this 8]; exact Nat.zero_le _⟩
  | i + 1, hi => by
    obtain ⟨G, g1, g2⟩ := gives_N h8 hP hW hp hp8 hn i (by omega)
    have s1 : sumTo (ptR w i) n = nI (sumN (Pt i) n) := sumTo_N n fun o ho => (hP i o (by omega) (by omega)).2
    have s2 : sumN (Pt i) n ≤ 9 * n := sumN_le n fun o ho => (hP i o (by omega) (by omega)).1
    have pi : P i ≤ 792 := Nat.le_trans (sumN_one (by omega)) hp8
    have wi := hW i (by omega)
    have hf : (wtR w i + p i) / 2 = nI ((Wt i + P i) / 2) := by
      rw [wi.2, hp i (by omega), nI_add, show (2 : Int32) = nI 2 from rfl, zdv (by omega) (by omega) (by omega)]
    show ∃ G, (∀ o, o < 8 → givesS n (wtR w) (ptR w) p i (givesAll n (wtR w) (ptR w) p nx i) o = nI (G o)) ∧ sumN G 8 ≤ sumN (fun h => (Wt h + P h) / 2) i + (Wt i + P i) / 2
    unfold givesS
    rw [s1]
    have zp : (0 < nI (sumN (Pt i) n)) = (0 < sumN (Pt i) n) := zp0 (by omega)
    by_cases c : 0 < sumN (Pt i) n
    · refine ⟨fun o => G o + (if o < n then (Wt i + P i) / 2 * Pt i o / sumN (Pt i) n else 0), fun o ho => ?_, ?_⟩
      · rw [if_pos (zp.mpr c)]
        unfold givS
        by_cases d : o < n
        · have ho' := hP i o (by omega) ho
          have q1 : (Wt i + P i) / 2 * Pt i o ≤ 500 * 9 := Nat.mul_le_mul (by omega) ho'.1
          dsimp only
          rw [if_pos d, if_pos d, g1 o ho, hf, ho'.2, zmul, zdv (by omega) (by omega) (by omega), nI_add]
        · dsimp only
          rw [if_neg d, if_neg d, Nat.add_zero]; exact g1 o ho
      · rw [sumN_add]
        have a : sumN (fun o => if o < n then (Wt i + P i) / 2 * Pt i o / sumN (Pt i) n else 0) 8 = sumN (fun o => (Wt i + P i) / 2 * Pt i o / sumN (Pt i) n) n := by
          have : ∀ N, n ≤ N → sumN (fun o => if o < n then (Wt i + P i) / 2 * Pt i o / sumN (Pt i) n else 0) N = sumN (fun o => (Wt i + P i) / 2 * Pt i o / sumN (Pt i) n) n := by
            intro N
            induction N with
            | zero => intro hN; rw [show n = 0 from by omega]; rfl
            | succ N ih =>
              intro hN
              by_cases x : n = N + 1
              · subst x
                exact sumN_congr _ fun k hk => by rw [if_pos hk]
              · show sumN _ N + (if N < n then _ else 0) = _
                rw [ih (by omega), if_neg (by omega), Nat.add_zero]
          exact this 8 h8
        have b := sumN_div (f := Pt i) (c := (Wt i + P i) / 2) (s := sumN (Pt i) n) n
        have d := Nat.le_of_mul_le_mul_right b c
        omega
    · rw [if_neg (fun q => c (zp.mp q))]
      exact ⟨G, g1, by omega⟩
theorem pr_N (g : Gd n m w) : ∃ P : Nat → Nat, (∀ i, i < 8 → prW n w i = nI (P i)) ∧ sumN P 8 ≤ 792 := by
  obtain ⟨Pt, hP⟩ := pt_N g
  obtain ⟨Wt, hW⟩ := wt_N g
  have h8 := g.1.2.1
  have K : ∀ k, ∃ P : Nat → Nat, (∀ i, i < 8 → (roundsS n (wtR w) (ptR w) (z0, z0) k).1 i = nI (P i)) ∧ sumN P 8 ≤ 792 := by
    intro k
    induction k with
    | zero =>
      refine ⟨fun _ => 0, fun i hi => rfl, ?_⟩
      exact Nat.le_trans (sumN_le (B := 0) 8 fun _ _ => Nat.le_refl 0) (by omega)
    | succ k ih =>
      obtain ⟨P, p1, p2⟩ := ih
      obtain ⟨G, g1, g2⟩ := gives_N h8 hP hW p1 p2 (nx := fun o => if o < 8 then 0 else (roundsS n (wtR w) (ptR w) (z0, z0) k).2 o) (fun o ho => if_pos ho) n (Nat.le_refl n)
      refine ⟨G, fun i hi => ?_, ?_⟩
      · show (if i < 8 then givesAll n (wtR w) (ptR w) (roundsS n (wtR w) (ptR w) (z0, z0) k).1 (fun o => if o < 8 then 0 else (roundsS n (wtR w) (ptR w) (z0, z0) k).2 o) n i else _) = _
        rw [if_pos hi]; exact g1 i hi
      · have a : ∀ N, 2 * sumN (fun h => (Wt h + P h) / 2) N ≤ sumN Wt N + sumN P N := by
          intro N
          induction N with
          | zero => exact Nat.le_refl 0
          | succ N ih =>
            show 2 * (sumN (fun h => (Wt h + P h) / 2) N + (Wt N + P N) / 2) ≤ sumN Wt N + Wt N + (sumN P N + P N)
            omega
        have b : sumN (fun h => (Wt h + P h) / 2) n ≤ sumN (fun h => (Wt h + P h) / 2) 8 := sumN_mono h8
        have c : sumN Wt 8 ≤ 99 * 8 := sumN_le 8 fun i hi => (hW i hi).1
        have d := a 8
        omega
  exact K 12
theorem br_N (g : Gd n m w) {i : Nat} (hi : i < 8) : ∃ b, b ≤ 891 ∧ brW n w i = nI b := by
  obtain ⟨P, p1, p2⟩ := pr_N g
  obtain ⟨Wt, hW⟩ := wt_N g
  have a : P i ≤ 792 := Nat.le_trans (sumN_one hi) p2
  unfold brW
  rw [p1 i hi, (hW i hi).2]
  have := (hW i hi).1
  by_cases c : psW n w i = 0
  · rw [if_pos c]; exact ⟨P i + Wt i, by omega, nI_add _ _⟩
  · rw [if_neg c]; exact ⟨P i, by omega, Int32.add_zero _⟩
theorem hp_N (g : Gd n m w) {i : Nat} {e : Int32} : ∃ b, b ≤ 594 ∧ hpW m w e i = nI b := by
  have h6 := g.1.2.2.2.1
  obtain ⟨a, ha, e1⟩ := sumTo_nn (f := fun p => if thB w e i p then hdR w p else 0) (B := 99) m (fun p hp => by
    show ∃ a, a ≤ 99 ∧ (if thB w e i p = true then hdR w p else 0) = nI a
    by_cases c : thB w e i p = true
    · rw [if_pos c]; exact (g.2.2.2.1 p hp).2.1
    · rw [if_neg c]; exact ⟨0, by omega, rfl⟩)
  exact ⟨a, by omega, e1⟩
theorem imax_sub {a b : Nat} (ha : a < 2 ^ 30) (hb : b < 2 ^ 30) : imax 0 (nI a - nI b) = nI (a - b) := by
  unfold imax
  by_cases c : b < a
  · have : 0 < nI a - nI b := by
      rw [pk_sub (by omega), zp0 (by omega)]; omega
    rw [if_pos this, pk_sub (by omega)]
  · have : ¬ 0 < nI a - nI b := by
      rw [Int32.lt_iff_toInt_lt, pk_sub_toInt ha hb]
      show ¬ (0 : Int) < _
      omega
    rw [if_neg this, show a - b = 0 from by omega]; rfl
theorem st_N (g : Gd n m w) {i : Nat} {e : Int32} (hi : i < 8) : ∃ b, b ≤ 2790 ∧ stW n m w e i = nI b := by
  obtain ⟨_, ⟨f, f1, f2⟩, ⟨v, v1, v2⟩, _⟩ := g.2.1 i hi
  obtain ⟨p, p1, p2⟩ := hp_N g (i := i) (e := e)
  obtain ⟨a, a1, a2⟩ := sm_nn (n := n) (m := m) (i := i) (e := e) (k := 0) g.1.2.2.2.2
  obtain ⟨b, b1, b2⟩ := sm_nn (n := n) (m := m) (i := i) (e := e) (k := 1) g.1.2.2.2.2
  unfold stW
  rw [show fmR w i = nI f from f2, show ivR w i = nI v from v2, p2, a2, b2, nI_add, nI_add, nI_add, imax_sub (by omega) (by omega)]
  exact ⟨f + v + p + a - b, by omega, rfl⟩
/-- SAGS as a difference of numbers -/
theorem sg_N (g : Gd n m w) {i : Nat} {e : Int32} (hi : i < 8) : ∃ b t, b ≤ 891 ∧ t ≤ 2790 ∧ brW n w i = nI b ∧ stW n m w e i = nI t ∧ sgW n m w e 0 i = nI b - nI t := by
  obtain ⟨b, b1, b2⟩ := br_N g hi
  obtain ⟨t, t1, t2⟩ := st_N g (e := e) hi
  exact ⟨b, t, b1, t1, b2, t2, by rw [sg_0, b2, t2]⟩
end BD
