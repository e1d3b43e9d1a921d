/-! LAYER 4. One lemma for every loop of the generated functions -/
theorem loopR {T R : Type} (S : T → T) (z : T) (ev : Nat → T → R) (N : Nat) (res : R) (hstep : ∀ j, j < N → ∀ q : T, ev j (S q) = ev (j + 1) q) (hend : ∀ q : T, ev N (S q) = res) :
    ∀ (m n j : Nat), j + m = N → m < n → ev j (Nat.rec (motive := fun _ => T) z (fun _ q => S q) n) = res := by
  intro m
  induction m with
  | zero =>
    intro n j hj hn
    obtain ⟨n', rfl⟩ : ∃ n', n = n' + 1 := ⟨n - 1, by omega⟩
    have e : j = N := by omega
    subst e
    exact hend _
  | succ m ih =>
    intro n j hj hn
    obtain ⟨n', rfl⟩ : ∃ n', n = n' + 1 := ⟨n - 1, by omega⟩
    show ev j (S (Nat.rec (motive := fun _ => T) z (fun _ q => S q) n')) = res
    rw [hstep j (by omega)]
    exact ih n' (j + 1) (by omega) (by omega)
theorem loop0 {T R : Type} (S : T → T) (z : T) (ev : Nat → T → R) (N : Nat) (res : R) (hN : N < 1000000) (hstep : ∀ j, j < N → ∀ q : T, ev j (S q) = ev (j + 1) q) (hend : ∀ q : T, ev N (S q) = res) :
    ev 0 (Nat.rec (motive := fun _ => T) z (fun _ q => S q) FU) = res :=
  loopR S z ev N res hstep hend N FU 0 (Nat.zero_add N) (by show N < 4000000; omega)
theorem gdT {α : Type} {c : Prop} [Decidable c] {b : Option α} (h : c) : gd c b = b := if_pos h
theorem bnd_eq {α β : Type} (e : α) (f : α → β) : bnd e f = f e := rfl
theorem nI_ix {j n : Nat} (h : j < n) (hn : n < 2 ^ 31) : ix (nI j) n := ⟨nI_pos (by omega), by rw [nI_clamp (by omega)]; exact h⟩
theorem nI_lt_lit {j n : Nat} (hj : j < 2 ^ 31) (hn : n < 2 ^ 31) : (nI j < nI n) ↔ j < n := nI_ltI hj hn
theorem up1_same {h : Hp} {k i : Nat} {v : Int32} : up1 h k i v k i = v := by
  unfold up1 upA upd; rw [if_pos rfl, if_pos rfl]
theorem up1_ob {h : Hp} {k k' i : Nat} {v : Int32} (e : k' ≠ k) : up1 h k i v k' = h k' := by
  unfold up1 upA; rw [if_neg e]
theorem up1_at {h : Hp} {k i : Nat} {v : Int32} : up1 h k i v k = upd (h k) i v := by
  unfold up1 upA; rw [if_pos rfl]
/-! the model's small readers -/
theorem m_at (h : Hp) (x y : Int32) : f_X12_at x y h = 74 + 5 * x + y := rfl
theorem m_partAt (h : Hp) (x y : Int32) : f_X12_partAt x y h = 10 + 8 * x + y := rfl
theorem m_personAt (h : Hp) (x y : Int32) : f_X12_personAt x y h = 114 + 3 * x + y := rfl
theorem m_houses (h : Hp) : f_X12_houses h = h 31 0 := rfl
theorem m_people (h : Hp) : f_X12_people h = h 31 1 := rfl
theorem m_of {h : Hp} {i w : Nat} (hi : i < 8) (hw : w < 5) : f_X12_of (nI i) (nI w) h = some (h 31 (74 + 5 * i + w)) := by
  have e : f_X12_at (nI i) (nI w) h = nI (74 + 5 * i + w) := by
    rw [m_at, show (74 : Int32) = nI 74 from by decide, show (5 : Int32) = nI 5 from by decide, pk_mul, nI_add, nI_add]
  unfold f_X12_of
  rw [e]
  have hx : ix (nI (74 + 5 * i + w)) 2190 := nI_ix (by omega) (by omega)
  first
    | (rw [gdT hx, nI_clamp (by omega)])
    | (simp only [gdT hx, nI_clamp (show 74 + 5 * i + w < 2 ^ 31 by omega)])
def orTo (p : Nat → Bool) : Nat → Int32
  | 0 => 0
  | j + 1 => orTo p j ||| (if p j then shl 1 (nI j) else 0)
theorem orTo_succ (p : Nat → Bool) (j : Nat) : orTo p (j + 1) = orTo p j ||| (if p j then shl 1 (nI j) else 0) := rfl
theorem m_isFallen {h : Hp} {i : Nat} (hi : i < 8) : f_X12_isFallen (nI i) h = some (decide (h 31 (74 + 5 * i + 4) = 1)) := by
  unfold f_X12_isFallen
  rw [show (4 : Int32) = nI 4 from by decide, m_of hi (by omega)]
  show (if h 31 (74 + 5 * i + 4) = 1 then some true else some false) = _
  by_cases c : h 31 (74 + 5 * i + 4) = 1
  · rw [if_pos c, decide_eq_true c]
  · rw [if_neg c, decide_eq_false c]
theorem m_standing {h : Hp} {n : Nat} (hn : h 31 0 = nI n) (h8 : n ≤ 8) : f_X12_standing h = some (orTo (fun i => !decide (h 31 (74 + 5 * i + 4) = 1)) n) := by
  have H := loop0 (S_X12_standing_4 h) (fun _ _ => none) (fun j q => q (orTo (fun i => !decide (h 31 (74 + 5 * i + 4) = 1)) j) (nI j)) n (some (orTo (fun i => !decide (h 31 (74 + 5 * i + 4) = 1)) n)) (by omega) (fun j hj q => ?_) (fun q => ?_)
  · exact H
  · show S_X12_standing_4 h q _ _ = _
    unfold S_X12_standing_4
    rw [m_houses, hn, if_pos ((nI_ltI (by omega) (by omega)).mpr hj), m_isFallen (by omega)]
    show (if decide (h 31 (74 + 5 * j + 4) = 1) = true then _ else _) = _
    rw [orTo_succ]
    unfold F_X12_standing_28
    simp only [bnd_eq, nI_1]
    generalize decide (h 31 (74 + 5 * j + 4) = 1) = d
    cases d <;> rfl
  · show S_X12_standing_4 h q _ _ = _
    unfold S_X12_standing_4
    rw [m_houses, hn, if_neg (fun q => absurd ((nI_ltI (by omega) (by omega)).mp q) (Nat.lt_irrefl n))]
