/-! LAYER 4. The model's machine for a condition: codes cd (0..15), numbers nm, facts F; a state is (top, stack) -/
def jnM (c : Nat) (a b : Int32) : Int32 :=
  if c = 10 then a + b else bI (if c = 11 then decide (a < b) else if c = 12 then decide (b < a) else if c = 14 then decide (a + b = 2) else decide (0 < a + b))
def opM (F : Nat → Int32) (c : Nat) (x : Int32) (s : Nat × (Nat → Int32)) : Nat × (Nat → Int32) :=
  if c ≤ 9 then (s.1 + 1, upd s.2 s.1 (if c = 9 then x else F c))
  else if c = 13 then (s.1, upd s.2 (s.1 - 1) (1 - s.2 (s.1 - 1)))
  else (s.1 - 1, upd s.2 (s.1 - 2) (jnM c (s.2 (s.1 - 2)) (s.2 (s.1 - 1))))
def okM (c t : Nat) : Prop := c ≤ 15 ∧ (c ≤ 9 → t < 400) ∧ (c = 13 → 1 ≤ t ∧ t ≤ 400) ∧ (9 < c → c ≠ 13 → 2 ≤ t ∧ t ≤ 400)
def runM (F : Nat → Int32) (cd : Nat → Nat) (nm : Nat → Int32) (b : Nat) (v : Nat → Int32) : Nat → Nat × (Nat → Int32)
  | 0 => (0, v)
  | j + 1 => opM F (cd (b + j)) (nm (b + j)) (runM F cd nm b v j)
theorem factM_40 {h : Hp} {n m i : Nat} {v : Nat → Int32} (k : Nat) : factM (upA h 40 v) n m i k = factM h n m i k := by
  unfold factM
  rw [upA_ob (show 31 ≠ 40 by decide), upA_ob (show 30 ≠ 40 by decide), upA_ob (show 36 ≠ 40 by decide)]
theorem m_in {h : Hp} {x : Int32} {n : Nat} (hn : n ≤ 8) (hn0 : n < 2 ^ 31) : f_X12_in x 0 (nI n - 1) h = decide (0 ≤ x ∧ x ≤ nI n - 1) := by
  unfold f_X12_in
  by_cases c : x < 0
  · rw [if_pos c, decide_eq_false]
    intro q; exact absurd c (Int32.not_lt.mpr q.1)
  · rw [if_neg c]
    by_cases d : nI n - 1 < x
    · rw [if_pos d, decide_eq_false]
      intro q; exact absurd d (Int32.not_lt.mpr q.2)
    · rw [if_neg d, decide_eq_true]
      exact ⟨Int32.not_lt.mp c, Int32.not_lt.mp d⟩
