/-! LAYER 4. The model's machine for a condition: codes cd (0..15), numbers nm, facts F; a state is (top, stack) -/
def jnM (c : Nat) (a b : Int32) : Int32 :=
  if c = 10 then a + b else bI (if c = 11 then decide (a < b) else if c = 12 then decide (b < a) else if c = 14 then decide (a + b = 2) else decide (0 < a + b))
def opM (F : Nat → Int32) (c : Nat) (x : Int32) (s : Nat × (Nat → Int32)) : Nat × (Nat → Int32) :=
  if c ≤ 9 then (s.1 + 1, upd s.2 s.1 (if c = 9 then x else F c))
  else if c = 13 then (s.1, upd s.2 (s.1 - 1) (1 - s.2 (s.1 - 1)))
  else (s.1 - 1, upd s.2 (s.1 - 2) (jnM c (s.2 (s.1 - 2)) (s.2 (s.1 - 1))))
def okM (c t : Nat) : Prop := c ≤ 15 ∧ (c ≤ 9 → t < 400) ∧ (c = 13 → 1 ≤ t ∧ t ≤ 400) ∧ (9 < c → c ≠ 13 → 2 ≤ t ∧ t ≤ 400)
def runM (F : Nat → Int32) (cd : Nat → Nat) (nm : Nat → Int32) (b : Nat) (v : Nat → Int32) : Nat → Nat × (Nat → Int32)
  | 0 => (0, v)
  | j + 1 => opM F (cd (b + j)) (nm (b + j)) (runM F cd nm b v j)
theorem factM_40 {h : Hp} {n m i : Nat} {v : Nat → Int32} (k : Nat) : factM (upA h 40 v) n m i k = factM h n m i k := by
  unfold factM
  rw [upA_ob (show 31 ≠ 40 by decide), upA_ob (show 30 ≠ 40 by decide), upA_ob (show 36 ≠ 40 by decide)]
