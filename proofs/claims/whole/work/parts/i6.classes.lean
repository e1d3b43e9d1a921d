/-! ASSEMBLY: the classes -/
section CL6
variable {s : State} {args : Array Value}
theorem k_inst (ci : Nat) (q : vw_C) (hq : vwCl[ci]? = some q) : Cond.instantiable q.1 q.2.2 ∈ TB := by
  match ci, hq with
  | 0, hq => cases hq; exact inst_X0
  | 1, hq => cases hq; exact inst_X1
  | 2, hq => cases hq; exact inst_X3
  | 3, hq => cases hq; exact inst_X4
  | 4, hq => cases hq; exact inst_X6
  | 5, hq => cases hq; exact inst_X7
  | 6, hq => cases hq; exact inst_X8
  | 7, hq => cases hq; exact inst_X9
  | 8, hq => cases hq; exact inst_X10
  | 9, hq => cases hq; exact inst_X11
  | 10, hq => cases hq; exact inst_X12
  | k + 11, hq => simp at hq
theorem k_cls (htb : ∀ w ∈ TB, w.before args s = true) : ∃ D : va_G, ∀ (k : Nat) (q : vw_C), vwCl[k]? = some q → u_Kn s q.1 q.2.1 q.2.2 (D.1 k) (D.2 k) := by
  have H : ∀ k : Nat, ∃ x : ClassId × (Nat → Nat), ∀ q : vw_C, vwCl[k]? = some q → u_Kn s q.1 q.2.1 q.2.2 x.1 x.2 := fun k => by
    cases e : vwCl[k]? with
    | none => exact ⟨Classical.choice (by
        obtain ⟨cC, iS, _⟩ := u_known htb (u_wsTB (ci := 0) rfl) (htb _ (k_inst 0 _ rfl))
        exact ⟨(cC, iS)⟩), fun q h => by cases h⟩
    | some r =>
      obtain ⟨cC, iS, h⟩ := u_known (C := r.1) (T := r.2.1) (N := r.2.2) htb (u_wsTB (ci := k) e) (htb _ (k_inst k r e))
      exact ⟨(cC, iS), fun q hq => by cases hq; exact h⟩
  obtain ⟨F, hF⟩ := Classical.axiomOfChoice H
  exact ⟨(fun k => (F k).1, fun k => (F k).2), fun k q h => hF k q h⟩
end CL6
