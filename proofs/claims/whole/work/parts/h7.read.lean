/-! LAYER 4. law read -/
section H7
variable {b : Nat → Nat} {L : Nat}
def LRo (u g : Hp) (cl : Option (Bool × Hp)) (ml : Option (Int32 × Hp)) : Prop :=
  (∃ u' g' l N, cl = some (true, u') ∧ ml = some (nI l, g') ∧ l ≤ 12 ∧ N ≤ 400 ∧ u' 516 8 = nI l ∧ (∀ l', l' < l → LNr N u' g' l') ∧ FWc u u' ∧ FWm g g' ∧ u' 2 2 = u 2 2) ∨
  (∃ u' g' x, cl = some (false, u') ∧ ml = some (-1, g') ∧ u' 2 2 = nI x ∧ g' 30 14 = nI x ∧ FWc u u' ∧ FWm g g')
theorem LRo_tr {u g u1 g1 : Hp} {cl : Option (Bool × Hp)} {ml : Option (Int32 × Hp)} (F : FWc u u1) (M : FWm g g1) (s : u1 2 2 = u 2 2) (h : LRo u1 g1 cl ml) : LRo u g cl ml := by
  rcases h with ⟨u', g', l, N, e1, e2, a1, a2, a3, a4, K, M', s'⟩ | ⟨u', g', x, e1, e2, x1, x2, K, M'⟩
  · exact Or.inl ⟨u', g', l, N, e1, e2, a1, a2, a3, a4, FWc_trans F K, FWm_trans M M', s'.trans s⟩
  · exact Or.inr ⟨u', g', x, e1, e2, x1, x2, FWc_trans F K, FWm_trans M M'⟩
theorem LNr_mv {N l : Nat} {u g u' g' : Hp} (h : LNr N u g l) (F : FRc u u') (M : FRm g g') : LNr N u' g' l :=
  LNr_fr h (fun k a c => by rw [F.1 k (by omega)]) (fun j _ => by rw [F.1 521 (by decide), F.1 522 (by decide)]; exact ⟨rfl, rfl⟩) (fun i _ => by rw [M.1 31 (by decide)]) (fun k _ _ => by rw [M.1 31 (by decide)]) (Nat.le_refl _)
theorem J_lloop : ∀ (k x nc nm : Nat) (u g : Hp) (f N : Nat), x + k = 12 → k < nc → k < nm → LWS b L f x N u g → LRo u g (F_X5_read_19 516 nc (nI x) u) (F_X12_readAll_28 0 nm (nI x) g) := by
  intro k
  induction k with
  | zero =>
    intro x nc nm u g f N hx hc hm H
    obtain ⟨nc, rfl⟩ : ∃ c, nc = c + 1 := ⟨nc - 1, by omega⟩
    obtain ⟨nm, rfl⟩ : ∃ c, nm = c + 1 := ⟨nm - 1, by omega⟩
    obtain rfl : x = 12 := by omega
    show LRo u g (S_X5_read_19 516 (F_X5_read_19 516 nc) (nI 12) u) (S_X12_readAll_28 0 (F_X12_readAll_28 0 nm) (nI 12) g)
    obtain ⟨X, T, Xm, ⟨p, P⟩, _⟩ := id H
    obtain ⟨g1, e1, h12, h14, Fm⟩ := m_letters Xm P
    unfold S_X5_read_19 S_X12_readAll_28 f_X12_readLine F_X12_readLine_16
    rw [if_neg (show ¬ nI 12 < 12 by decide), c_fail T, obS, e1, obS, if_pos rfl, if_neg (show ¬ nI 12 < 12 by decide), obS, tff]
    exact Or.inr ⟨_, _, f, rfl, rfl, by dsimp only; exact up1_same, h14, FWc_22, FWm_of Fm⟩
  | succ k ih =>
    intro x nc nm u g f N hx hc hm H
    obtain ⟨nc, rfl⟩ : ∃ c, nc = c + 1 := ⟨nc - 1, by omega⟩
    obtain ⟨nm, rfl⟩ : ∃ c, nm = c + 1 := ⟨nm - 1, by omega⟩
    show LRo u g (S_X5_read_19 516 (F_X5_read_19 516 nc) (nI x) u) (S_X12_readAll_28 0 (F_X12_readAll_28 0 nm) (nI x) g)
    unfold S_X5_read_19 S_X12_readAll_28
    rw [if_pos (show nI x < 12 from (nI_ltI (b := 12) (by omega) (by omega)).mpr (by omega))]
    rcases J_lawLine H (show x < 12 by omega) with ⟨u1, g1, f1, N1, e1, e2, H1, K1, M1, s1⟩ | ⟨u1, g1, y, e1, e2, x1, x2, K1, M1⟩
    · obtain ⟨X, T, Xm, ⟨p, P⟩, q8, q7, q18, hN, ln⟩ := id H1
      have fL := PT_f P
      have X4 := X.1
      obtain ⟨g2, e3, h12, h14, Fm⟩ := m_blanks Xm P
      have Xm2 := FRm_LX Fm Xm
      have P2 := PT_f2 P h12
      rw [e1, obS, ttt, e2, obS, ttt, e3, obS, c_isDone X T, h12, Xm2.2.1]
      by_cases c : f1 < L
      · rw [decide_eq_true c, Bool.not_true, tff, if_neg (fun z => by have := (nI_eq (by omega) (by omega)).mp z; omega), show (59 : Int32) = nI 59 from rfl, m_isC (c := 59) (by decide) Xm2 h12 fL, obS]
        obtain ⟨A, B⟩ := c_sign (c := 59) (by decide) X T
        cases d : sgnB b L f1 59
        · rw [B d, obS, tff, tff, c_fail T, obS]
          exact Or.inr ⟨_, _, f1, rfl, rfl, by dsimp only; exact up1_same, h14, FWc_trans K1 FWc_22, FWm_trans M1 (FWm_of Fm)⟩
        · obtain ⟨u2, e4, T2, F2⟩ := A d
          rw [e4, obS, ttt, ttt, bnd_eq, nI_1, nI_1]
          have FM := FRm_trans Fm (FRm1 (g := g2) (i := 12) (v := nI (f1 + 1)) (by omega))
          have nx := nx_lt (b := b) c
          have H2 : LWS b L (nxN b L f1) (x + 1) N1 u2 (up1 g2 30 12 (nI (f1 + 1))) := ⟨FRc_LX F2 X, T2, FRm_LX FM Xm, ⟨_, ed_L fL, by rw [up1_same, sg_ed (c := 59) (by decide) d], rfl⟩, by rw [F2.1 516 (by decide)]; exact q8, by rw [F2.1 516 (by decide)]; exact q7, by rw [FM.2 18 (by decide) (by decide)]; exact q18, by omega, fun l' hl' => LNr_mv (ln l' hl') F2 FM⟩
          exact LRo_tr (FWc_trans K1 (FWc_of F2)) (FWm_trans M1 (FWm_of FM)) (F2.2.2.trans s1) (ih (x + 1) nc nm u2 _ (nxN b L f1) N1 (by omega) (by omega) (by omega) H2)
      · rw [decide_eq_false c, Bool.not_false, ttt, if_pos (show nI f1 = nI L by rw [show f1 = L by omega]), nI_1]
        exact Or.inl ⟨u1, g2, x + 1, N1, rfl, rfl, by omega, by omega, q8, fun l' hl' => LNr_mv (ln l' hl') (FRc_refl u1) Fm, K1, FWm_trans M1 (FWm_of Fm), s1⟩
    · rw [e1, obS, tff, e2, obS, tff]
      exact Or.inr ⟨_, _, y, rfl, rfl, x1, x2, K1, M1⟩
theorem J_lread {u g : Hp} (X : LXc b L u) (e11 : g 30 11 = nI L) (hb : ∀ i, i < L → b i < 256 ∧ g 38 i = byS (b i)) : LRo (opnC u) (opnM g) (f_X5_read 516 u) (f_X12_readAll 0 g) := by
  have X4 := X.1
  have c2 : ∀ i, i ≠ 2 → i ≠ 4 → opnC u 2 i = u 2 i := fun i h1 h2 => by unfold opnC; rw [up1_at, upd_ob h2, up1_at, upd_ob h1]
  have co : ∀ k, k ≠ 2 → opnC u k = u k := fun k h => by unfold opnC; rw [up1_ob h, up1_ob h]
  have X0 : LXc b L (opnC u) := ⟨X4, by rw [c2 1 (by decide) (by decide)]; exact X.2.1, fun i hi => by rw [co 3 (by decide)]; exact X.2.2 i hi⟩
  have Xm : LXm b L (opnM g) := ⟨X4, by unfold opnM; rw [up1_at, upd_ob (by decide), us_13]; exact e11, fun i hi => by rw [opn_ob (by decide)]; exact hb i hi⟩
  have P : PTm b L 0 (skN b L 0) (opnM g) := ⟨Nat.zero_le _, by unfold opnM; rw [up1_at, upd_ob (by decide), us_12]; rfl, rfl⟩
  obtain ⟨u1, e1, T1, F1⟩ := c_step X0 (Nat.zero_le L) (show opnC u 2 4 = nI 0 by unfold opnC; rw [up1_same]; rfl)
  obtain ⟨g1, e2, h12, h14, Fm⟩ := m_blanks Xm P
  have fL := PT_f P
  have P1 := PT_f2 P h12
  obtain ⟨u2, hu2⟩ : ∃ u2, up1 (up1 u1 516 8 0) 516 7 0 = u2 := ⟨_, rfl⟩
  have o2 : ∀ k, k ≠ 516 → u2 k = u1 k := fun k h => by rw [← hu2, up1_ob h, up1_ob h]
  have X2 : LXc b L u2 := by rw [← hu2]; exact LXc_k (by decide) (by decide) (LXc_k (by decide) (by decide) (FRc_LX F1 X0))
  have T2 : TKc b L (skN b L 0) u2 := by rw [← hu2]; exact TKc_k (by decide) (TKc_k (by decide) T1)
  have g18 : g1 30 18 = nI 0 := by rw [Fm.2 18 (by decide) (by decide)]; unfold opnM; rw [up1_same]; rfl
  have H1 : LWS b L (skN b L 0) 0 0 u2 g1 := ⟨X2, T2, FRm_LX Fm Xm, ⟨_, P1⟩, by rw [← hu2, up1_at, upd_ob (by decide), up1_same]; rfl, by rw [← hu2, up1_same]; rfl, g18, Nat.zero_le _, fun l' h => absurd h (Nat.not_lt_zero _)⟩
  have FW : FWc (opnC u) u2 := FWc_trans (FWc_of F1) ⟨fun k _ h => o2 k (by omega), by rw [o2 2 (by decide)]⟩
  have s2 : u2 2 2 = opnC u 2 2 := by rw [o2 2 (by decide)]; exact F1.2.2
  have c0 : f_X5_read 516 u = if f_X10_isDone u2 then some (true, u2) else F_X5_read_19 516 FU 0 u2 := by
    unfold f_X5_read f_X10_open f_X4_clear
    rw [bnd_eq, bnd_eq, show up1 (up1 u 2 2 (-1)) 2 4 0 = opnC u from rfl, e1, obS, obS, bnd_eq, bnd_eq, obS, hu2]
  have m0 : f_X12_readAll 0 g = if (g1 30 12) = (g1 30 13) then some (0, g1) else F_X12_readAll_28 0 FU 0 g1 := by
    unfold f_X12_readAll
    rw [m_uses, obS, bnd_eq, show up1 (usM g) 30 18 0 = opnM g from rfl, e2, obS]
  have g13 := (FRm_LX Fm Xm).2.1
  rw [c0, m0, c_isDone X2 T2]
  by_cases c : skN b L 0 < L
  · rw [decide_eq_true c, Bool.not_true, tff, if_neg (by rw [h12, g13]; exact fun z => by have := (nI_eq (by omega) (by omega)).mp z; omega)]
    exact LRo_tr FW (FWm_of Fm) s2 (J_lloop 12 0 FU FU u2 g1 _ 0 rfl (by show 12 < 4000000; omega) (by show 12 < 4000000; omega) H1)
  · rw [decide_eq_false c, Bool.not_false, ttt, if_pos (by rw [h12, g13, show skN b L 0 = L by omega])]
    exact Or.inl ⟨u2, g1, 0, 0, rfl, rfl, by omega, by omega, H1.2.2.2.2.1, fun l' h => absurd h (Nat.not_lt_zero _), FW, FWm_of Fm, s2⟩
end H7
