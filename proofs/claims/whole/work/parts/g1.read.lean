/-! LAYER 4. texts: a city read -/
section G1
variable {b : Nat → Nat} {L f n m : Nat} {u g : Hp} {w : Row}
def COo (w : Row) (u g : Hp) (cl : Option (Bool × Hp)) (ml : Option (Int32 × Hp)) : Prop :=
  (∃ u' g' c n' m' w', cl = some (true, u') ∧ ml = some (nI c, g') ∧ c ≤ 14 ∧ g' 31 = w' ∧ CV0 116 u' n' m' w' ∧ Gd n' m' w' ∧ RWk w w' ∧ FKc u u' ∧ FKm g g' ∧ u' 2 2 = u 2 2) ∨
  (∃ u' g' x, cl = some (false, u') ∧ ml = some (-1, g') ∧ u' 2 2 = nI x ∧ g' 30 14 = nI x ∧ RWk w (g' 31) ∧ FKc u u' ∧ FKm g g')
theorem COo_tr {u1 g1 : Hp} {w1 : Row} {cl : Option (Bool × Hp)} {ml : Option (Int32 × Hp)} (R : RWk w w1) (F : FKc u u1) (M : FKm g g1) (s : u1 2 2 = u 2 2) (h : COo w1 u1 g1 cl ml) : COo w u g cl ml := by
  rcases h with ⟨u', g', c, n', m', w', e1, e2, h0, h1, h2, h3, R', K, M', s'⟩ | ⟨u', g', x, e1, e2, x1, x2, R', K, M'⟩
  · exact Or.inl ⟨u', g', c, n', m', w', e1, e2, h0, h1, h2, h3, RWk_trans R R', FKc_trans F K, FKm_trans M M', s'.trans s⟩
  · exact Or.inr ⟨u', g', x, e1, e2, x1, x2, RWk_trans R R', FKc_trans F K, FKm_trans M M'⟩
theorem J_loop : ∀ (k x nc nm : Nat) (u g : Hp) (f n m : Nat) (w : Row), x + k = 14 → k < nc → k < nm → ST b L n m w f u g → COo w u g (F_X2_read_15 116 nc (nI x) u) (F_X12_readAll_28 1 nm (nI x) g) := by
  intro k
  induction k with
  | zero =>
    intro x nc nm u g f n m w hx hc hm H
    obtain ⟨nc, rfl⟩ : ∃ c, nc = c + 1 := ⟨nc - 1, by omega⟩
    obtain ⟨nm, rfl⟩ : ∃ c, nm = c + 1 := ⟨nm - 1, by omega⟩
    obtain rfl : x = 14 := by omega
    show COo w u g (S_X2_read_15 116 (F_X2_read_15 116 nc) (nI 14) u) (S_X12_readAll_28 1 (F_X12_readAll_28 1 nm) (nI 14) g)
    obtain ⟨X, T, Xm, ⟨p, P⟩, e31, _⟩ := id H
    obtain ⟨g1, e1, h12, h14, Fm⟩ := m_letters Xm P
    unfold S_X2_read_15 S_X12_readAll_28 f_X12_readLine F_X12_readLine_16
    rw [if_neg (show ¬ nI 14 < 14 by decide), c_fail T, obS, e1, obS, if_neg (show ¬ (1 : Int32) = 0 by decide), if_neg (show ¬ nI 14 < 14 by decide), obS, tff]
    exact Or.inr ⟨_, _, f, rfl, rfl, by dsimp only; exact up1_same, h14, RWf Fm e31, FKc_22, FKm_of Fm⟩
  | succ k ih =>
    intro x nc nm u g f n m w hx hc hm H
    obtain ⟨nc, rfl⟩ : ∃ c, nc = c + 1 := ⟨nc - 1, by omega⟩
    obtain ⟨nm, rfl⟩ : ∃ c, nm = c + 1 := ⟨nm - 1, by omega⟩
    show COo w u g (S_X2_read_15 116 (F_X2_read_15 116 nc) (nI x) u) (S_X12_readAll_28 1 (F_X12_readAll_28 1 nm) (nI x) g)
    unfold S_X2_read_15 S_X12_readAll_28
    rw [if_pos (show nI x < 14 from (nI_ltI (b := 14) (by omega) (by omega)).mpr (by omega))]
    rcases J_line H (show x < 14 by omega) with ⟨u1, g1, f1, n1, m1, w1, e1, e2, H1, R1, K1, M1, s1⟩ | ⟨u1, g1, y, e1, e2, x1, x2, R1, K1, M1⟩
    · obtain ⟨X, T, Xm, ⟨p, P⟩, e31, V, G⟩ := id H1
      have fL := PT_f P
      have X4 := X.1
      obtain ⟨g2, e3, h12, h14, Fm⟩ := m_blanks Xm P
      have Xm2 := FRm_LX Fm Xm
      have P2 := PT_f2 P h12
      rw [e1, obS, ttt, e2, obS, ttt, e3, obS, c_isDone X T, h12, Xm2.2.1]
      by_cases c : f1 < L
      · rw [decide_eq_true c, Bool.not_true, tff, if_neg (fun z => by have := (nI_eq (by omega) (by omega)).mp z; omega), show (59 : Int32) = nI 59 from rfl, m_isC (c := 59) (by decide) Xm2 h12 fL, obS]
        obtain ⟨A, B⟩ := c_sign (c := 59) (by decide) X T
        cases d : sgnB b L f1 59
        · rw [B d, obS, tff, tff, c_fail T, obS]
          exact Or.inr ⟨_, _, f1, rfl, rfl, by dsimp only; exact up1_same, h14, by rw [Fm.1 31 (by decide), e31]; exact R1, FKc_trans K1 FKc_22, FKm_trans M1 (FKm_of Fm)⟩
        · obtain ⟨u2, e4, T2, F2⟩ := A d
          rw [e4, obS, ttt, ttt, bnd_eq, nI_1, nI_1]
          have H2 : ST b L n1 m1 w1 (nxN b L f1) u2 (up1 g2 30 12 (nI (f1 + 1))) := ST_mv H1 T2 F2 ⟨ed_L fL, by rw [up1_same, sg_ed (c := 59) (by decide) d], rfl⟩ (FRm_trans Fm (FRm1 (by omega)))
          exact COo_tr R1 (FKc_trans K1 (FKc_of F2)) (FKm_trans M1 (FKm_of (FRm_trans Fm (FRm1 (by omega))))) (F2.2.2.trans s1) (ih (x + 1) nc nm u2 _ (nxN b L f1) n1 m1 w1 (by omega) (by omega) (by omega) H2)
      · rw [decide_eq_false c, Bool.not_false, ttt, if_pos (show nI f1 = nI L by rw [show f1 = L by omega]), nI_1]
        exact Or.inl ⟨u1, g2, x + 1, n1, m1, w1, rfl, rfl, by omega, by rw [Fm.1 31 (by decide), e31], V, G, R1, K1, FKm_trans M1 (FKm_of Fm), s1⟩
    · rw [e1, obS, tff, e2, obS, tff]
      exact Or.inr ⟨_, _, y, rfl, rfl, x1, x2, R1, K1, M1⟩
def opnC (u : Hp) : Hp := up1 (up1 u 2 2 (-1)) 2 4 0
def opnM (g : Hp) : Hp := up1 (usM g) 30 18 0
theorem J_read (X : LXc b L u) (V : CV0 116 u n m w) (G : Gd n m w) (e31 : g 31 = w) (e11 : g 30 11 = nI L) (hb : ∀ i, i < L → b i < 256 ∧ g 38 i = byS (b i)) : COo w (opnC u) (opnM g) (f_X2_read 116 u) (f_X12_readAll 1 g) := by
  have X4 := X.1
  have c2 : ∀ i, i ≠ 2 → i ≠ 4 → opnC u 2 i = u 2 i := fun i h1 h2 => by unfold opnC; rw [up1_at, upd_ob h2, up1_at, upd_ob h1]
  have co : ∀ k, k ≠ 2 → opnC u k = u k := fun k h => by unfold opnC; rw [up1_ob h, up1_ob h]
  have mo : ∀ k, k ≠ 30 → opnM g k = g k := fun k h => by unfold opnM; rw [up1_ob h, us_ob h]
  have X0 : LXc b L (opnC u) := ⟨X4, by rw [c2 1 (by decide) (by decide)]; exact X.2.1, fun i hi => by rw [co 3 (by decide)]; exact X.2.2 i hi⟩
  have Xm : LXm b L (opnM g) := ⟨X4, by unfold opnM; rw [up1_at, upd_ob (by decide), us_13]; exact e11, fun i hi => by rw [mo 38 (by decide)]; exact hb i hi⟩
  have P : PTm b L 0 (skN b L 0) (opnM g) := ⟨Nat.zero_le _, by unfold opnM; rw [up1_at, upd_ob (by decide), us_12]; rfl, rfl⟩
  obtain ⟨u1, e1, T1, F1⟩ := c_step X0 (Nat.zero_le L) (show opnC u 2 4 = nI 0 by unfold opnC; rw [up1_same]; rfl)
  obtain ⟨g1, e2, h12, h14, Fm⟩ := m_blanks Xm P
  have fL := PT_f P
  have P1 := PT_f2 P h12
  have H1 : ST b L n m w (skN b L 0) u1 g1 := ⟨FRc_LX F1 X0, T1, FRm_LX Fm Xm, ⟨_, P1⟩, by rw [Fm.1 31 (by decide), mo 31 (by decide)]; exact e31, CV0_fr V fun k x y => by rw [F1.1 k (by omega), co k (by omega)], G⟩
  have c0 : f_X2_read 116 u = if f_X10_isDone u1 then some (true, u1) else F_X2_read_15 116 FU 0 u1 := by
    unfold f_X2_read f_X10_open
    rw [bnd_eq, bnd_eq, show up1 (up1 u 2 2 (-1)) 2 4 0 = opnC u from rfl, e1, obS, obS]
  have m0 : f_X12_readAll 1 g = if (g1 30 12) = (g1 30 13) then some (0, g1) else F_X12_readAll_28 1 FU 0 g1 := by
    unfold f_X12_readAll
    rw [m_uses, obS, bnd_eq, show up1 (usM g) 30 18 0 = opnM g from rfl, e2, obS]
  rw [c0, m0, c_isDone H1.1 T1]
  by_cases c : skN b L 0 < L
  · rw [decide_eq_true c, Bool.not_true, tff, if_neg (by rw [h12, H1.2.2.1.2.1]; exact fun z => by have := (nI_eq (by omega) (by omega)).mp z; omega)]
    exact COo_tr (RWk_refl w) (FKc_of F1) (FKm_of Fm) F1.2.2 (J_loop 14 0 FU FU u1 g1 _ n m w rfl (by show 14 < 4000000; omega) (by show 14 < 4000000; omega) H1)
  · rw [decide_eq_false c, Bool.not_false, ttt, if_pos (by rw [h12, H1.2.2.1.2.1, show skN b L 0 = L by omega])]
    exact Or.inl ⟨u1, g1, 0, n, m, w, rfl, rfl, by omega, H1.2.2.2.2.1, H1.2.2.2.2.2.1, G, RWk_refl w, FKc_of F1, FKm_of Fm, F1.2.2⟩
def k33 (g : Hp) : Hp := upA g 33 (mixR (g 31) (g 33) 1341)
theorem m_cityA : f_X12_city g = Option.bind (f_X12_readAll 1 (k33 g)) fun r_6 => if r_6.1 < 0 then F_X12_city_46 r_6.1 (r_6.2 30 14) r_6.2 else F_X12_city_46 r_6.1 (-1) r_6.2 := by
  have Q := loop0 S_X12_city_2 (fun _ _ => none) (fun j q => q (nI j) (upA g 33 (mixR (g 31) (g 33) j))) 1341 (Option.bind (f_X12_readAll 1 (k33 g)) fun r_6 => if r_6.1 < 0 then F_X12_city_46 r_6.1 (r_6.2 30 14) r_6.2 else F_X12_city_46 r_6.1 (-1) r_6.2) (by omega) (fun j hj q => ?_) (fun q => ?_)
  · rw [mix_0, up_id] at Q
    exact Q
  · show S_X12_city_2 q (nI j) (upA g 33 (mixR (g 31) (g 33) j)) = q (nI (j + 1)) (upA g 33 (mixR (g 31) (g 33) (j + 1)))
    unfold S_X12_city_2
    rw [show (1341 : Int32) = nI 1341 from rfl, if_pos ((nI_ltI (by omega) (by omega)).mpr hj), gdT (nI_ix (by omega) (by omega)), gdT (nI_ix (by omega) (by omega)), bnd_eq, nI_clamp (by omega), up1_upA, upA_ob (by decide), mix_s, nI_1]
  · show S_X12_city_2 q (nI 1341) (upA g 33 (mixR (g 31) (g 33) 1341)) = _
    unfold S_X12_city_2
    rw [show (1341 : Int32) = nI 1341 from rfl, if_neg (by decide)]
    rfl
theorem m_rest : F_X12_city_92 FU 0 g = some (0, upA g 31 (mixR (g 33) (g 31) 1341)) := by
  have Q := loop0 S_X12_city_92 (fun _ _ => none) (fun j q => q (nI j) (upA g 31 (mixR (g 33) (g 31) j))) 1341 (some (0, upA g 31 (mixR (g 33) (g 31) 1341))) (by omega) (fun j hj q => ?_) (fun q => ?_)
  · rw [mix_0, up_id] at Q
    exact Q
  · show S_X12_city_92 q (nI j) (upA g 31 (mixR (g 33) (g 31) j)) = q (nI (j + 1)) (upA g 31 (mixR (g 33) (g 31) (j + 1)))
    unfold S_X12_city_92
    rw [show (1341 : Int32) = nI 1341 from rfl, if_pos ((nI_ltI (by omega) (by omega)).mpr hj), gdT (nI_ix (by omega) (by omega)), gdT (nI_ix (by omega) (by omega)), bnd_eq, nI_clamp (by omega), up1_upA, upA_ob (by decide), mix_s, nI_1]
  · show S_X12_city_92 q (nI 1341) (upA g 31 (mixR (g 33) (g 31) 1341)) = _
    unfold S_X12_city_92
    rw [show (1341 : Int32) = nI 1341 from rfl, if_neg (by decide)]
end G1
