/-! LAYER 4. gates: the model's table -/
theorem hA {p x : Nat} {h : Hp} (hp : p ≤ 6) : f_X12_heldAt (nI p) (nI x) h = nI (256 * p + x) := by
  unfold f_X12_heldAt
  rw [(show ∀ p, p < 7 → shl (nI p) 8 = nI (256 * p) by decide +kernel) p (by omega), zadd]
theorem hA1 {p x : Nat} {h : Hp} (hp : p < 6) : f_X12_heldAt (nI p + 1) (nI x) h = nI (256 * (p + 1) + x) := by rw [nI_1]; exact hA (by omega)
theorem mx_m1 {X : Nat} (hX : X < 2 ^ 31) : imax (nI X) (-1) = nI X := by
  unfold imax
  rw [if_neg (fun q => by
    have := nI_pos (n := X) hX
    exact this (Int32.lt_trans q (by decide)))]
section MG
variable {n m e : Nat} {w : Row} {h u : Hp}
def HV2 (n m e : Nat) (w : Row) (u : Hp) : Prop := u 31 = w ∧ ∀ i, i < n → u 45 i = sgW n m (nbW w m) (nI e) 0 i
def MR (G : Nat → Nat → Nat) (p : Nat) (u : Hp) : Prop := ∀ y, y < 256 → u 46 (256 * p + y) = nI (cmN G (6 - p) y)
theorem m_heldN {p x : Nat} {G : Nat → Nat → Nat} (R : MR G (p + 1) u) (hp : p < 6) (hx : x < 256) : f_X12_heldIf (nI p) (nI x) (-1) u = some (nI (cmN G (5 - p) x)) := by
  unfold f_X12_heldIf
  rw [if_pos rfl, hA1 hp, gdT (nI_ix (by omega) (by omega)), nI_clamp (by omega), R x hx, show 6 - (p + 1) = 5 - p by omega]
theorem m_heldI {p x i : Nat} (g : Gd n m w) (ee : w 4 = nI e) (he : e < 7) (V : HV2 n m e w u) (R : MR (gnN n m w e) (p + 1) u) (hp : p < m) (hx : x < 256) (hi : i < n) :
    f_X12_heldIf (nI p) (nI x) (nI i) u = some (if falB w i = false ∧ bxN x i = false then nI (gnN n m w e p i + cmN (gnN n m w e) (5 - p) (x ||| 2 ^ i)) else -1) := by
  have h8 := g.1.2.1
  have h6 := g.1.2.2.2.1
  have ⟨o1, o2, _⟩ := bx_or x hx i (by omega)
  obtain ⟨a, a9, ea⟩ := gn_ok (e := nI e) g hp (show i < 8 by omega)
  unfold f_X12_heldIf F_X12_heldIf_77
  rw [if_neg (show ¬ nI i = -1 from fun z => (zem (by omega)).mp z), m_isF (by omega), V.1, obS, m_has, hasB_tb (by omega), bx_tb hx (by omega), m_ofPerson2 (by omega), V.1, obS, m_ofPerson1 (by omega), V.1, obS, ee, m_has, hasB_tb (by omega), o2, hA1 (by omega), gdT (nI_ix (by omega) (by omega)), gdT (nI_ix (by omega) (by omega)), gdT (nI_ix (by omega) (by omega)), nI_clamp (by omega), nI_clamp (by omega), V.2 i hi, R _ o1, show 6 - (p + 1) = 5 - p by omega]
  cases hf : falB w i
  · rw [tff]
    cases hb : bxN x i
    · rw [tff, if_pos (show (false = false ∧ false = false) from ⟨rfl, rfl⟩)]
      show (if tb (cmR w p) e = true then some (gnI n m w (nI e) p i + _) else _) = _
      unfold gnN
      rw [up_fal hi, hf, decide_eq_true hp, Bool.not_false, Bool.true_and, Bool.true_and]
      cases tb (cmR w p) e
      · rw [tff, tff]
        show some (nI 0 + _) = _
        rw [zadd]
      · rw [ttt, ttt, ea, nI_clamp (by omega), zadd]
    · rw [ttt, if_neg (show ¬ (false = false ∧ true = false) from fun z => Bool.noConfusion z.2)]
  · rw [ttt, if_neg (show ¬ (true = false ∧ bxN x i = false) from fun z => Bool.noConfusion z.1)]
def mfN (G : Nat → Nat → Nat) (w : Row) (p x i : Nat) : Nat := if falB w i = false ∧ bxN x i = false then G p i + cmN G (5 - p) (x ||| 2 ^ i) else 0
theorem mf_cf {p x : Nat} (g : Gd n m w) (hp : p < 6) : fm (mfN (gnN n m w e) w p x) (cmN (gnN n m w e) (5 - p) x) n = cmN (gnN n m w e) (6 - p) x := by
  have h8 := g.1.2.1
  have k2 : 6 - p = 5 - p + 1 := by omega
  have k3 : 5 - (5 - p) = p := by omega
  rw [k2, cm_s]
  refine Nat.le_antisymm (fm_le (fm_0 8) n fun i hi => ?_) (fm_le (fm_0 n) 8 fun i hi => ?_)
  · unfold mfN
    split
    · rename_i c
      by_cases d : 0 < gnN n m w e p i
      · have t := fm_i (f := cfN (gnN n m w e) (5 - p) x) (a := cmN (gnN n m w e) (5 - p) x) 8 (show i < 8 by omega)
        have e2 : cfN (gnN n m w e) (5 - p) x i = gnN n m w e (5 - (5 - p)) i + cmN (gnN n m w e) (5 - p) (x ||| 2 ^ i) := if_pos ⟨by rw [k3]; exact d, c.2⟩
        rw [k3] at e2
        omega
      · have a := cm_o (G := gnN n m w e) (k := 5 - p) (x := x) (i := i)
        have b := fm_0 (f := cfN (gnN n m w e) (5 - p) x) (a := cmN (gnN n m w e) (5 - p) x) 8
        omega
    · exact Nat.zero_le _
  · by_cases c : 0 < gnN n m w e (5 - (5 - p)) i ∧ bxN x i = false
    · have e2 : cfN (gnN n m w e) (5 - p) x i = gnN n m w e (5 - (5 - p)) i + cmN (gnN n m w e) (5 - p) (x ||| 2 ^ i) := if_pos c
      have ⟨u1, _⟩ := gn_up c.1
      have un := upB_lt u1
      have uf : falB w i = false := by
        rw [up_fal un] at u1
        cases z : falB w i
        · rfl
        · rw [z] at u1; exact Bool.noConfusion u1
      have t := fm_i (f := mfN (gnN n m w e) w p x) (a := cmN (gnN n m w e) (5 - p) x) n un
      have e3 : mfN (gnN n m w e) w p x i = gnN n m w e p i + cmN (gnN n m w e) (5 - p) (x ||| 2 ^ i) := if_pos ⟨uf, c.2⟩
      rw [k3] at e2
      omega
    · have e2 : cfN (gnN n m w e) (5 - p) x i = 0 := if_neg c
      omega
theorem tm1 (t : Nat) : nI (t + 1) - 1 = nI t := zsub (a := t + 1) (b := 1) (by omega)
theorem m_lg120 {p x : Nat} (g : Gd n m w) (ee : w 4 = nI e) (he : e < 7) (V : HV2 n m e w u) (R : MR (gnN n m w e) (p + 1) u) (hp : p < m) (hx : x < 256) :
    ∀ c1 c2 : Int32 → Hp → Option Hp, F_X12_laysGates_120 c1 c2 (nI p) (nI x) FU 0 (-1) u = c2 (nI (x + 1)) (up1 u 46 (256 * p + x) (nI (cmN (gnN n m w e) (6 - p) x))) := by
  intro c1 c2
  have h8 := g.1.2.1
  have h6 := g.1.2.2.2.1
  have hG : ∀ p i, i < 8 → gnN n m w e p i ≤ 99 := fun p i hi => gn_99 g hi
  have bd : ∀ k x, k ≤ 6 → cmN (gnN n m w e) k x ≤ 594 := fun k x hk => Nat.le_trans (cm_b hG k x) (by omega)
  have fb : ∀ j, j ≤ n → fm (mfN (gnN n m w e) w p x) (cmN (gnN n m w e) (5 - p) x) j ≤ 1000 := fun j hj => fm_le (by have := bd (5 - p) x (by omega); omega) j fun i hi => by
    have := bd (5 - p) (x ||| 2 ^ i) (by omega)
    have := hG p i (by omega)
    unfold mfN
    split <;> omega
  have Q := loopW (S_X12_laysGates_120 c1 c2 (nI p) (nI x)) (fun _ _ _ => none) (fun q (s : Nat × Nat) => q (nI s.1) (nI s.2 - 1) u) (n + 1) (fun j s => s.2 = j ∧ s.1 = if j = 0 then 0 else fm (mfN (gnN n m w e) w p x) (cmN (gnN n m w e) (5 - p) x) (j - 1))
    (fun r => r = c2 (nI (x + 1)) (up1 u 46 (256 * p + x) (nI (cmN (gnN n m w e) (6 - p) x)))) (by omega) (fun j s hj hs => ?_) (fun s hs => ?_) (0, 0) ⟨rfl, rfl⟩
  · exact Q
  · obtain ⟨X, t⟩ := s
    dsimp only at hs
    obtain ⟨rfl, hX⟩ := hs
    rcases t with _ | t
    · rw [if_pos rfl] at hX
      refine ⟨(fm (mfN (gnN n m w e) w p x) (cmN (gnN n m w e) (5 - p) x) 0, 1), ⟨rfl, rfl⟩, fun q => ?_⟩
      show S_X12_laysGates_120 c1 c2 (nI p) (nI x) q (nI X) (nI 0 - 1) u = q (nI (cmN (gnN n m w e) (5 - p) x)) (nI 1 - 1) u
      rw [show nI 0 - 1 = -1 from by decide, show nI 1 - 1 = 0 from by decide]
      have b := bd (5 - p) x (by omega)
      unfold S_X12_laysGates_120
      rw [m_houses, V.1, g.1.1, if_pos (show (-1 : Int32) < nI n from Int32.lt_of_lt_of_le (by decide) ((nI_leI (a := 0) (by omega) (by omega)).mpr (Nat.zero_le n))), m_heldN R (by omega) hx, obS, hX, bnd_eq, zmax (by omega) (by omega), Nat.zero_max]
      rfl
    · rw [if_neg (Nat.succ_ne_zero t), Nat.add_sub_cancel] at hX
      have hb := m_heldI g ee he V R hp hx (show t < n by omega)
      have b1 := fb t (by omega)
      have b2 := bd (5 - p) (x ||| 2 ^ t) (by omega)
      have b3 := hG p t (by omega)
      refine ⟨(fm (mfN (gnN n m w e) w p x) (cmN (gnN n m w e) (5 - p) x) (t + 1), t + 1 + 1), ⟨rfl, rfl⟩, fun q => ?_⟩
      show S_X12_laysGates_120 c1 c2 (nI p) (nI x) q (nI X) (nI (t + 1) - 1) u = q (nI (max (fm (mfN (gnN n m w e) w p x) (cmN (gnN n m w e) (5 - p) x) t) (mfN (gnN n m w e) w p x t))) (nI (t + 1 + 1) - 1) u
      unfold S_X12_laysGates_120
      rw [tm1, tm1, m_houses, V.1, itP g.1.1 (show t < n by omega) (by omega), hb, obS, hX, bnd_eq, nI_1]
      unfold mfN at b1 ⊢
      by_cases c : falB w t = false ∧ bxN x t = false
      · rw [if_pos c, if_pos c, zmax (by omega) (by omega)]
      · rw [if_neg c, if_neg c, mx_m1 (by omega), Nat.max_zero]
  · obtain ⟨X, t⟩ := s
    dsimp only at hs
    obtain ⟨rfl, hX⟩ := hs
    rw [if_neg (Nat.succ_ne_zero n), Nat.add_sub_cancel, mf_cf g (by omega)] at hX
    refine ⟨_, rfl, fun q => ?_⟩
    show S_X12_laysGates_120 c1 c2 (nI p) (nI x) q (nI X) (nI (n + 1) - 1) u = _
    unfold S_X12_laysGates_120
    rw [tm1, m_houses, V.1, itN g.1.1 (by omega), hA (by omega), gdT (nI_ix (by omega) (by omega)), bnd_eq, nI_clamp (by omega), hX, nI_1]
theorem dm : ∀ m, m ≤ 6 → ∀ d, d < m → nI m - nI (d + 1) + (-1) = nI m - nI (d + 1 + 1) ∧ ¬ (nI m - nI (d + 1) < 0) ∧ nI m - nI (d + 1) = nI (m - 1 - d) := by decide +kernel
theorem dme : ∀ m, m ≤ 6 → nI m - nI (m + 1) < 0 := by decide +kernel
theorem m_lg102 (g : Gd n m w) (ee : w 4 = nI e) (he : e < 7) (V : HV2 n m e w h) (R : MR (gnN n m w e) m h) :
    ∃ u, F_X12_laysGates_102 FU (nI m - 1) h = some u ∧ (∀ p, p ≤ m → MR (gnN n m w e) p u) ∧ ∀ k, k ≠ 46 → u k = h k := by
  have h6 := g.1.2.2.2.1
  have Q := loopW S_X12_laysGates_102 (fun _ _ => none) (fun q (s : Nat × Hp) => q (nI m - nI (s.1 + 1)) s.2) m (fun d s => s.1 = d ∧ (∀ p, m - d ≤ p → p ≤ m → MR (gnN n m w e) p s.2) ∧ ∀ k, k ≠ 46 → s.2 k = h k)
    (fun r => ∃ u, r = some u ∧ (∀ p, p ≤ m → MR (gnN n m w e) p u) ∧ ∀ k, k ≠ 46 → u k = h k) (by omega) (fun d s hd hs => ?_) (fun s hs => ?_) (0, h) ⟨rfl, fun p a b => by
      obtain rfl : p = m := by omega
      exact R, fun _ _ => rfl⟩
  · exact Q
  · obtain ⟨d', u⟩ := s
    dsimp only at hs
    obtain ⟨hd', Ru, K⟩ := hs
    obtain rfl : d' = d := hd'
    obtain ⟨x1, x2, x3⟩ := dm m h6 d' hd
    obtain ⟨p, hp⟩ : ∃ p, m - 1 - d' = p := ⟨_, rfl⟩
    have inner := loopQ (fun (c : Int32 → Hp → Option Hp) k => F_X12_laysGates_108 c (nI p) k) (fun c q => S_X12_laysGates_108 c (nI p) q) (fun c k => rfl) (fun q (s : Nat × Hp) => q (nI s.1) s.2) 256
      (fun x s => s.1 = x ∧ (∀ y, y < x → s.2 46 (256 * p + y) = nI (cmN (gnN n m w e) (6 - p) y)) ∧ (∀ k, 256 * (p + 1) ≤ k → s.2 46 k = u 46 k) ∧ ∀ k, k ≠ 46 → s.2 k = h k)
      (fun r => ∃ v, (MR (gnN n m w e) p v ∧ (∀ k, 256 * (p + 1) ≤ k → v 46 k = u 46 k) ∧ ∀ k, k ≠ 46 → v k = h k) ∧ r = fun c => c (nI p + (-1)) v) (by omega) (fun x s hx hs => ?_) (fun s hs => ?_) (0, u) ⟨rfl, fun j hj => absurd hj (Nat.not_lt_zero j), fun _ _ => rfl, K⟩
    · obtain ⟨v, ⟨v1, v2, v3⟩, ev⟩ := inner
      refine ⟨(d' + 1, v), ⟨rfl, fun q a b => ?_, v3⟩, fun q => ?_⟩
      · by_cases z : q = p
        · rw [z]; exact v1
        · intro y hy
          dsimp only
          rw [v2 _ (by omega)]
          exact Ru q (by omega) b y hy
      · show S_X12_laysGates_102 q (nI m - nI (d' + 1)) u = q (nI m - nI (d' + 1 + 1)) v
        have t := congrFun ev q
        dsimp only at t
        unfold S_X12_laysGates_102
        rw [if_neg x2, ← x1, x3, hp]
        exact t
    · obtain ⟨x', v⟩ := s
      dsimp only at hs
      obtain ⟨hx', v1, v2, v3⟩ := hs
      obtain rfl : x' = x := hx'
      refine Or.inl ⟨(x' + 1, up1 v 46 (256 * p + x') (nI (cmN (gnN n m w e) (6 - p) x'))), ⟨rfl, fun y hy => ?_, fun k hk => by dsimp only; rw [up1_at, upd_ob (by omega), v2 k hk], fun k hk => by dsimp only; rw [up1_ob hk, v3 k hk]⟩, fun c q => ?_⟩
      · dsimp only
        rw [up1_at]
        by_cases f : y = x'
        · rw [f, upd_at]
        · rw [upd_ob (by omega), v1 y (by omega)]
      · show S_X12_laysGates_108 c (nI p) q (nI x') v = q (nI (x' + 1)) _
        unfold S_X12_laysGates_108
        rw [if_pos (show nI x' < 256 from (nI_ltI (b := 256) (by omega) (by omega)).mpr hx)]
        exact m_lg120 (u := v) g ee he ⟨by rw [v3 31 (by decide)]; exact V.1, fun i hi => by rw [v3 45 (by decide)]; exact V.2 i hi⟩ (fun y hy => by rw [v2 _ (by omega)]; exact Ru (p + 1) (by omega) (by omega) y hy) (by omega) hx c q
    · obtain ⟨x', v⟩ := s
      dsimp only at hs
      obtain ⟨hx', v1, v2, v3⟩ := hs
      obtain rfl : x' = 256 := hx'
      refine ⟨_, ⟨v, ⟨v1, v2, v3⟩, rfl⟩, fun c q => ?_⟩
      show S_X12_laysGates_108 c (nI p) q (nI 256) v = c (nI p + (-1)) v
      unfold S_X12_laysGates_108
      rw [if_neg (show ¬ nI 256 < 256 by decide)]
  · obtain ⟨d', u⟩ := s
    dsimp only at hs
    obtain ⟨hd', Ru, K⟩ := hs
    subst hd'
    refine ⟨_, ⟨u, rfl, fun p hp => Ru p (by omega) hp, K⟩, fun q => ?_⟩
    show S_X12_laysGates_102 q (nI d' - nI (d' + 1)) u = _
    unfold S_X12_laysGates_102
    rw [if_pos (dme d' h6)]
theorem m_lg68 (g : Gd n m w) (e31 : h 31 = w) : ∃ u, F_X12_laysGates_68 FU 0 h = F_X12_laysGates_102 FU (nI m - 1) u ∧ MR (gnN n m w e) m u ∧ ∀ k, k ≠ 46 → u k = h k := by
  have h6 := g.1.2.2.2.1
  have em : w 1 = nI m := g.1.2.2.1
  have z : ∀ y, cmN (gnN n m w e) (6 - m) y = 0 := fun y => cm_z (m := m) (fun p i q => (gn_up q).2) (6 - m) (by omega) y
  have Q := loopW S_X12_laysGates_68 (fun _ _ => none) (fun q (s : Nat × Hp) => q (nI s.1) s.2) 256 (fun x s => s.1 = x ∧ (∀ y, y < x → s.2 46 (256 * m + y) = 0) ∧ ∀ k, k ≠ 46 → s.2 k = h k)
    (fun r => ∃ u, r = F_X12_laysGates_102 FU (nI m - 1) u ∧ MR (gnN n m w e) m u ∧ ∀ k, k ≠ 46 → u k = h k) (by omega) (fun x s hx hs => ?_) (fun s hs => ?_) (0, h) ⟨rfl, fun j hj => absurd hj (Nat.not_lt_zero j), fun _ _ => rfl⟩
  · exact Q
  · obtain ⟨x', v⟩ := s
    dsimp only at hs
    obtain ⟨hx', v1, v3⟩ := hs
    obtain rfl : x' = x := hx'
    refine ⟨(x' + 1, up1 v 46 (256 * m + x') 0), ⟨rfl, fun y hy => ?_, fun k hk => by dsimp only; rw [up1_ob hk, v3 k hk]⟩, fun q => ?_⟩
    · dsimp only
      rw [up1_at]
      by_cases f : y = x'
      · rw [f, upd_at]
      · rw [upd_ob (by omega), v1 y (by omega)]
    · show S_X12_laysGates_68 q (nI x') v = q (nI (x' + 1)) _
      unfold S_X12_laysGates_68
      rw [if_pos (show nI x' < 256 from (nI_ltI (b := 256) (by omega) (by omega)).mpr hx), m_people, v3 31 (by decide), e31, em, hA (by omega), gdT (nI_ix (by omega) (by omega)), bnd_eq, nI_clamp (by omega), nI_1]
  · obtain ⟨x', v⟩ := s
    dsimp only at hs
    obtain ⟨hx', v1, v3⟩ := hs
    obtain rfl : x' = 256 := hx'
    refine ⟨_, ⟨v, rfl, fun y hy => by rw [z, v1 y hy]; rfl, v3⟩, fun q => ?_⟩
    show S_X12_laysGates_68 q (nI 256) v = _
    unfold S_X12_laysGates_68
    rw [if_neg (show ¬ nI 256 < 256 by decide), m_people, v3 31 (by decide), e31, em, bnd_eq]
theorem m_laysGates (g : Gd n m w) (ee : w 4 = nI e) (he : e < 7) (e31 : h 31 = w) (h21 : h 30 21 = 0) :
    ∃ u, f_X12_laysGates h = some u ∧ HV2 n m e w u ∧ (∀ p, p ≤ m → MR (gnN n m w e) p u) ∧ KM h u ∧ u 30 0 = h 30 0 := by
  have h8 := g.1.2.1
  have h6 := g.1.2.2.2.1
  have em : w 1 = nI m := g.1.2.2.1
  have gb := nb_Gd g m (Nat.le_refl m)
  obtain ⟨r, hr⟩ : ∃ r, upA h 34 (mixR (h 31) (h 34) 492) = r := ⟨_, rfl⟩
  have ro : ∀ k, k ≠ 34 → r k = h k := fun k x => by rw [← hr, upA_ob x]
  have r34 : ∀ k, k < 492 → r 34 k = w k := fun k hk => by rw [← hr, upA_at, mix_i hk, e31]
  -- nobody anywhere
  have Q := loopW S_X12_laysGates_6 (fun _ _ => none) (fun q (s : Nat × Hp) => q (nI s.1) s.2) m (fun p s => s.1 = p ∧ s.2 31 = nbW w p ∧ ∀ k, k ≠ 31 → s.2 k = r k)
    (fun x => ∃ u, x = Option.bind (f_X12_laysNow u) (fun r_5 => F_X12_laysGates_37 FU 0 r_5) ∧ u 31 = nbW w m ∧ ∀ k, k ≠ 31 → u k = r k) (by omega) (fun p s hp hs => ?_) (fun s hs => ?_) (0, r) ⟨rfl, by dsimp only; rw [ro 31 (by decide), e31]; rfl, fun _ _ => rfl⟩
  · obtain ⟨s1, q1, s31, so⟩ := Q
    obtain ⟨p, e1, l1, p31, p30, K1⟩ := m_laysNow (h := s1) (n := n) (m := m) (by rw [s31]; exact gb.1)
    have p34 : p 34 = s1 34 := by
      have := e1
      unfold f_X12_laysNow at this
      rw [bnd_eq] at this
      obtain ⟨z, ez, fz, _⟩ := m_laysE (h := up1 s1 30 20 (s1 31 4)) (n := n) (by rw [up1_ob (by decide), s31]; exact gb.1.1) h8
      rw [ez, obS] at this
      rw [← Option.some.inj this, fz 34 (by decide) (by decide) (by decide), up1_ob (by decide)]
    have p20 : p 30 20 = nI e := by rw [p30, upd_at, s31, nb_ob (by omega) m h6, ee]
    have p21 : p 30 21 = 0 := by rw [p30, upd_ob (by decide), so 30 (by decide), ro 30 (by decide)]; exact h21
    have p31' : p 31 = nbW w m := p31.trans s31
    -- how much each sags
    have Q2 := loopW S_X12_laysGates_37 (fun _ _ => none) (fun q (s : Nat × Hp) => q (nI s.1) s.2) n (fun i s => s.1 = i ∧ (∀ j, j < i → s.2 45 j = sgW n m (nbW w m) (nI e) 0 j) ∧ ∀ k, k ≠ 40 → k ≠ 45 → s.2 k = p k)
      (fun x => ∃ u, x = F_X12_laysGates_68 FU 0 (upA u 31 (mixR (u 34) (u 31) 492)) ∧ (∀ j, j < n → u 45 j = sgW n m (nbW w m) (nI e) 0 j) ∧ ∀ k, k ≠ 40 → k ≠ 45 → u k = p k) (by omega) (fun i s hi hs => ?_) (fun s hs => ?_) (0, p) ⟨rfl, fun j hj => absurd hj (Nat.not_lt_zero j), fun _ _ _ => rfl⟩
    · obtain ⟨s2, q2, s45, s2o⟩ := Q2
      have Ks : KEPT w s2 := ⟨fun k hk => by rw [s2o 34 (by decide) (by decide), p34, so 34 (by decide)]; exact r34 k hk, fun k hk => by rw [s2o 31 (by decide) (by decide), p31']; exact nb_ob (by omega) m h6⟩
      have b31 := back_31 Ks
      obtain ⟨t, ht⟩ : ∃ t, upA s2 31 (mixR (s2 34) (s2 31) 492) = t := ⟨_, rfl⟩
      rw [ht] at q2 b31
      have to : ∀ k, k ≠ 31 → t k = s2 k := fun k x => by rw [← ht, upA_ob x]
      obtain ⟨v, q3, R3, v3⟩ := m_lg68 (e := e) g b31
      obtain ⟨u, q4, R4, u4⟩ := m_lg102 (h := v) g ee he ⟨by rw [v3 31 (by decide), b31], fun i hi => by rw [v3 45 (by decide), to 45 (by decide)]; exact s45 i hi⟩ R3
      have u30 : u 30 = p 30 := by rw [u4 30 (by decide), v3 30 (by decide), to 30 (by decide), s2o 30 (by decide) (by decide)]
      refine ⟨u, ?_, ⟨by rw [u4 31 (by decide), v3 31 (by decide), b31], fun i hi => by rw [u4 45 (by decide), v3 45 (by decide), to 45 (by decide)]; exact s45 i hi⟩, R4, ⟨fun k hk => ?_, fun i x y z => by rw [u30, p30, upd_ob y, so 30 (by decide), ro 30 (by decide)]⟩, by rw [u30, p30, upd_ob (by decide), so 30 (by decide), ro 30 (by decide)]⟩
      · unfold f_X12_laysGates
        rw [m_keepsM, obS, hr]
        refine Eq.trans q1 ?_
        rw [e1, obS]
        refine Eq.trans q2 ?_
        rw [q3, q4]
      · by_cases c : k = 31
        · rw [c, u4 31 (by decide), v3 31 (by decide), b31, e31]
        · rw [u4 k (by omega), v3 k (by omega), to k c, s2o k (by omega) (by omega), K1.1 k (by omega), so k c, ro k (by omega)]
    · obtain ⟨i', v⟩ := s
      dsimp only at hs
      obtain ⟨hi', v1, v2⟩ := hs
      obtain rfl : i' = i := hi'
      have v31 : v 31 = nbW w m := by rw [v2 31 (by decide) (by decide), p31']
      have lv : laid n v := fun j hj => by rw [v2 36 (by decide) (by decide), l1 j hj, p31', v31]
      obtain ⟨y, ey⟩ := m_sagsNow (h := v) (n := n) (m := m) (i := i') lv (by rw [v31]; exact gb.1) (by omega)
      rw [v31, v2 30 (by decide) (by decide), p20, p21] at ey
      refine ⟨(i' + 1, up1 (upA v 40 y) 45 i' (sgW n m (nbW w m) (nI e) 0 i')), ⟨rfl, fun j hj => ?_, fun k a b => by dsimp only; rw [up1_ob b, upA_ob a, v2 k a b]⟩, fun q => ?_⟩
      · dsimp only
        rw [up1_at]
        by_cases f : j = i'
        · rw [f, upd_at]
        · rw [upd_ob f, upA_ob (by decide), v1 j (by omega)]
      · show S_X12_laysGates_37 q (nI i') v = q (nI (i' + 1)) _
        unfold S_X12_laysGates_37
        rw [m_houses, v31, itP gb.1.1 hi (by omega), ey, obS, gdT (nI_ix (by omega) (by omega)), bnd_eq, nI_clamp (by omega), nI_1]
    · obtain ⟨i', v⟩ := s
      dsimp only at hs
      obtain ⟨hi', v1, v2⟩ := hs
      subst hi'
      have v31 : v 31 = nbW w m := by rw [v2 31 (by decide) (by decide), p31']
      refine ⟨_, ⟨v, rfl, v1, v2⟩, fun q => ?_⟩
      show S_X12_laysGates_37 q (nI i') v = _
      unfold S_X12_laysGates_37
      rw [m_houses, v31, itN gb.1.1 (by omega), m_backM, obS, v31]
  · obtain ⟨p', v⟩ := s
    dsimp only at hs
    obtain ⟨hp', v1, v2⟩ := hs
    obtain rfl : p' = p := hp'
    refine ⟨(p' + 1, up1 v 31 (114 + 3 * p') (-1)), ⟨rfl, by dsimp only; rw [up1_at, v1]; rfl, fun k hk => by dsimp only; rw [up1_ob hk, v2 k hk]⟩, fun q => ?_⟩
    show S_X12_laysGates_6 q (nI p') v = q (nI (p' + 1)) _
    unfold S_X12_laysGates_6
    rw [m_people, v1, nb_ob (by omega) p' (by omega), itP em hp (by omega), show f_X12_personAt (nI p') 0 v = nI (114 + 3 * p') from m_personAtI (w := 0), gdT (nI_ix (by omega) (by omega)), bnd_eq, nI_clamp (by omega), nI_1]
  · obtain ⟨p', v⟩ := s
    dsimp only at hs
    obtain ⟨hp', v1, v2⟩ := hs
    subst hp'
    refine ⟨_, ⟨v, rfl, v1, v2⟩, fun q => ?_⟩
    show S_X12_laysGates_6 q (nI p') v = _
    unfold S_X12_laysGates_6
    rw [m_people, v1, nb_ob (by omega) p' h6, itN em (by omega)]
end MG
