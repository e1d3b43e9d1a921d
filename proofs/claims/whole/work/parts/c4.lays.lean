/-! LAYER 4. leans that may have broken: the model -/
def MB (n : Nat) (w : Row) (l : Nat) (u : Hp) : Prop := ∀ k, k < l → u 43 k = bI (cnB w k) ∧ (cnB w k = true → ∀ i, i < 8 → u 44 (8 * k + i) = prB n w k i)
def EB (h u : Hp) : Prop := ∀ k, k ≠ 36 → k ≠ 37 → k ≠ 40 → k ≠ 43 → k ≠ 44 → u k = h k
theorem EB_KM {h u : Hp} (E : EB h u) : KM h u := ⟨fun k hk => E k (by omega) (by omega) (by omega) (by omega) (by omega), fun i _ _ _ => by rw [E 30 (by omega) (by omega) (by omega) (by omega) (by omega)]⟩
theorem m_lb99 {l : Nat} (hl : l ≤ 64) (u : Hp) : ∃ u', (∀ q : Int32 → Hp → Option Hp, F_X12_laysBroken_99 q (nI l) FU 0 u = q (nI (l + 1)) u') ∧ (∀ i, i < 8 → u' 44 (8 * l + i) = u 36 i) ∧ (∀ k, k < 8 * l → u' 44 k = u 44 k) ∧ ∀ k, k ≠ 44 → u' k = u k := by
  have Q := loopQ (fun (c : Int32 → Hp → Option Hp) k => F_X12_laysBroken_99 c (nI l) k) (fun c q => S_X12_laysBroken_99 c (nI l) q) (fun c k => rfl) (fun q (s : Nat × Hp) => q (nI s.1) s.2) 8
    (fun j s => s.1 = j ∧ (∀ i, i < j → s.2 44 (8 * l + i) = u 36 i) ∧ (∀ k, k < 8 * l → s.2 44 k = u 44 k) ∧ ∀ k, k ≠ 44 → s.2 k = u k)
    (fun r => ∃ u', (r = fun c => c (nI (l + 1)) u') ∧ (∀ i, i < 8 → u' 44 (8 * l + i) = u 36 i) ∧ (∀ k, k < 8 * l → u' 44 k = u 44 k) ∧ ∀ k, k ≠ 44 → u' k = u k) (by omega) (fun j s hj hs => ?_) (fun s hs => ?_) (0, u) ⟨rfl, fun i hi => absurd hi (Nat.not_lt_zero i), fun _ _ => rfl, fun _ _ => rfl⟩
  · obtain ⟨u', e, a, b, c⟩ := Q
    exact ⟨u', fun q => congrFun e q, a, b, c⟩
  · obtain ⟨j', v⟩ := s
    dsimp only at hs
    obtain ⟨hj', v1, v2, v3⟩ := hs
    obtain rfl : j' = j := hj'
    refine Or.inl ⟨(j' + 1, up1 v 44 (8 * l + j') (u 36 j')), ⟨rfl, fun i hi => ?_, fun k hk => by dsimp only; rw [up1_at, upd_ob (by omega), v2 k hk], fun k a => by dsimp only; rw [up1_ob a, v3 k a]⟩, fun c q => ?_⟩
    · dsimp only
      rw [up1_at]
      by_cases z : i = j'
      · rw [z, upd_at]
      · rw [upd_ob (by omega), v1 i (by omega)]
    · show S_X12_laysBroken_99 c (nI l) q (nI j') v = q (nI (j' + 1)) _
      unfold S_X12_laysBroken_99
      rw [if_pos (show nI j' < 8 from (nI_ltI (b := 8) (by omega) (by omega)).mpr hj), gdT (nI_ix (by omega) (by omega)), show (8 : Int32) = nI 8 from rfl, zmul, zadd, gdT (nI_ix (by omega) (by omega)), bnd_eq, nI_clamp (by omega), nI_clamp (by omega), v3 36 (by decide), nI_1]
  · obtain ⟨j', v⟩ := s
    dsimp only at hs
    obtain ⟨hj', v1, v2, v3⟩ := hs
    obtain rfl : j' = 8 := hj'
    refine ⟨_, ⟨v, rfl, v1, v2, v3⟩, fun c q => ?_⟩
    show S_X12_laysBroken_99 c (nI l) q (nI 8) v = c (nI (l + 1)) v
    unfold S_X12_laysBroken_99
    rw [if_neg (show ¬ nI 8 < 8 by decide), nI_1]
theorem upd_2 {w : Row} {k : Nat} {a b : Int32} : upd (upd w k a) k b = upd w k b := funext fun j => by
  by_cases c : j = k
  · rw [c, upd_at, upd_at]
  · rw [upd_ob c, upd_ob c, upd_ob c]
/-- one lean away -/
theorem m_lb77 {n l : Nat} {u : Hp} {w : Row} (hl : l ≤ 64) (hn : w 0 = nI n) (h8 : n ≤ 8) (e31 : u 31 = w) :
    ∃ u', (∀ q : Int32 → Hp → Option Hp, (if nI l < 64 then (bnd (up1 u 31 (10 + l) 0) fun h_8 => F_X12_laysBroken_77 q (nI l) (w (10 + l)) h_8) else F_X12_laysBroken_77 q (nI l) 0 u) = q (nI (l + 1)) u') ∧
      (∀ i, i < 8 → u' 44 (8 * l + i) = prB n w l i) ∧ (∀ k, k < 8 * l → u' 44 k = u 44 k) ∧ u' 43 = u 43 ∧ u' 31 = w ∧ ∀ k, k ≠ 31 → k ≠ 36 → k ≠ 37 → k ≠ 40 → k ≠ 44 → u' k = u k := by
  by_cases c : l < 64
  · have r31 : (up1 u 31 (10 + l) 0) 31 = upd w (10 + l) 0 := by rw [up1_at, e31]
    obtain ⟨r, e1, f1, l1⟩ := m_laysE (h := up1 u 31 (10 + l) 0) (n := n) (by rw [r31, upd_ob (by omega)]; exact hn) h8
    have rr : r 31 = upd w (10 + l) 0 := by rw [f1 31 (by decide) (by decide) (by decide), r31]
    obtain ⟨u', e2, a, b, d⟩ := m_lb99 hl (up1 r 31 (10 + l) (w (10 + l)))
    refine ⟨u', fun q => ?_, fun i hi => ?_, fun k hk => by rw [b k hk, up1_ob (by decide), f1 44 (by decide) (by decide) (by decide), up1_ob (by decide)], by rw [d 43 (by decide), up1_ob (by decide), f1 43 (by decide) (by decide) (by decide), up1_ob (by decide)], by rw [d 31 (by decide), up1_at, rr, upd_2, upd_id], fun k x1 x2 x3 x4 x5 => by rw [d k x5, up1_ob x1, f1 k x2 x3 x4, up1_ob x1]⟩
    · rw [if_pos (show nI l < 64 from (nI_ltI (b := 64) (by omega) (by omega)).mpr c), bnd_eq]
      unfold F_X12_laysBroken_77
      rw [e1, obS, if_pos (show nI l < 64 from (nI_ltI (b := 64) (by omega) (by omega)).mpr c), show (10 : Int32) = nI 10 from rfl, zadd, gdT (nI_ix (by omega) (by omega)), bnd_eq, nI_clamp (by omega), e2]
    · rw [a i hi, up1_ob (by decide), l1 i hi, rr]
      unfold prB brkW
      rw [if_pos c]
  · obtain ⟨r, e1, f1, l1⟩ := m_laysE (h := u) (n := n) (by rw [e31]; exact hn) h8
    have rr : r 31 = w := by rw [f1 31 (by decide) (by decide) (by decide), e31]
    obtain ⟨u', e2, a, b, d⟩ := m_lb99 hl r
    refine ⟨u', fun q => ?_, fun i hi => ?_, fun k hk => by rw [b k hk, f1 44 (by decide) (by decide) (by decide)], by rw [d 43 (by decide), f1 43 (by decide) (by decide) (by decide)], by rw [d 31 (by decide), rr], fun k x1 x2 x3 x4 x5 => by rw [d k x5, f1 k x2 x3 x4]⟩
    · have nl : ¬ nI l < 64 := fun z => c ((nI_ltI (b := 64) (by omega) (by omega)).mp z)
      rw [if_neg nl]
      unfold F_X12_laysBroken_77
      rw [e1, obS, if_neg nl, e2]
    · rw [a i hi, l1 i hi, rr]
      unfold prB brkW
      rw [if_neg c]
theorem nar1 : vp_nar .boolean 1 = 1 := by decide
theorem nar0 : vp_nar .boolean 0 = 0 := by decide
theorem m_laysBroken {n : Nat} {h : Hp} {w : Row} (hn : w 0 = nI n) (h8 : n ≤ 8) (e31 : h 31 = w) : ∃ u, f_X12_laysBroken h = some u ∧ MB n w 65 u ∧ EB h u := by
  have Q := loopW S_X12_laysBroken_2 (fun _ _ => none) (fun q (s : Nat × Hp) => q (nI s.1) s.2) 65 (fun l s => s.1 = l ∧ MB n w l s.2 ∧ EB h s.2)
    (fun r => ∃ u, r = some u ∧ MB n w 65 u ∧ EB h u) (by omega) (fun l s hl hs => ?_) (fun s hs => ?_) (0, h) ⟨rfl, fun k hk => absurd hk (Nat.not_lt_zero k), fun _ _ _ _ _ _ => rfl⟩
  · exact Q
  · obtain ⟨l', u⟩ := s
    dsimp only at hs
    obtain ⟨hl', M, E⟩ := hs
    obtain rfl : l' = l := hl'
    have u31 : u 31 = w := by rw [E 31 (by decide) (by decide) (by decide) (by decide) (by decide), e31]
    have n64 : ¬ (64 : Int32) < nI l' := fun z => absurd ((nI_ltI (a := 64) (by omega) (by omega)).mp z) (by omega)
    have t10 : (10 : Int32) + nI l' = nI (10 + l') := zadd 10 l'
    have uv : u 31 (nI (10 + l')).toNatClampNeg = w (10 + l') := by rw [nI_clamp (by omega), u31]
    have cl : (nI l').toNatClampNeg = l' := nI_clamp (by omega)
    cases c : cnB w l'
    · have ⟨c1, c2⟩ := Bool.or_eq_false_iff.mp (show (decide (l' = 64) || decide (0 < w (10 + l'))) = false from c)
      have c1 : ¬ l' = 64 := of_decide_eq_false c1
      have c2 : ¬ 0 < w (10 + l') := of_decide_eq_false c2
      have n64' : ¬ nI l' = 64 := fun z => c1 ((nI_eq (b := 64) (by omega) (by omega)).mp z)
      refine ⟨(l' + 1, up1 u 43 l' 0), ⟨rfl, fun k hk => ?_, fun k x1 x2 x3 x4 x5 => by dsimp only; rw [up1_ob x4, E k x1 x2 x3 x4 x5]⟩, fun q => ?_⟩
      · dsimp only
        by_cases z : k = l'
        · rw [z, up1_same, c]
          exact ⟨rfl, fun y => Bool.noConfusion y⟩
        · rw [up1_at, upd_ob z, up1_ob (by decide)]
          exact M k (by omega)
      · show S_X12_laysBroken_2 q (nI l') u = q (nI (l' + 1)) _
        unfold S_X12_laysBroken_2 F_X12_laysBroken_27 F_X12_laysBroken_48
        rw [if_neg n64, if_neg n64', if_neg n64', t10, gdT (nI_ix (by omega) (by omega)), uv, if_neg c2, gdT (nI_ix (by omega) (by omega)), nar0, bnd_eq, gdT (nI_ix (by omega) (by omega)), cl, up1_same, if_pos rfl, nI_1]
    · obtain ⟨v, ev, v1, v2, v3, v31, vo⟩ := m_lb77 (n := n) (l := l') (u := up1 u 43 l' 1) (w := w) (by omega) hn h8 (by rw [up1_ob (by decide), u31])
      refine ⟨(l' + 1, v), ⟨rfl, fun k hk => ?_, fun k x1 x2 x3 x4 x5 => ?_⟩, fun q => ?_⟩
      · dsimp only
        rw [v3]
        by_cases z : k = l'
        · rw [z, up1_same, c]
          exact ⟨rfl, fun _ i hi => v1 i hi⟩
        · rw [up1_at, upd_ob z]
          have ⟨m1, m2⟩ := M k (by omega)
          exact ⟨m1, fun y i hi => by rw [v2 _ (by omega), up1_ob (by decide)]; exact m2 y i hi⟩
      · dsimp only
        by_cases z : k = 31
        · rw [z, v31, e31]
        · rw [vo k z x1 x2 x3 x5, up1_ob x4, E k x1 x2 x3 x4 x5]
      · show S_X12_laysBroken_2 q (nI l') u = q (nI (l' + 1)) v
        have t := ev q
        by_cases z : l' = 64
        · have z64 : nI l' = 64 := by rw [z]; rfl
          rw [if_neg (show ¬ nI l' < 64 by rw [z64]; decide)] at t
          unfold S_X12_laysBroken_2 F_X12_laysBroken_27 F_X12_laysBroken_48
          rw [if_neg n64, if_pos z64, if_pos z64, gdT (nI_ix (by omega) (by omega)), nar1, bnd_eq, gdT (nI_ix (by omega) (by omega)), cl, up1_same, if_neg (show ¬ (1 : Int32) = 0 by decide), if_neg (show ¬ nI l' < 64 by rw [z64]; decide), t]
        · have n64' : ¬ nI l' = 64 := fun y => z ((nI_eq (b := 64) (by omega) (by omega)).mp y)
          have c2 : 0 < w (10 + l') := by
            unfold cnB at c
            rw [decide_eq_false z, Bool.false_or, decide_eq_true_iff] at c
            exact c
          have lt : nI l' < 64 := (nI_ltI (b := 64) (by omega) (by omega)).mpr (by omega)
          rw [if_pos lt, bnd_eq] at t
          unfold S_X12_laysBroken_2 F_X12_laysBroken_27 F_X12_laysBroken_48
          rw [if_neg n64, if_neg n64', if_neg n64', t10, gdT (nI_ix (by omega) (by omega)), uv, if_pos c2, gdT (nI_ix (by omega) (by omega)), nar1, bnd_eq, gdT (nI_ix (by omega) (by omega)), cl, up1_same, if_neg (show ¬ (1 : Int32) = 0 by decide), if_pos lt, gdT (nI_ix (by omega) (by omega)), nI_clamp (n := 10 + l') (by omega), bnd_eq, t]
  · obtain ⟨l', u⟩ := s
    dsimp only at hs
    obtain ⟨hl', M, E⟩ := hs
    obtain rfl : l' = 65 := hl'
    refine ⟨_, ⟨u, rfl, M, E⟩, fun q => ?_⟩
    show S_X12_laysBroken_2 q (nI 65) u = _
    unfold S_X12_laysBroken_2
    rw [if_pos (show (64 : Int32) < nI 65 by decide)]
theorem byS_255 : ∀ b, b < 256 → byS b &&& 255 = nI b := by decide +kernel
theorem m_fits {n J l : Nat} {u : Hp} {w : Row} {b : Nat → Nat} (hl : l ≤ 64) (M : MB n w 65 u) (h8 : n ≤ 8) (hJ : J ≤ 20) (e13 : u 30 13 = nI (2 * J)) (hb : ∀ i, i < 2 * J → b i < 256 ∧ u 38 i = byS (b i)) (hf : ∀ j, j < J → b (2 * j) < n) :
    f_X12_fits (nI l) u = some (ftB n w b J l) := by
  have ⟨m1, m2⟩ := M l (by omega)
  have Q := loop0 (S_X12_fits_9 u (nI l)) (fun _ _ => none) (fun s q => q (bI (cnB w l && fpB n w b l s)) (nI (2 * s))) J (some (ftB n w b J l)) (by omega) (fun s hs q => ?_) (fun q => ?_)
  · unfold f_X12_fits
    rw [gdT (nI_ix (by omega) (by omega)), bnd_eq, nI_clamp (by omega), m1]
    rw [show (cnB w l && fpB n w b l 0) = cnB w l from Bool.and_true _] at Q
    exact Q
  · show S_X12_fits_9 u (nI l) q (bI (cnB w l && fpB n w b l s)) (nI (2 * s)) = q (bI (cnB w l && (fpB n w b l s && !decide (1 < iabs (prB n w l (b (2 * s)) - nI (b (2 * s + 1))))))) (nI (2 * s + 2))
    unfold S_X12_fits_9
    rw [e13, if_pos ((nI_ltI (by omega) (by omega)).mpr (by omega)), ← Bool.and_assoc, z2]
    cases c : cnB w l && fpB n w b l s
    · rw [if_pos (show bI false = 0 from rfl)]
      rfl
    · have ⟨y1, y2⟩ := hb (2 * s) (by omega)
      have ⟨y3, y4⟩ := hb (2 * s + 1) (by omega)
      have y5 := hf s hs
      rw [if_neg (show ¬ bI true = 0 by decide), gdT (nI_ix (by omega) (by omega)), nI_1, nI_clamp (n := 2 * s) (by omega), y2, byS_lo (by omega), show (8 : Int32) = nI 8 from rfl, zmul, zadd, gdT (nI_ix (by omega) (by omega)), gdT (nI_ix (by omega) (by omega)), nI_clamp (by omega), nI_clamp (by omega), y4, byS_255 _ y3, m2 (Bool.and_eq_true_iff.mp c).1 _ (by omega), Bool.true_and]
      by_cases d : 1 < iabs (prB n w l (b (2 * s)) - nI (b (2 * s + 1)))
      · rw [if_pos d, decide_eq_true d]; rfl
      · rw [if_neg d, decide_eq_false d]; rfl
  · show S_X12_fits_9 u (nI l) q (bI (cnB w l && fpB n w b l J)) (nI (2 * J)) = _
    unfold S_X12_fits_9 ftB
    rw [e13, if_neg (fun z => absurd ((nI_ltI (by omega) (by omega)).mp z) (Nat.lt_irrefl _)), toB_bI, obS]
