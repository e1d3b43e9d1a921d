/-! LAYER 4. leans that may have broken: the class -/
def brkW (w : Row) (l : Nat) : Row := if l < 64 then upd w (10 + l) 0 else w
def cnB (w : Row) (l : Nat) : Bool := decide (l = 64) || decide (0 < w (10 + l))
def prB (n : Nat) (w : Row) (l i : Nat) : Int32 := prW n (brkW w l) i
def fpB (n : Nat) (w : Row) (b : Nat → Nat) (l : Nat) : Nat → Bool
  | 0 => true
  | j + 1 => fpB n w b l j && !decide (1 < iabs (prB n w l (b (2 * j)) - nI (b (2 * j + 1))))
def ftB (n : Nat) (w : Row) (b : Nat → Nat) (J l : Nat) : Bool := cnB w l && fpB n w b l J
theorem fpB_m {n l : Nat} {w : Row} {b : Nat → Nat} : ∀ {j k : Nat}, j ≤ k → fpB n w b l j = false → fpB n w b l k = false
  | j, 0, h, x => by obtain rfl : j = 0 := by omega
                     exact x
  | j, k + 1, h, x => by
    by_cases c : j = k + 1
    · rw [← c]; exact x
    · show (fpB n w b l k && _) = false
      rw [fpB_m (k := k) (by omega) x, Bool.false_and]
theorem br_up {n m l : Nat} {w : Row} (g : Gd n m w) (hl : l < 64) (p : 0 < w (10 + l)) : upB n w (l / 8) = true ∧ upB n w (l % 8) = true ∧ l / 8 ≠ l % 8 := by
  have q := (g.2.2.1 (l / 8) (l % 8) (by omega) (by omega)).2
  rw [show 10 + 8 * (l / 8) + l % 8 = 10 + l by omega] at q
  have ne : ¬ w (10 + l) = 0 := fun z => by rw [z] at p; exact absurd p (by decide)
  refine ⟨?_, ?_, fun z => ne (q (Or.inr (Or.inr z)))⟩
  · cases c : upB n w (l / 8)
    · exact absurd (q (Or.inl c)) ne
    · rfl
  · cases c : upB n w (l % 8)
    · exact absurd (q (Or.inr (Or.inl c))) ne
    · rfl
theorem brk_Gd {n m l : Nat} {w : Row} (g : Gd n m w) (c : cnB w l = true) : Gd n m (brkW w l) := by
  unfold brkW
  by_cases hl : l < 64
  · rw [if_pos hl]
    have p : 0 < w (10 + l) := by
      unfold cnB at c
      rw [decide_eq_false (show ¬ l = 64 by omega), Bool.false_or, decide_eq_true_iff] at c
      exact c
    have u := br_up g hl p
    exact Gd_1 g (by omega) (by omega) (by omega) (fun _ _ _ => by omega) (fun x y hx hy z => ⟨⟨0, by omega, rfl⟩, by
      obtain ⟨rfl, rfl⟩ : x = l / 8 ∧ y = l % 8 := by omega
      exact u⟩) (fun _ _ _ => by omega) (fun _ _ _ => by omega)
  · rw [if_neg hl]; exact g
/-- keeping one that fits -/
def KF (c l : Nat) (u u' : Hp) : Prop := u' 23 1 = nI (c + 1) ∧ u' 23 4 = u 23 4 ∧ u' 24 = upd (u 24) c (nI l) ∧ (∀ i, i < 8 → u' 25 (8 * c + i) = u 6 i) ∧ (∀ k, k < 8 * c → u' 25 k = u 25 k) ∧ ∀ k, k ≠ 23 → k ≠ 24 → k ≠ 25 → u' k = u k
theorem c_keep75 {c l : Nat} {u : Hp} (hc : c ≤ 64) (e1 : u 23 1 = nI c) : ∃ u', F_X0_keepIfFits_75 (nI l) u = some u' ∧ KF c l u u' := by
  have Q := loopW S_X0_keepIfFits_104 (fun _ _ => none) (fun q (s : Nat × Hp) => q (nI s.1) s.2) 8 (fun j s => s.1 = j ∧ s.2 23 = u 23 ∧ s.2 24 = upd (u 24) c (nI l) ∧ (∀ i, i < j → s.2 25 (8 * c + i) = u 6 i) ∧ (∀ k, k < 8 * c → s.2 25 k = u 25 k) ∧ ∀ k, k ≠ 24 → k ≠ 25 → s.2 k = u k)
    (fun r => ∃ u', r = some u' ∧ KF c l u u') (by omega) (fun j s hj hs => ?_) (fun s hs => ?_) (0, up1 u 24 c (nI l)) ⟨rfl, by dsimp only; exact up1_ob (by decide), by dsimp only; exact up1_at, fun i hi => absurd hi (Nat.not_lt_zero i), fun k _ => by dsimp only; rw [up1_ob (by decide)], fun k a _ => up1_ob a⟩
  · unfold F_X0_keepIfFits_75
    rw [e1, if_neg (nI_pos (by omega)), show (64 : Int32) = nI 64 from rfl, if_neg (fun z => absurd ((nI_ltI (by omega) (by omega)).mp z) (by omega)), gdT (nI_ix (by omega) (by omega)), bnd_eq, nI_clamp (by omega)]
    exact Q
  · obtain ⟨j', v⟩ := s
    dsimp only at hs
    obtain ⟨hj', v1, v2, v3, v4, v5⟩ := hs
    obtain rfl : j' = j := hj'
    refine ⟨(j' + 1, up1 v 25 (8 * c + j') (u 6 j')), ⟨rfl, by dsimp only; rw [up1_ob (by decide), v1], by dsimp only; rw [up1_ob (by decide), v2], fun i hi => ?_, fun k hk => by dsimp only; rw [up1_at, upd_ob (by omega), v4 k hk], fun k a b => by dsimp only; rw [up1_ob b, v5 k a b]⟩, fun q => ?_⟩
    · dsimp only
      rw [up1_at]
      by_cases z : i = j'
      · rw [z, upd_at]
      · rw [upd_ob (by omega), v3 i (by omega)]
    · show S_X0_keepIfFits_104 q (nI j') v = q (nI (j' + 1)) _
      unfold S_X0_keepIfFits_104
      rw [if_pos (show nI j' < 8 from (nI_ltI (b := 8) (by omega) (by omega)).mpr hj), if_pos (show nI j' < 8 from (nI_ltI (b := 8) (by omega) (by omega)).mpr hj), gdT (nI_ix (by omega) (by omega)), v1, e1, ix64, gdT (nI_ix (by omega) (by omega)), bnd_eq, nI_clamp (by omega), nI_clamp (by omega), v5 6 (by decide) (by decide), nI_1]
  · obtain ⟨j', v⟩ := s
    dsimp only at hs
    obtain ⟨hj', v1, v2, v3, v4, v5⟩ := hs
    obtain rfl : j' = 8 := hj'
    refine ⟨_, ⟨up1 v 23 1 (nI (c + 1)), rfl, up1_same, by rw [up1_at, upd_ob (by decide), v1], by rw [up1_ob (by decide), v2], fun i hi => by rw [up1_ob (by decide), v3 i hi], fun k hk => by rw [up1_ob (by decide), v4 k hk], fun k a b d => by rw [up1_ob a, v5 k b d]⟩, fun q => ?_⟩
    show S_X0_keepIfFits_104 q (nI 8) v = _
    unfold S_X0_keepIfFits_104 F_X0_keepIfFits_139
    rw [if_neg (show ¬ nI 8 < 8 by decide), bnd_eq, v1, e1, nI_1]
theorem c_keep {c l n J : Nat} {u : Hp} {w : Row} {b : Nat → Nat} (hc : c ≤ 64) (e1 : u 23 1 = nI c) (hJ : J ≤ 20) (e4 : u 23 4 = nI (2 * J)) (h8 : n ≤ 8) (hb : ∀ i, i < 2 * J → u 26 i = nI (b i)) (hf : ∀ j, j < J → b (2 * j) < n) (h6 : ∀ i, i < 8 → u 6 i = prB n w l i) :
    if fpB n w b l J = true then ∃ u', f_X0_keepIfFits (nI l) u = some u' ∧ KF c l u u' else f_X0_keepIfFits (nI l) u = some u := by
  have Q := loopV (S_X0_keepIfFits_2 (nI l)) (fun _ _ => none) (fun q (s : Nat) => q (nI (2 * s)) u) J (fun j s => s = j ∧ fpB n w b l j = true)
    (fun r => if fpB n w b l J = true then ∃ u', r = some u' ∧ KF c l u u' else r = some u) (by omega) (fun j s hj hs => ?_) (fun s hs => ?_) 0 ⟨rfl, rfl⟩
  · exact Q
  · obtain ⟨rfl, f⟩ := hs
    have hl := hf s hj
    have st : ∀ q : Int32 → Hp → Option Hp, S_X0_keepIfFits_2 (nI l) q (nI (2 * s)) u = if 1 < iabs (prB n w l (b (2 * s)) - nI (b (2 * s + 1))) then some u else q (nI (2 * (s + 1))) u := fun q => by
      unfold S_X0_keepIfFits_2 F_X0_keepIfFits_48
      rw [nI_1, e4, if_pos ((nI_ltI (by omega) (by omega)).mpr (by omega)), show (40 : Int32) = nI 40 from rfl, if_pos ((nI_ltI (by omega) (by omega)).mpr (by omega)), gdT (nI_ix (by omega) (by omega)), bnd_eq, nI_clamp (by omega), hb (2 * s) (by omega), if_neg (nI_pos (by omega)), if_pos (show nI (b (2 * s)) < 8 from (nI_ltI (b := 8) (by omega) (by omega)).mpr (by omega)), gdT (nI_ix (by omega) (by omega)), gdT (nI_ix (by omega) (by omega)), nI_clamp (by omega), nI_clamp (by omega), h6 _ (by omega), hb (2 * s + 1) (by omega), z2]
      rfl
    by_cases d : 1 < iabs (prB n w l (b (2 * s)) - nI (b (2 * s + 1)))
    · refine Or.inr ⟨some u, ?_, fun q => by rw [st, if_pos d]⟩
      have : fpB n w b l (s + 1) = false := by
        show (fpB n w b l s && !decide _) = false
        rw [decide_eq_true d]
        exact Bool.and_false _
      rw [if_neg (by rw [fpB_m (show s + 1 ≤ J by omega) this]; exact fun z => Bool.noConfusion z)]
    · refine Or.inl ⟨s + 1, ⟨rfl, ?_⟩, fun q => by rw [st, if_neg d]⟩
      show (fpB n w b l s && !decide _) = true
      rw [f, decide_eq_false d]
      rfl
  · obtain ⟨rfl, f⟩ := hs
    obtain ⟨u', x, y⟩ := c_keep75 (l := l) hc e1
    refine ⟨some u', by rw [if_pos f]; exact ⟨u', rfl, y⟩, fun q => ?_⟩
    show S_X0_keepIfFits_2 (nI l) q (nI (2 * s)) u = _
    unfold S_X0_keepIfFits_2
    rw [nI_1, e4, if_neg (fun z => absurd ((nI_ltI (by omega) (by omega)).mp z) (by omega)), x]
theorem c_brk {n m l : Nat} {u : Hp} (N : NOW n m u) (hl : l ≤ 64) (c : cnB (u 31) l = true) :
    ∃ v, (∀ q : Int32 → Hp → Option Hp, F_X0_collect_47 q 100 116 (nI l) (nI (l / 8)) (nI (l % 8)) u = Option.bind (f_X0_keepIfFits (nI l) v) fun r => q (nI (l + 1)) r) ∧ (∀ i, i < 8 → v 6 i = prB n (u 31) l i) ∧ KC u v ∧ ∀ k, 23 ≤ k → k ≤ 26 → v k = u k := by
  have g := N.1
  have h8 := g.1.2.1
  have h6 := g.1.2.2.2.1
  obtain ⟨r, e1, K1, V, _, _, f1⟩ := c_probe N
  have gb := brk_Gd g c
  have ⟨s, e2, V2, f2⟩ : ∃ s, f_X1_setPart 116 (nI (l / 8)) (nI (l % 8)) 0 r = some s ∧ CV0 116 s n m (brkW (u 31) l) ∧ ∀ k, k ≠ 121 → s k = r k := by
    by_cases z : l < 64
    · have p : 0 < u 31 (10 + l) := by
        unfold cnB at c
        rw [decide_eq_false (show ¬ l = 64 by omega), Bool.false_or, decide_eq_true_iff] at c
        exact c
      have ⟨u1, u2, _⟩ := br_up g z p
      refine ⟨_, c_setPart V h8 (upB_lt u1) (upB_lt u2), ?_, fun k hk => up1_ob hk⟩
      have := CV0_pt (x := 0) (h' := up1 r 121 (8 * (l / 8) + l % 8) 0) V h6 (show l / 8 < 8 by omega) (show l % 8 < 8 by omega) up1_at (fun k hk => up1_ob hk)
      rw [show 10 + 8 * (l / 8) + l % 8 = 10 + l by omega] at this
      unfold brkW
      rw [if_pos z]
      exact this
    · refine ⟨r, ?_, by unfold brkW; rw [if_neg z]; exact V, fun _ _ => rfl⟩
      unfold f_X1_setPart
      rw [c_isHouse V.2.2.2.1.1 h8 (by omega), decide_eq_false (by omega), tff]
  obtain ⟨v, e3, P, f3⟩ := c_measurePress V2 (by decide) gb
  refine ⟨v, fun q => ?_, fun i hi => P.1 i hi, fun k hk => by rw [f3 k (by omega) (by omega) (by omega) (by omega), f2 k (by omega), K1 k hk], fun k a b => by rw [f3 k (by omega) (by omega) (by omega) (by omega), f2 k (by omega), f1 k (by omega)]⟩
  unfold F_X0_collect_47
  rw [e1, obS, e2, obS, e3, obS, nI_1]
/-- those kept by then -/
def BC (n : Nat) (w : Row) (b : Nat → Nat) (J l : Nat) (u : Hp) : Prop := u 23 1 = nI (cnt (ftB n w b J) l) ∧ u 23 4 = nI (2 * J) ∧ (∀ i, i < 2 * J → u 26 i = nI (b i)) ∧
  ∀ j, j < cnt (ftB n w b J) l → u 24 j = nI (nthT (ftB n w b J) l j) ∧ ∀ i, i < 8 → u 25 (8 * j + i) = prB n w (nthT (ftB n w b J) l j) i
theorem nth_f {p : Nat → Bool} {n x : Nat} (h : p n = false) : nthT p (n + 1) x = nthT p n x := by
  show (if p n = true ∧ cnt p n = x then n else nthT p n x) = _
  rw [if_neg (fun z => by rw [h] at z; exact Bool.noConfusion z.1)]
theorem nth_t {p : Nat → Bool} {n : Nat} (h : p n = true) : nthT p (n + 1) (cnt p n) = n := by
  show (if p n = true ∧ cnt p n = cnt p n then n else _) = _
  rw [if_pos ⟨h, rfl⟩]
theorem nth_l {p : Nat → Bool} {n x : Nat} (h : x < cnt p n) : nthT p (n + 1) x = nthT p n x := by
  show (if p n = true ∧ cnt p n = x then n else nthT p n x) = _
  rw [if_neg (fun z => by omega)]
theorem cnt_f {p : Nat → Bool} {n : Nat} (h : p n = false) : cnt p (n + 1) = cnt p n := by
  show cnt p n + (if p n then 1 else 0) = _
  rw [h]; rfl
theorem cnt_t {p : Nat → Bool} {n : Nat} (h : p n = true) : cnt p (n + 1) = cnt p n + 1 := by
  show cnt p n + (if p n then 1 else 0) = _
  rw [h]; rfl
theorem BC_f {n J l : Nat} {w : Row} {b : Nat → Nat} {u v : Hp} (B : BC n w b J l u) (f : ftB n w b J l = false) (e : ∀ k, 23 ≤ k → k ≤ 26 → v k = u k) : BC n w b J (l + 1) v := by
  unfold BC at B ⊢
  rw [cnt_f f, e 23 (by omega) (by omega), e 24 (by omega) (by omega), e 25 (by omega) (by omega), e 26 (by omega) (by omega)]
  refine ⟨B.1, B.2.1, B.2.2.1, fun j hj => ?_⟩
  rw [nth_f f]
  exact B.2.2.2 j hj
theorem c_collect {n m J : Nat} {h : Hp} {b : Nat → Nat} (N : NOW n m h) (hJ : J ≤ 20) (e4 : h 23 4 = nI (2 * J)) (hb : ∀ i, i < 2 * J → h 26 i = nI (b i)) (hf : ∀ j, j < J → b (2 * j) < n) :
    ∃ u, f_X0_collect 100 116 h = some u ∧ BC n (h 31) b J 65 u ∧ KC h u := by
  have g := N.1
  have h8 := g.1.2.1
  have Q := loopW (S_X0_collect_8 100 116) (fun _ _ => none) (fun q (s : Nat × Hp) => q (nI s.1) s.2) 65 (fun l s => s.1 = l ∧ BC n (h 31) b J l s.2 ∧ KC h s.2)
    (fun r => ∃ u, r = some u ∧ BC n (h 31) b J 65 u ∧ KC h u) (by omega) (fun l s hl hs => ?_) (fun s hs => ?_) (0, up1 h 23 1 0) ⟨rfl, ⟨by show up1 h 23 1 0 23 1 = 0; exact up1_same, by dsimp only; rw [up1_at, upd_ob (by decide)]; exact e4, fun i hi => by dsimp only; rw [up1_ob (by decide)]; exact hb i hi, fun j hj => absurd hj (Nat.not_lt_zero j)⟩, fun k hk => up1_ob (by omega)⟩
  · unfold f_X0_collect
    rw [bnd_eq]
    exact Q
  · obtain ⟨l', u⟩ := s
    dsimp only at hs
    obtain ⟨hl', B, K⟩ := hs
    obtain rfl : l' = l := hl'
    have Nu := NOW_KC N K
    have u31 : u 31 = h 31 := KC_31 K
    have n64 : ¬ (64 : Int32) < nI l' := fun z => absurd ((nI_ltI (a := 64) (by omega) (by omega)).mp z) (by omega)
    have dv : nI l' / 8 = nI (l' / 8) := zdv (d := 8) (by omega) (by omega) (by omega)
    have rm : rem (nI l') 8 = nI (l' % 8) := zrm (d := 8) (by omega) (by omega) (by omega)
    cases c : cnB (h 31) l'
    · have f : ftB n (h 31) b J l' = false := by unfold ftB; rw [c]; rfl
      have ⟨c1, c2⟩ := Bool.or_eq_false_iff.mp (show (decide (l' = 64) || decide (0 < h 31 (10 + l'))) = false from c)
      have c1 : ¬ l' = 64 := of_decide_eq_false c1
      have c2 : ¬ 0 < h 31 (10 + l') := of_decide_eq_false c2
      refine ⟨(l' + 1, u), ⟨rfl, BC_f B f (fun _ _ _ => rfl), K⟩, fun q => ?_⟩
      show S_X0_collect_8 100 116 q (nI l') u = q (nI (l' + 1)) u
      unfold S_X0_collect_8
      rw [if_neg n64, if_neg (show ¬ nI l' = 64 from fun z => c1 ((nI_eq (b := 64) (by omega) (by omega)).mp z)), dv, rm, c_partOf Nu.2.1 Nu.1 (by omega) (by omega), obS, u31, if_neg (show ¬ 0 < ptR (h 31) (l' / 8) (l' % 8) by unfold ptR; rw [show 10 + 8 * (l' / 8) + l' % 8 = 10 + l' by omega]; exact c2), nI_1]
    · obtain ⟨v, cv, p6, Kv, fv⟩ := c_brk (l := l') Nu (by omega) (by rw [u31]; exact c)
      rw [u31] at p6
      have S : ∀ q : Int32 → Hp → Option Hp, S_X0_collect_8 100 116 q (nI l') u = Option.bind (f_X0_keepIfFits (nI l') v) fun r => q (nI (l' + 1)) r := fun q => by
        unfold S_X0_collect_8
        rw [if_neg n64, dv, rm, cv]
        by_cases z : l' = 64
        · rw [if_pos (by rw [z]; rfl)]
        · have c2 : 0 < h 31 (10 + l') := by
            unfold cnB at c
            rw [decide_eq_false z, Bool.false_or, decide_eq_true_iff] at c
            exact c
          rw [if_neg (show ¬ nI l' = 64 from fun y => z ((nI_eq (b := 64) (by omega) (by omega)).mp y)), c_partOf Nu.2.1 Nu.1 (by omega) (by omega), obS, u31, if_pos (show 0 < ptR (h 31) (l' / 8) (l' % 8) by unfold ptR; rw [show 10 + 8 * (l' / 8) + l' % 8 = 10 + l' by omega]; exact c2)]
      have cl : cnt (ftB n (h 31) b J) l' ≤ 64 := Nat.le_trans (cnt_le _ _) (by omega)
      have kp := c_keep (c := cnt (ftB n (h 31) b J) l') (l := l') (n := n) (J := J) (u := v) (w := h 31) (b := b) cl (by rw [fv 23 (by omega) (by omega)]; exact B.1) hJ (by rw [fv 23 (by omega) (by omega)]; exact B.2.1) h8 (fun i hi => by rw [fv 26 (by omega) (by omega)]; exact B.2.2.1 i hi) hf p6
      cases d : fpB n (h 31) b l' J
      · rw [d, tff] at kp
        have f : ftB n (h 31) b J l' = false := by unfold ftB; rw [d, Bool.and_false]
        exact ⟨(l' + 1, v), ⟨rfl, BC_f B f fv, KC_trans K Kv⟩, fun q => by
          show S_X0_collect_8 100 116 q (nI l') u = q (nI (l' + 1)) v
          rw [S, kp, obS]⟩
      · rw [d, ttt] at kp
        obtain ⟨v', kp, k1, k4, k24, k25, k25', ko⟩ := kp
        have f : ftB n (h 31) b J l' = true := by unfold ftB; rw [d, c]; rfl
        refine ⟨(l' + 1, v'), ⟨rfl, ⟨by rw [cnt_t f]; exact k1, by dsimp only; rw [k4, fv 23 (by omega) (by omega)]; exact B.2.1, fun i hi => by dsimp only; rw [ko 26 (by decide) (by decide) (by decide), fv 26 (by omega) (by omega)]; exact B.2.2.1 i hi, fun j hj => ?_⟩, KC_trans K (KC_trans Kv fun k hk => ko k (by omega) (by omega) (by omega))⟩, fun q => by
          show S_X0_collect_8 100 116 q (nI l') u = q (nI (l' + 1)) v'
          rw [S, kp, obS]⟩
        rw [cnt_t f] at hj
        dsimp only
        by_cases z : j = cnt (ftB n (h 31) b J) l'
        · rw [z, nth_t f, k24, upd_at]
          exact ⟨rfl, fun i hi => by rw [k25 i hi, p6 i hi]⟩
        · have zl : j < cnt (ftB n (h 31) b J) l' := by omega
          have ⟨b1, b2⟩ := B.2.2.2 j zl
          rw [nth_l zl, k24, upd_ob z, fv 24 (by omega) (by omega)]
          exact ⟨b1, fun i hi => by rw [k25' _ (by omega), fv 25 (by omega) (by omega)]; exact b2 i hi⟩
  · obtain ⟨l', u⟩ := s
    dsimp only at hs
    obtain ⟨hl', B, K⟩ := hs
    obtain rfl : l' = 65 := hl'
    refine ⟨_, ⟨u, rfl, B, K⟩, fun q => ?_⟩
    show S_X0_collect_8 100 116 q (nI 65) u = _
    unfold S_X0_collect_8
    rw [if_pos (by decide)]
theorem c_tell {J : Nat} {h : Hp} {b : Nat → Nat} (hJ : J ≤ 20) (hb : ∀ i, i < 2 * J → h 3 i = nI (b i)) : ∃ u, f_X0_tell (nI (2 * J)) h = some u ∧ u 23 4 = nI (2 * J) ∧ (∀ i, i < 2 * J → u 26 i = nI (b i)) ∧ ∀ k, k ≠ 23 → k ≠ 26 → u k = h k := by
  have Q := loopW (S_X0_tell_7 (nI (2 * J))) (fun _ _ => none) (fun q (s : Nat × Hp) => q (nI s.1) s.2) (2 * J) (fun j s => s.1 = j ∧ s.2 23 4 = nI j ∧ (∀ i, i < j → s.2 26 i = nI (b i)) ∧ ∀ k, k ≠ 23 → k ≠ 26 → s.2 k = h k)
    (fun r => ∃ u, r = some u ∧ u 23 4 = nI (2 * J) ∧ (∀ i, i < 2 * J → u 26 i = nI (b i)) ∧ ∀ k, k ≠ 23 → k ≠ 26 → u k = h k) (by omega) (fun j s hj hs => ?_) (fun s hs => ?_) (0, up1 h 23 4 0) ⟨rfl, by show up1 h 23 4 0 23 4 = 0; exact up1_same, fun i hi => absurd hi (Nat.not_lt_zero i), fun k a _ => up1_ob a⟩
  · unfold f_X0_tell
    rw [bnd_eq]
    exact Q
  · obtain ⟨j', v⟩ := s
    dsimp only at hs
    obtain ⟨hj', v1, v2, v3⟩ := hs
    obtain rfl : j' = j := hj'
    refine ⟨(j' + 1, up1 (up1 v 26 j' (nI (b j'))) 23 4 (nI (j' + 1))), ⟨rfl, by dsimp only; exact up1_same, fun i hi => ?_, fun k a c => by dsimp only; rw [up1_ob a, up1_ob c, v3 k a c]⟩, fun q => ?_⟩
    · dsimp only
      rw [up1_ob (by decide), up1_at]
      by_cases z : i = j'
      · rw [z, upd_at]
      · rw [upd_ob z, v2 i (by omega)]
    · show S_X0_tell_7 (nI (2 * J)) q (nI j') v = q (nI (j' + 1)) _
      unfold S_X0_tell_7
      rw [if_pos ((nI_ltI (by omega) (by omega)).mpr hj), if_pos (show nI j' < 40 from (nI_ltI (b := 40) (by omega) (by omega)).mpr (by omega)), c_byteAt (by omega), obS, v3 3 (by decide) (by decide), hb j' hj, gdT (nI_ix (by omega) (by omega)), bnd_eq, bnd_eq, nI_clamp (by omega), up1_ob (by decide), v1, nI_1]
  · obtain ⟨j', v⟩ := s
    dsimp only at hs
    obtain ⟨hj', v1, v2, v3⟩ := hs
    subst hj'
    refine ⟨_, ⟨v, rfl, v1, v2, v3⟩, fun q => ?_⟩
    show S_X0_tell_7 (nI (2 * J)) q (nI (2 * J)) v = _
    unfold S_X0_tell_7
    rw [if_neg (fun z => absurd ((nI_ltI (by omega) (by omega)).mp z) (Nat.lt_irrefl _))]
theorem c_collB {n m J : Nat} {h : Hp} {b : Nat → Nat} (N : NOW n m h) (hJ : J ≤ 20) (e : h 2 1 = nI (2 * J)) (hb : ∀ i, i < 2 * J → b i < 256 ∧ h 3 i = nI (b i)) :
    if feB b n J = true then ∃ u, f_X11_collectBreaks h = some (Except.ok (), u) ∧ BC n (h 31) b J 65 u ∧ KC (up1 h 2 1 0) u else f_X11_collectBreaks h = some (Except.error "java/lang/IllegalArgumentException", up1 h 2 1 0) := by
  have h8 := N.1.1.2.1
  rw [c_collP e hJ N.2.1.2.2.2.1.1 h8 hb]
  unfold F_X11_collectBreaks_67
  cases f : feB b n J
  · rw [tff, if_pos (show bI false = 0 from rfl)]
  · rw [ttt, if_neg (show ¬ bI true = 0 by decide)]
    obtain ⟨r, hr⟩ : ∃ r, up1 h 2 1 0 = r := ⟨_, rfl⟩
    have ro : ∀ k, k ≠ 2 → r k = h k := fun k a => by rw [← hr, up1_ob a]
    rw [hr]
    obtain ⟨s, e1, s1, s2, s3⟩ := c_tell (h := r) (b := b) hJ (fun i hi => by rw [ro 3 (by decide)]; exact (hb i hi).2)
    have s31 : s 31 = h 31 := by rw [s3 31 (by decide) (by decide), ro 31 (by decide)]
    have Ns : NOW n m s := NOW_rw s31 N.1 (CV0_fr N.2.1 fun k x y => by rw [s3 k (by omega) (by omega), ro k (by omega)]) (LG_fr N.2.2.1 fun k x y => by rw [s3 k (by omega) (by omega), ro k (by omega)]) (LV_fr N.2.2.2 fun k x y => by rw [s3 k (by omega) (by omega), ro k (by omega)])
    obtain ⟨u, e2, B, K⟩ := c_collect Ns hJ s1 s2 (feB_t f)
    rw [s31] at B
    exact ⟨u, by rw [e1, obS, e2, obS], B, fun k hk => by rw [K k hk, s3 k (by omega) (by omega)]⟩
