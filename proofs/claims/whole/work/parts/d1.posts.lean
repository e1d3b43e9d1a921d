/-! LAYER 4. gates: the class's posts -/
def fpI (G : Nat → Nat → Nat) (k x : Nat) : Int32 := if cmN G k x = cmN G (k + 1) x then -1 else nI (lsF (fqB G k x) 8 0)
def tkN (G : Nat → Nat → Nat) : Nat → Nat
  | 0 => 0
  | p + 1 => if cmN G (5 - p) (tkN G p) = cmN G (5 - p + 1) (tkN G p) then tkN G p else tkN G p ||| 2 ^ lsF (fqB G (5 - p) (tkN G p)) 8 0
theorem ls_ok {p : Nat → Bool} : ∀ k a, (∃ i, a ≤ i ∧ i < a + k ∧ p i = true) → lsF p k a < a + k ∧ p (lsF p k a) = true ∧ ∀ j, a ≤ j → j < lsF p k a → p j = false
  | 0, a, ⟨i, x, y, _⟩ => absurd y (by omega)
  | k + 1, a, ⟨i, x, y, z⟩ => by
    show (if p a then a else lsF p k (a + 1)) < a + (k + 1) ∧ p (if p a then a else lsF p k (a + 1)) = true ∧ ∀ j, a ≤ j → j < (if p a then a else lsF p k (a + 1)) → p j = false
    by_cases c : p a = true
    · rw [if_pos c]
      exact ⟨by omega, c, fun j u v => absurd v (by omega)⟩
    · rw [if_neg c]
      have ia : i ≠ a := fun q => c (by rw [← q]; exact z)
      have ⟨a1, a2, a3⟩ := ls_ok k (a + 1) ⟨i, by omega, by omega, z⟩
      refine ⟨by omega, a2, fun j u v => ?_⟩
      by_cases d : j = a
      · rw [d]; exact Bool.eq_false_iff.mpr c
      · exact a3 j (by omega) v
theorem fq_ex {G : Nat → Nat → Nat} {k x : Nat} (h : ¬ cmN G k x = cmN G (k + 1) x) : ∃ i, i < 8 ∧ fqB G k x i = true := by
  have ge := fm_0 (f := cfN G k x) (a := cmN G k x) 8
  rcases fm_at (f := cfN G k x) (a := cmN G k x) 8 with e | ⟨i, hi, e⟩
  · exact absurd e.symm h
  · refine ⟨i, hi, ?_⟩
    unfold fqB
    rw [cm_s] at h ⊢
    by_cases c : 0 < G (5 - k) i ∧ bxN x i = false
    · have e2 : cfN G k x i = G (5 - k) i + cmN G k (x ||| 2 ^ i) := if_pos c
      rw [decide_eq_true c.1, c.2, decide_eq_true (by rw [e, e2])]
      rfl
    · have e2 : cfN G k x i = 0 := if_neg c
      omega
theorem ls_8 {G : Nat → Nat → Nat} {k x : Nat} (h : ¬ cmN G k x = cmN G (k + 1) x) : lsF (fqB G k x) 8 0 < 8 ∧ fqB G k x (lsF (fqB G k x) 8 0) = true ∧ ∀ j, j < lsF (fqB G k x) 8 0 → fqB G k x j = false := by
  obtain ⟨i, hi, e⟩ := fq_ex h
  have ⟨a, b, c⟩ := ls_ok 8 0 ⟨i, Nat.zero_le _, by omega, e⟩
  exact ⟨by omega, b, fun j hj => c j (Nat.zero_le _) hj⟩
theorem tk_ok {G : Nat → Nat → Nat} : ∀ p, tkN G p < 256 ∧ cnt (bxN (tkN G p)) 8 ≤ p
  | 0 => ⟨by show (0 : Nat) < 256; omega, by show cnt (bxN 0) 8 ≤ 0; decide⟩
  | p + 1 => by
    have ⟨a, b⟩ := tk_ok (G := G) p
    show (if _ then _ else _) < 256 ∧ cnt (bxN (if _ then _ else _)) 8 ≤ p + 1
    by_cases c : cmN G (5 - p) (tkN G p) = cmN G (5 - p + 1) (tkN G p)
    · rw [if_pos c]; exact ⟨a, by omega⟩
    · rw [if_neg c]
      have ⟨x, y, z⟩ := bx_or _ a _ (ls_8 c).1
      exact ⟨x, by omega⟩
section PS
variable {n m e : Nat} {w : Row} {h u : Hp} {G : Nat → Nat → Nat}
theorem c_gain7 {p i : Nat} (g : Gd n m w) (he : e < 7) (ee : w 4 = nI e) (V : CV0 116 h n m (nbW w m)) (S : SV h n m (nbW w m) (nI e)) (hp : p < 6) (hi : i < 8) : f_X7_gain 116 (nI p) (nI i) h = some (nI (gnN n m w e p i)) := by
  have h8 := g.1.2.1
  have h6 := g.1.2.2.2.1
  have e12 : h 116 12 = nI e := by rw [V.2.2.2.2.1, nb_ob (by omega) m h6, ee]
  have s9 := (S i hi).2.2.2.1
  have ec : cmR (nbW w m) p = cmR w p := nb_ob (by omega) m h6
  have eh : hdR (nbW w m) p = hdR w p := nb_ob (by omega) m h6
  unfold f_X7_gain
  rw [if_neg (nI_pos (by omega)), if_pos (show nI i < 8 from (nI_ltI (b := 8) (by omega) (by omega)).mpr hi), c_isUp V h8 (by omega), nb_up h6 hi, e12, c_isThere V h6 (by omega) he, obS, ec, c_holdOf V h6 (by omega), obS, eh, gdT (nI_ix (by omega) (by omega)), nI_clamp (by omega), s9, nb_up h6 hi]
  unfold gnN
  cases hu : upB n w i
  · rw [tff, Bool.false_and]; rfl
  · rw [ttt, Bool.true_and, ttt]
    by_cases d : (decide (p < m) && tb (cmR w p) e) = true
    · have hm : p < m := of_decide_eq_true (Bool.and_eq_true_iff.mp d).1
      obtain ⟨a, a9, ea⟩ := gn_ok (e := nI e) g hm hi
      rw [if_pos d, if_pos d, if_pos hm]
      show some (gnI n m w (nI e) p i) = _
      rw [ea, nI_clamp (by omega)]
    · rw [if_neg d, if_neg d]; rfl
/-- the gains of the first people -/
def GV (G : Nat → Nat → Nat) (p : Nat) (u : Hp) : Prop := ∀ q i, q < p → i < 8 → u 21 (8 * q + i) = nI (G q i)
theorem c_gains (g : Gd n m w) (he : e < 7) (ee : w 4 = nI e) (V : CV0 116 h n m (nbW w m)) (S : SV h n m (nbW w m) (nI e)) :
    ∃ u, f_X7_solve 116 h = F_X7_solve_52 FU 5 u ∧ GV (gnN n m w e) 6 u ∧ ∀ k, k ≠ 21 → u k = h k := by
  have Q := loopW (S_X7_solve_2 116) (fun _ _ => none) (fun q (s : Nat × Hp) => q (nI s.1) s.2) 6 (fun p s => s.1 = p ∧ GV (gnN n m w e) p s.2 ∧ ∀ k, k ≠ 21 → s.2 k = h k)
    (fun r => ∃ u, r = F_X7_solve_52 FU 5 u ∧ GV (gnN n m w e) 6 u ∧ ∀ k, k ≠ 21 → u k = h k) (by omega) (fun p s hp hs => ?_) (fun s hs => ?_) (0, h) ⟨rfl, fun q i hq _ => absurd hq (Nat.not_lt_zero q), fun _ _ => rfl⟩
  · exact Q
  · obtain ⟨p', u⟩ := s
    dsimp only at hs
    obtain ⟨hp', B, K⟩ := hs
    obtain rfl : p' = p := hp'
    have inner := loopQ (fun (c : Int32 → Hp → Option (Int32 × Hp)) k => F_X7_solve_11 c 116 (nI p') k) (fun c q => S_X7_solve_11 c 116 (nI p') q) (fun c k => rfl) (fun q (s : Nat × Hp) => q (nI s.1) s.2) 8
      (fun i s => s.1 = i ∧ (∀ j, j < i → s.2 21 (8 * p' + j) = nI (gnN n m w e p' j)) ∧ (∀ k, k < 8 * p' → s.2 21 k = u 21 k) ∧ ∀ k, k ≠ 21 → s.2 k = h k)
      (fun r => ∃ v, (GV (gnN n m w e) (p' + 1) v ∧ ∀ k, k ≠ 21 → v k = h k) ∧ r = fun c => c (nI (p' + 1)) v) (by omega) (fun i s hi hs => ?_) (fun s hs => ?_) (0, u) ⟨rfl, fun j hj => absurd hj (Nat.not_lt_zero j), fun _ _ => rfl, K⟩
    · obtain ⟨v, Kv, ev⟩ := inner
      refine ⟨(p' + 1, v), ⟨rfl, Kv⟩, fun q => ?_⟩
      show S_X7_solve_2 116 q (nI p') u = q (nI (p' + 1)) v
      have t := congrFun ev q
      dsimp only at t
      unfold S_X7_solve_2
      rw [if_pos (show nI p' < 6 from (nI_ltI (b := 6) (by omega) (by omega)).mpr hp)]
      exact t
    · obtain ⟨i', v⟩ := s
      dsimp only at hs
      obtain ⟨hi', v1, v2, v3⟩ := hs
      obtain rfl : i' = i := hi'
      have ga := c_gain7 (p := p') (i := i') (h := v) g he ee (CV0_fr V fun k x y => v3 k (by omega)) (fun j hj => by rw [v3 6 (by decide), v3 7 (by decide), v3 8 (by decide), v3 9 (by decide), v3 10 (by decide)]; exact S j hj) hp hi
      refine Or.inl ⟨(i' + 1, up1 v 21 (8 * p' + i') (nI (gnN n m w e p' i'))), ⟨rfl, fun j hj => ?_, fun k hk => by dsimp only; rw [up1_at, upd_ob (by omega), v2 k hk], fun k hk => by dsimp only; rw [up1_ob hk, v3 k hk]⟩, fun c q => ?_⟩
      · dsimp only
        rw [up1_at]
        by_cases z : j = i'
        · rw [z, upd_at]
        · rw [upd_ob (by omega), v1 j (by omega)]
      · show S_X7_solve_11 c 116 (nI p') q (nI i') v = q (nI (i' + 1)) _
        unfold S_X7_solve_11
        rw [if_pos (show nI i' < 8 from (nI_ltI (b := 8) (by omega) (by omega)).mpr hi), ga, obS, ix64, gdT (nI_ix (by omega) (by omega)), bnd_eq, nI_clamp (by omega), nI_1]
    · obtain ⟨i', v⟩ := s
      dsimp only at hs
      obtain ⟨hi', v1, v2, v3⟩ := hs
      obtain rfl : i' = 8 := hi'
      refine ⟨_, ⟨v, ⟨fun q i hq hi => ?_, v3⟩, rfl⟩, fun c q => ?_⟩
      · by_cases z : q = p'
        · rw [z]; exact v1 i hi
        · rw [v2 _ (by omega)]; exact B q i (by omega) hi
      · show S_X7_solve_11 c 116 (nI p') q (nI 8) v = c (nI (p' + 1)) v
        unfold S_X7_solve_11
        rw [if_neg (show ¬ nI 8 < 8 by decide), nI_1]
  · obtain ⟨p', u⟩ := s
    dsimp only at hs
    obtain ⟨hp', B, K⟩ := hs
    obtain rfl : p' = 6 := hp'
    refine ⟨_, ⟨u, rfl, B, K⟩, fun q => ?_⟩
    show S_X7_solve_2 116 q (nI 6) u = _
    unfold S_X7_solve_2
    rw [if_neg (show ¬ nI 6 < 6 by decide)]
/-- the row of one person -/
def RW (G : Nat → Nat → Nat) (p : Nat) (u : Hp) : Prop := ∀ y, y < 256 → cnt (bxN y) 8 ≤ p → u 20 (256 * p + y) = nI (cmN G (6 - p) y)
theorem ix256 (a b : Nat) : nI a * 256 + nI b = nI (256 * a + b) := by
  rw [show (256 : Int32) = nI 256 from rfl, zmul, zadd, Nat.mul_comm]
theorem c_rest {p x : Nat} (R : RW G p u) (hp : p ≤ 6) (hx : x < 256) (hc : cnt (bxN x) 8 ≤ p) : f_X7_rest (nI p) (nI x) u = some (nI (cmN G (6 - p) x)) := by
  unfold f_X7_rest
  rw [bnd_eq, ix256, if_neg (nI_pos (by omega)), if_pos (show nI (256 * p + x) < 1792 from (nI_ltI (b := 1792) (by omega) (by omega)).mpr (by omega)), gdT (nI_ix (by omega) (by omega)), nI_clamp (by omega), R x hx hc]
theorem c_mostOf {p x : Nat} (hG : ∀ p i, i < 8 → G p i ≤ 99) (B : GV G 6 u) (R : RW G (p + 1) u) (hp : p < 6) (hx : x < 256) (hc : cnt (bxN x) 8 ≤ p) : f_X7_mostOf (nI p) (nI x) u = some (nI (cmN G (6 - p) x)) := by
  have k1 : 6 - (p + 1) = 5 - p := by omega
  have k2 : 6 - p = 5 - p + 1 := by omega
  have k3 : 5 - (5 - p) = p := by omega
  have bd : ∀ k x, k ≤ 6 → cmN G k x ≤ 594 := fun k x hk => Nat.le_trans (cm_b hG k x) (by omega)
  rw [k2, cm_s]
  have Q := loop0 (S_X7_mostOf_12 u (nI p) (nI x)) (fun _ _ => none) (fun j q => q (nI (fm (cfN G (5 - p) x) (cmN G (5 - p) x) j)) (nI j)) 8 (some (nI (fm (cfN G (5 - p) x) (cmN G (5 - p) x) 8))) (by omega) (fun j hj q => ?_) (fun q => ?_)
  · unfold f_X7_mostOf
    rw [nI_1, c_rest R (by omega) hx (by omega), obS, k1]
    exact Q
  · show S_X7_mostOf_12 u (nI p) (nI x) q (nI (fm (cfN G (5 - p) x) (cmN G (5 - p) x) j)) (nI j) = q (nI (max (fm (cfN G (5 - p) x) (cmN G (5 - p) x) j) (cfN G (5 - p) x j))) (nI (j + 1))
    have fb : fm (cfN G (5 - p) x) (cmN G (5 - p) x) j ≤ 1000 := fm_le (by have := bd (5 - p) x (by omega); omega) j fun i hi => by
      have := bd (5 - p) (x ||| 2 ^ i) (by omega)
      have := hG (5 - (5 - p)) i (by omega)
      unfold cfN
      split <;> omega
    generalize fm (cfN G (5 - p) x) (cmN G (5 - p) x) j = X at fb ⊢
    have ⟨o1, o2, o3⟩ := bx_or x hx j hj
    have g9 := hG p j hj
    have c9 := bd (5 - p) (x ||| 2 ^ j) (by omega)
    unfold S_X7_mostOf_12 cfN
    rw [if_pos (show nI j < 8 from (nI_ltI (b := 8) (by omega) (by omega)).mpr hj), ix64, gdT (nI_ix (by omega) (by omega)), bnd_eq, nI_clamp (by omega), B p j hp hj, k3, o2, nI_1, nI_1]
    by_cases d : 0 < G p j
    · rw [if_pos (show 0 < nI (G p j) by rw [zp0 (by omega)]; exact d)]
      by_cases f : bxN x j = false
      · rw [if_pos (show shr (nI x) (nI j) &&& 1 = 0 by rw [bx_s0 hx hj]; exact f), if_pos ⟨d, f⟩, c_rest R (by omega) o1 (by omega), obS, k1, zadd, zmax (by omega) (by omega), bnd_eq]
      · rw [if_neg (show ¬ shr (nI x) (nI j) &&& 1 = 0 by rw [bx_s0 hx hj]; exact f), if_neg (fun z => f z.2), Nat.max_zero]
    · rw [if_neg (show ¬ 0 < nI (G p j) by rw [zp0 (by omega)]; exact d), if_neg (fun z => d z.1), Nat.max_zero]
  · show S_X7_mostOf_12 u (nI p) (nI x) q (nI (fm (cfN G (5 - p) x) (cmN G (5 - p) x) 8)) (nI 8) = _
    unfold S_X7_mostOf_12
    rw [if_neg (show ¬ nI 8 < 8 by decide)]
theorem d5 : ∀ d, d < 6 → nI 5 - nI d + (-1) = nI 5 - nI (d + 1) ∧ ¬ (nI 5 - nI d < 0) ∧ nI 5 - nI d = nI (5 - d) := by decide +kernel
/-- the table -/
theorem c_table (hG : ∀ p i, i < 8 → G p i ≤ 99) (B : GV G 6 h) (Z : ∀ k, 1536 ≤ k → h 20 k = 0) :
    ∃ u, F_X7_solve_52 FU 5 h = Option.bind (f_X7_placeAll u) (fun r => some (r 20 0, r)) ∧ (∀ p, p ≤ 6 → RW G p u) ∧ (∀ k, 1536 ≤ k → u 20 k = 0) ∧ ∀ k, k ≠ 20 → u k = h k := by
  have Q := loopW S_X7_solve_52 (fun _ _ => none) (fun q (s : Nat × Hp) => q (nI 5 - nI s.1) s.2) 6 (fun d s => s.1 = d ∧ (∀ p, 6 - d ≤ p → p ≤ 6 → RW G p s.2) ∧ (∀ k, 1536 ≤ k → s.2 20 k = 0) ∧ ∀ k, k ≠ 20 → s.2 k = h k)
    (fun r => ∃ u, r = Option.bind (f_X7_placeAll u) (fun r => some (r 20 0, r)) ∧ (∀ p, p ≤ 6 → RW G p u) ∧ (∀ k, 1536 ≤ k → u 20 k = 0) ∧ ∀ k, k ≠ 20 → u k = h k) (by omega) (fun d s hd hs => ?_) (fun s hs => ?_) (0, h) ⟨rfl, fun p a b y _ _ => by
      obtain rfl : p = 6 := by omega
      show h 20 (256 * 6 + y) = _
      rw [Z _ (by omega)]; rfl, Z, fun _ _ => rfl⟩
  · dsimp only at Q
    rw [show nI 5 - nI 0 = 5 from by decide] at Q
    exact Q
  · obtain ⟨d', u⟩ := s
    dsimp only at hs
    obtain ⟨hd', R, Zu, K⟩ := hs
    obtain rfl : d' = d := hd'
    obtain ⟨x1, x2, x3⟩ := d5 d' hd
    obtain ⟨p, hp⟩ : ∃ p, 5 - d' = p := ⟨_, rfl⟩
    have Bu : GV G 6 u := fun q i a b => by rw [K 21 (by decide)]; exact B q i a b
    have inner := loopQ (fun (c : Int32 → Hp → Option (Int32 × Hp)) k => F_X7_solve_59 c (nI p) k) (fun c q => S_X7_solve_59 c (nI p) q) (fun c k => rfl) (fun q (s : Nat × Hp) => q (nI s.1) s.2) 256
      (fun x s => s.1 = x ∧ (∀ y, y < x → cnt (bxN y) 8 ≤ p → s.2 20 (256 * p + y) = nI (cmN G (6 - p) y)) ∧ (∀ k, 256 * (p + 1) ≤ k → s.2 20 k = u 20 k) ∧ ∀ k, k ≠ 20 → s.2 k = h k)
      (fun r => ∃ v, (RW G p v ∧ (∀ k, 256 * (p + 1) ≤ k → v 20 k = u 20 k) ∧ ∀ k, k ≠ 20 → v k = h k) ∧ r = fun c => c (nI p + (-1)) v) (by omega) (fun x s hx hs => ?_) (fun s hs => ?_) (0, u) ⟨rfl, fun j hj => absurd hj (Nat.not_lt_zero j), fun _ _ => rfl, K⟩
    · obtain ⟨v, ⟨v1, v2, v3⟩, ev⟩ := inner
      refine ⟨(d' + 1, v), ⟨rfl, fun q a b => ?_, fun k hk => by dsimp only; rw [v2 k (by omega)]; exact Zu k hk, v3⟩, fun q => ?_⟩
      · by_cases z : q = p
        · rw [z]; exact v1
        · intro y hy c
          dsimp only
          rw [v2 _ (by omega)]
          exact R q (by omega) b y hy c
      · show S_X7_solve_52 q (nI 5 - nI d') u = q (nI 5 - nI (d' + 1)) v
        have t := congrFun ev q
        dsimp only at t
        unfold S_X7_solve_52
        rw [if_neg x2, ← x1, x3, hp]
        exact t
    · obtain ⟨x', v⟩ := s
      dsimp only at hs
      obtain ⟨hx', v1, v2, v3⟩ := hs
      obtain rfl : x' = x := hx'
      have cb : f_J6_bitCount_0f7a4 (nI x') v = nI (cnt (bxN x') 8) := bx_c hx v
      have c8 := cnt_le (bxN x') 8
      by_cases c : cnt (bxN x') 8 ≤ p
      · have mo := c_mostOf (u := v) (p := p) (x := x') hG (fun q i a b => by rw [v3 21 (by decide)]; exact B q i a b) (fun y hy z => by rw [v2 _ (by omega)]; exact R (p + 1) (by omega) (by omega) y hy z) (by omega) hx c
        refine Or.inl ⟨(x' + 1, up1 v 20 (256 * p + x') (nI (cmN G (6 - p) x'))), ⟨rfl, fun y hy z => ?_, fun k hk => by dsimp only; rw [up1_at, upd_ob (by omega), v2 k hk], fun k hk => by dsimp only; rw [up1_ob hk, v3 k hk]⟩, fun cc q => ?_⟩
        · dsimp only
          rw [up1_at]
          by_cases f : y = x'
          · rw [f, upd_at]
          · rw [upd_ob (by omega), v1 y (by omega) z]
        · show S_X7_solve_59 cc (nI p) q (nI x') v = q (nI (x' + 1)) _
          unfold S_X7_solve_59
          rw [if_pos (show nI x' < 256 from (nI_ltI (b := 256) (by omega) (by omega)).mpr hx), cb, if_neg (fun z => absurd ((nI_ltI (by omega) (by omega)).mp z) (by omega)), mo, obS, ix256, gdT (nI_ix (by omega) (by omega)), bnd_eq, nI_clamp (by omega), nI_1]
      · refine Or.inl ⟨(x' + 1, v), ⟨rfl, fun y hy z => ?_, v2, v3⟩, fun cc q => ?_⟩
        · by_cases f : y = x'
          · rw [f] at z; exact absurd z c
          · exact v1 y (by omega) z
        · show S_X7_solve_59 cc (nI p) q (nI x') v = q (nI (x' + 1)) v
          unfold S_X7_solve_59
          rw [if_pos (show nI x' < 256 from (nI_ltI (b := 256) (by omega) (by omega)).mpr hx), cb, if_pos ((nI_ltI (by omega) (by omega)).mpr (by omega)), nI_1]
    · obtain ⟨x', v⟩ := s
      dsimp only at hs
      obtain ⟨hx', v1, v2, v3⟩ := hs
      obtain rfl : x' = 256 := hx'
      refine ⟨_, ⟨v, ⟨v1, v2, v3⟩, rfl⟩, fun c q => ?_⟩
      show S_X7_solve_59 c (nI p) q (nI 256) v = c (nI p + (-1)) v
      unfold S_X7_solve_59
      rw [if_neg (show ¬ nI 256 < 256 by decide)]
  · obtain ⟨d', u⟩ := s
    dsimp only at hs
    obtain ⟨hd', R, Zu, K⟩ := hs
    obtain rfl : d' = 6 := hd'
    refine ⟨_, ⟨u, rfl, fun p hp => R p (by omega) hp, Zu, K⟩, fun q => ?_⟩
    show S_X7_solve_52 q (nI 5 - nI 6) u = _
    unfold S_X7_solve_52
    rw [if_pos (show nI 5 - nI 6 < 0 by decide)]
theorem c_firstPlace {p x : Nat} (hG : ∀ p i, i < 8 → G p i ≤ 99) (B : GV G 6 u) (R : ∀ p, p ≤ 6 → RW G p u) (hp : p < 6) (hx : x < 256) (hc : cnt (bxN x) 8 ≤ p) : f_X7_firstPlace (nI p) (nI x) u = some (fpI G (5 - p) x) := by
  have k1 : 6 - (p + 1) = 5 - p := by omega
  have k2 : 6 - p = 5 - p + 1 := by omega
  have k3 : 5 - (5 - p) = p := by omega
  have bd : ∀ k x, k ≤ 6 → cmN G k x ≤ 594 := fun k x hk => Nat.le_trans (cm_b hG k x) (by omega)
  have b1 := bd (5 - p) x (by omega)
  have b2 := bd (5 - p + 1) x (by omega)
  have Q := loopV (S_X7_firstPlace_10 u (nI p) (nI x) (nI (cmN G (5 - p + 1) x))) (fun _ => none) (fun q (s : Nat) => q (nI s)) 8 (fun j s => s = j ∧ ∀ i, i < j → fqB G (5 - p) x i = false)
    (fun r => r = some (fpI G (5 - p) x)) (by omega) (fun j s hj hs => ?_) (fun s hs => ?_) 0 ⟨rfl, fun i hi => absurd hi (Nat.not_lt_zero i)⟩
  · unfold f_X7_firstPlace
    rw [c_rest (R p (by omega)) (by omega) hx hc, obS, k2]
    exact Q
  · obtain ⟨rfl, hz⟩ := hs
    have ⟨o1, o2, o3⟩ := bx_or x hx s hj
    have g9 := hG p s hj
    have c9 := bd (5 - p) (x ||| 2 ^ s) (by omega)
    have st : ∀ q : Int32 → Option Int32, S_X7_firstPlace_10 u (nI p) (nI x) (nI (cmN G (5 - p + 1) x)) q (nI s) = if cmN G (5 - p) x = cmN G (5 - p + 1) x then some (-1) else if fqB G (5 - p) x s = true then some (nI s) else q (nI (s + 1)) := fun q => by
      unfold S_X7_firstPlace_10 fqB
      rw [if_pos (show nI s < 8 from (nI_ltI (b := 8) (by omega) (by omega)).mpr hj), nI_1, c_rest (R (p + 1) (by omega)) (by omega) hx (by omega), obS, k1, ix64, gdT (nI_ix (by omega) (by omega)), bnd_eq, nI_clamp (by omega), B p s hp hj, k3, o2, nI_1]
      by_cases c : cmN G (5 - p) x = cmN G (5 - p + 1) x
      · rw [if_pos (show nI (cmN G (5 - p) x) = nI (cmN G (5 - p + 1) x) by rw [c]), if_pos c]
      · rw [if_neg (show ¬ nI (cmN G (5 - p) x) = nI (cmN G (5 - p + 1) x) by rw [zeq (by omega) (by omega)]; exact c), if_neg c]
        by_cases d : 0 < G p s
        · rw [if_pos (show 0 < nI (G p s) by rw [zp0 (by omega)]; exact d), decide_eq_true d]
          by_cases f : bxN x s = false
          · rw [if_pos (show shr (nI x) (nI s) &&& 1 = 0 by rw [bx_s0 hx hj]; exact f), f, c_rest (R (p + 1) (by omega)) (by omega) o1 (by omega), obS, k1, zadd]
            by_cases t : G p s + cmN G (5 - p) (x ||| 2 ^ s) = cmN G (5 - p + 1) x
            · rw [if_pos (show nI (G p s + cmN G (5 - p) (x ||| 2 ^ s)) = nI (cmN G (5 - p + 1) x) by rw [t]), decide_eq_true t]; rfl
            · rw [if_neg (show ¬ nI (G p s + cmN G (5 - p) (x ||| 2 ^ s)) = nI (cmN G (5 - p + 1) x) by rw [zeq (by omega) (by omega)]; exact t), decide_eq_false t]; rfl
          · rw [if_neg (show ¬ shr (nI x) (nI s) &&& 1 = 0 by rw [bx_s0 hx hj]; exact f), show bxN x s = true from by
              cases y : bxN x s
              · exact absurd y f
              · rfl]
            rfl
        · rw [if_neg (show ¬ 0 < nI (G p s) by rw [zp0 (by omega)]; exact d), decide_eq_false d]; rfl
    by_cases c : cmN G (5 - p) x = cmN G (5 - p + 1) x
    · refine Or.inr ⟨_, rfl, fun q => ?_⟩
      rw [st, if_pos c]
      unfold fpI
      rw [if_pos c]
    · by_cases d : fqB G (5 - p) x s = true
      · refine Or.inr ⟨_, rfl, fun q => ?_⟩
        rw [st, if_neg c, if_pos d]
        unfold fpI
        have ⟨l1, l2, l3⟩ := ls_8 c
        rw [if_neg c]
        congr 2
        by_cases lt : lsF (fqB G (5 - p) x) 8 0 < s
        · rw [hz _ lt] at l2; exact Bool.noConfusion l2
        · by_cases gt : s < lsF (fqB G (5 - p) x) 8 0
          · rw [l3 s gt] at d; exact Bool.noConfusion d
          · omega
      · refine Or.inl ⟨s + 1, ⟨rfl, fun i hi => ?_⟩, fun q => by rw [st, if_neg c, if_neg d]⟩
        by_cases z : i = s
        · rw [z]; exact Bool.eq_false_iff.mpr d
        · exact hz i (by omega)
  · obtain ⟨rfl, hz⟩ := hs
    refine ⟨_, rfl, fun q => ?_⟩
    show S_X7_firstPlace_10 u (nI p) (nI x) (nI (cmN G (5 - p + 1) x)) q (nI 8) = _
    unfold S_X7_firstPlace_10 fpI
    rw [if_neg (show ¬ nI 8 < 8 by decide)]
    by_cases c : cmN G (5 - p) x = cmN G (5 - p + 1) x
    · rw [if_pos c]
    · have ⟨l1, l2, l3⟩ := ls_8 c
      rw [hz _ l1] at l2
      exact Bool.noConfusion l2
theorem c_placeAll (hG : ∀ p i, i < 8 → G p i ≤ 99) (B : GV G 6 h) (R : ∀ p, p ≤ 6 → RW G p h) : ∃ u, f_X7_placeAll h = some u ∧ (∀ p, p < 6 → u 22 p = fpI G (5 - p) (tkN G p)) ∧ ∀ k, k ≠ 22 → u k = h k := by
  have Q := loopW S_X7_placeAll_4 (fun _ _ _ => none) (fun q (s : Nat × Hp) => q (nI (tkN G s.1)) (nI s.1) s.2) 6 (fun p s => s.1 = p ∧ (∀ q, q < p → s.2 22 q = fpI G (5 - q) (tkN G q)) ∧ ∀ k, k ≠ 22 → s.2 k = h k)
    (fun r => ∃ u, r = some u ∧ (∀ p, p < 6 → u 22 p = fpI G (5 - p) (tkN G p)) ∧ ∀ k, k ≠ 22 → u k = h k) (by omega) (fun p s hp hs => ?_) (fun s hs => ?_) (0, h) ⟨rfl, fun q hq => absurd hq (Nat.not_lt_zero q), fun _ _ => rfl⟩
  · exact Q
  · obtain ⟨p', u⟩ := s
    dsimp only at hs
    obtain ⟨hp', u1, u2⟩ := hs
    obtain rfl : p' = p := hp'
    have ⟨t1, t2⟩ := tk_ok (G := G) p'
    have fp := c_firstPlace (u := u) (p := p') (x := tkN G p') hG (fun q i a b => by rw [u2 21 (by decide)]; exact B q i a b) (fun q a y hy c => by rw [u2 20 (by decide)]; exact R q a y hy c) hp t1 t2
    refine ⟨(p' + 1, up1 u 22 p' (fpI G (5 - p') (tkN G p'))), ⟨rfl, fun q hq => ?_, fun k hk => by dsimp only; rw [up1_ob hk, u2 k hk]⟩, fun q => ?_⟩
    · dsimp only
      rw [up1_at]
      by_cases z : q = p'
      · rw [z, upd_at]
      · rw [upd_ob z, u1 q (by omega)]
    · show S_X7_placeAll_4 q (nI (tkN G p')) (nI p') u = q (nI (if cmN G (5 - p') (tkN G p') = cmN G (5 - p' + 1) (tkN G p') then tkN G p' else tkN G p' ||| 2 ^ lsF (fqB G (5 - p') (tkN G p')) 8 0)) (nI (p' + 1)) _
      unfold S_X7_placeAll_4 F_X7_placeAll_37
      rw [if_pos (show nI p' < 6 from (nI_ltI (b := 6) (by omega) (by omega)).mpr hp), fp, obS, gdT (nI_ix (by omega) (by omega)), bnd_eq, nI_clamp (by omega), bnd_eq, bnd_eq, nI_1]
      by_cases c : cmN G (5 - p') (tkN G p') = cmN G (5 - p' + 1) (tkN G p')
      · have e : fpI G (5 - p') (tkN G p') = -1 := if_pos c
        rw [if_pos c, e, if_pos rfl, Int32.or_zero]
      · have e : fpI G (5 - p') (tkN G p') = nI (lsF (fqB G (5 - p') (tkN G p')) 8 0) := if_neg c
        have ⟨l1, _, _⟩ := ls_8 c
        rw [if_neg c, e, if_neg (show ¬ nI (lsF (fqB G (5 - p') (tkN G p')) 8 0) = -1 from fun z => (zem (by omega)).mp z), (bx_or _ t1 _ l1).2.1]
  · obtain ⟨p', u⟩ := s
    dsimp only at hs
    obtain ⟨hp', u1, u2⟩ := hs
    obtain rfl : p' = 6 := hp'
    refine ⟨_, ⟨u, rfl, u1, u2⟩, fun q => ?_⟩
    show S_X7_placeAll_4 q (nI (tkN G 6)) (nI 6) u = _
    unfold S_X7_placeAll_4
    rw [if_neg (show ¬ nI 6 < 6 by decide)]
theorem c_solve (g : Gd n m w) (he : e < 7) (ee : w 4 = nI e) (V : CV0 116 h n m (nbW w m)) (S : SV h n m (nbW w m) (nI e)) (Z : ∀ k, 1536 ≤ k → h 20 k = 0) :
    ∃ u, f_X7_solve 116 h = some (nI (cmN (gnN n m w e) 6 0), u) ∧ (∀ p, p < 6 → u 22 p = fpI (gnN n m w e) (5 - p) (tkN (gnN n m w e) p)) ∧ (∀ k, 1536 ≤ k → u 20 k = 0) ∧ ∀ k, k ≠ 20 → k ≠ 21 → k ≠ 22 → u k = h k := by
  have hG : ∀ p i, i < 8 → gnN n m w e p i ≤ 99 := fun p i hi => gn_99 g hi
  obtain ⟨u1, e1, B1, f1⟩ := c_gains g he ee V S
  obtain ⟨u2, e2, R2, Z2, f2⟩ := c_table (h := u1) hG B1 (fun k hk => by rw [f1 20 (by decide)]; exact Z k hk)
  obtain ⟨u3, e3, p3, f3⟩ := c_placeAll (h := u2) hG (fun q i a b => by rw [f2 21 (by decide)]; exact B1 q i a b) R2
  refine ⟨u3, ?_, p3, fun k hk => by rw [f3 20 (by decide)]; exact Z2 k hk, fun k a b c => by rw [f3 k c, f2 k a, f1 k b]⟩
  rw [e1, e2, e3, obS, f3 20 (by decide)]
  have := R2 0 (by omega) 0 (by omega) (by decide)
  rw [show 256 * 0 + 0 = 0 from rfl] at this
  rw [this]
end PS
