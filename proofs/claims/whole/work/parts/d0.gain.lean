/-! LAYER 4. gates: sets as numbers, what can be held -/
def nbW (w : Row) (N : Nat) : Row := fldN (fun p v => plW v p (-1)) w N
theorem nb_ob {w : Row} {k : Nat} (h : k < 114 ∨ 132 ≤ k ∨ (k - 114) % 3 ≠ 0) : ∀ N, N ≤ 6 → nbW w N k = w k
  | 0, _ => rfl
  | N + 1, hN => by
    show plW (nbW w N) N (-1) k = w k
    rw [plW_ob (by omega), nb_ob h N (by omega)]
theorem nb_Gd {n m : Nat} {w : Row} (g : Gd n m w) : ∀ N, N ≤ m → Gd n m (nbW w N)
  | 0, _ => g
  | N + 1, hN => plW_Gd (nb_Gd g N (by omega)) (by omega) (Or.inl rfl)
theorem nb_up {n m i : Nat} {w : Row} (hm : m ≤ 6) (hi : i < 8) : upB n (nbW w m) i = upB n w i := by
  unfold upB falB; rw [nb_ob (by omega) m hm]
def gnI (n m : Nat) (w : Row) (e : Int32) (p i : Nat) : Int32 := imax 0 (imin (hdR w p) (sgW n m (nbW w m) e 0 i))
def gnN (n m : Nat) (w : Row) (e p i : Nat) : Nat := if upB n w i && (decide (p < m) && tb (cmR w p) e) then (gnI n m w (nI e) p i).toNatClampNeg else 0
theorem cl_min {b t c : Nat} (hb : b < 2 ^ 20) (ht : t < 2 ^ 20) (hc : c ≤ 99) : ∃ a, a ≤ 99 ∧ imax 0 (imin (nI c) (nI b - nI t)) = nI a := by
  by_cases z : t ≤ b
  · rw [zsub z, zmin (by omega) (by omega), show (0 : Int32) = nI 0 from rfl, zmax (by omega) (by omega)]
    exact ⟨max 0 (min c (b - t)), by omega, rfl⟩
  · refine ⟨0, by omega, ?_⟩
    have n1 : nI b - nI t < 0 := by
      rw [Int32.lt_iff_toInt_lt, pk_sub_toInt (by omega) (by omega)]
      show _ < (0 : Int)
      omega
    have n2 : nI b - nI t < nI c := Int32.lt_of_lt_of_le n1 ((nI_leI (a := 0) (by omega) (by omega)).mpr (by omega))
    unfold imin imax
    rw [if_pos n2, if_neg (fun q => absurd (Int32.lt_trans n1 q) Int32.lt_irrefl)]
    rfl
theorem gn_ok {n m p i : Nat} {w : Row} {e : Int32} (g : Gd n m w) (hp : p < m) (hi : i < 8) : ∃ a, a ≤ 99 ∧ gnI n m w e p i = nI a := by
  obtain ⟨c, hc, ec⟩ := (g.2.2.2.1 p hp).2.1
  obtain ⟨b, t, b1, t1, _, _, q⟩ := sg_N (e := e) (nb_Gd g m (Nat.le_refl m)) hi
  unfold gnI
  rw [show hdR w p = nI c from ec, q]
  exact cl_min (by omega) (by omega) hc
theorem gn_99 {n m p i e : Nat} {w : Row} (g : Gd n m w) (hi : i < 8) : gnN n m w e p i ≤ 99 := by
  unfold gnN
  split
  · rename_i c
    have hp : p < m := of_decide_eq_true (Bool.and_eq_true_iff.mp (Bool.and_eq_true_iff.mp c).2).1
    obtain ⟨a, a9, ea⟩ := gn_ok (e := nI e) g hp hi
    rw [ea, nI_clamp (by omega)]
    exact a9
  · omega
theorem gn_up {n m p i e : Nat} {w : Row} (h : 0 < gnN n m w e p i) : upB n w i = true ∧ p < m := by
  unfold gnN at h
  by_cases c : (upB n w i && (decide (p < m) && tb (cmR w p) e)) = true
  · have ⟨a, b⟩ := Bool.and_eq_true_iff.mp c
    exact ⟨a, of_decide_eq_true (Bool.and_eq_true_iff.mp b).1⟩
  · rw [if_neg c] at h
    exact absurd h (Nat.lt_irrefl 0)
/-! sets below 256 -/
theorem bx_or : ∀ x, x < 256 → ∀ i, i < 8 → (x ||| 2 ^ i < 256) ∧ nI x ||| shl 1 (nI i) = nI (x ||| 2 ^ i) ∧ cnt (bxN (x ||| 2 ^ i)) 8 ≤ cnt (bxN x) 8 + 1 := by decide +kernel
theorem bx_t {x i k : Nat} : bxN (x ||| 2 ^ i) k = (bxN x k || decide (i = k)) := by
  unfold bxN
  rw [Nat.testBit_or, Nat.testBit_two_pow]
theorem bx_s0 {x i : Nat} (hx : x < 256) (hi : i < 8) : (shr (nI x) (nI i) &&& 1 = 0) = (bxN x i = false) := by
  rw [shr_tb0 (by omega), (bx_nI x hx).1, tb8 hi]
theorem bx_tb {x i : Nat} (hx : x < 256) (hi : i < 8) : tb (nI x) i = bxN x i := by rw [(bx_nI x hx).1, tb8 hi]
theorem bx_c {x : Nat} (hx : x < 256) (h : Hp) : f_J6_bitCount_0f7a4 (nI x) h = nI (cnt (bxN x) 8) := by rw [(bx_nI x hx).1, bcount8]
/-! maxima -/
def fm (f : Nat → Nat) (a : Nat) (n : Nat) : Nat := fldN (fun i b => max b (f i)) a n
theorem fm_s {f : Nat → Nat} {a n : Nat} : fm f a (n + 1) = max (fm f a n) (f n) := rfl
theorem fm_le {f : Nat → Nat} {a B : Nat} (ha : a ≤ B) : ∀ n, (∀ i, i < n → f i ≤ B) → fm f a n ≤ B
  | 0, _ => ha
  | n + 1, h => by
    have := fm_le (f := f) ha n (fun i hi => h i (by omega))
    have := h n (by omega)
    rw [fm_s]; omega
theorem fm_0 {f : Nat → Nat} {a : Nat} : ∀ n, a ≤ fm f a n
  | 0 => Nat.le_refl a
  | n + 1 => by
    have := fm_0 (f := f) (a := a) n
    rw [fm_s]; omega
theorem fm_i {f : Nat → Nat} {a i : Nat} : ∀ n, i < n → f i ≤ fm f a n
  | 0, h => absurd h (Nat.not_lt_zero i)
  | n + 1, h => by
    rw [fm_s]
    by_cases c : i = n
    · rw [c]; omega
    · have := fm_i (f := f) (a := a) (i := i) n (by omega)
      omega
theorem fm_at {f : Nat → Nat} {a : Nat} : ∀ n, fm f a n = a ∨ ∃ i, i < n ∧ fm f a n = f i
  | 0 => Or.inl rfl
  | n + 1 => by
    rw [fm_s]
    by_cases c : f n ≤ fm f a n
    · rw [Nat.max_eq_left c]
      rcases fm_at (f := f) (a := a) n with x | ⟨i, x, y⟩
      · exact Or.inl x
      · exact Or.inr ⟨i, by omega, y⟩
    · rw [Nat.max_eq_right (by omega)]
      exact Or.inr ⟨n, by omega, rfl⟩
/-- with k people from 6 - k on, x taken: the most that they can hold -/
def cmN (G : Nat → Nat → Nat) : Nat → Nat → Nat
  | 0, _ => 0
  | k + 1, x => fm (fun i => if 0 < G (5 - k) i ∧ bxN x i = false then G (5 - k) i + cmN G k (x ||| 2 ^ i) else 0) (cmN G k x) 8
def cfN (G : Nat → Nat → Nat) (k x i : Nat) : Nat := if 0 < G (5 - k) i ∧ bxN x i = false then G (5 - k) i + cmN G k (x ||| 2 ^ i) else 0
theorem cm_s {G : Nat → Nat → Nat} {k x : Nat} : cmN G (k + 1) x = fm (cfN G k x) (cmN G k x) 8 := rfl
theorem cm_b {G : Nat → Nat → Nat} (hG : ∀ p i, i < 8 → G p i ≤ 99) : ∀ k x, cmN G k x ≤ 99 * k
  | 0, _ => Nat.le_refl 0
  | k + 1, x => by
    rw [cm_s]
    have a := cm_b hG k x
    refine fm_le (by omega) 8 fun i hi => ?_
    have b := cm_b hG k (x ||| 2 ^ i)
    have c := hG (5 - k) i hi
    unfold cfN
    split <;> omega
theorem cm_z {G : Nat → Nat → Nat} {m : Nat} (hG : ∀ p i, 0 < G p i → p < m) : ∀ k, k + m ≤ 6 → ∀ x, cmN G k x = 0
  | 0, _, _ => rfl
  | k + 1, hk, x => by
    rw [cm_s]
    have : fm (cfN G k x) (cmN G k x) 8 ≤ 0 := fm_le (by rw [cm_z hG k (by omega)]; omega) 8 fun i _ => by
      unfold cfN
      rw [if_neg (fun q => by
        have := hG _ _ q.1
        omega)]
      omega
    omega
theorem cm_a {G : Nat → Nat → Nat} : ∀ k x y, (∀ i, i < 8 → bxN x i = true → bxN y i = true) → cmN G k y ≤ cmN G k x
  | 0, _, _, _ => Nat.le_refl 0
  | k + 1, x, y, s => by
    rw [cm_s, cm_s]
    refine fm_le (Nat.le_trans (cm_a k x y s) (fm_0 8)) 8 fun i hi => ?_
    by_cases c : 0 < G (5 - k) i ∧ bxN y i = false
    · have xi : bxN x i = false := by
        cases d : bxN x i
        · rfl
        · rw [s i hi d] at c; exact Bool.noConfusion c.2
      have a := cm_a (G := G) k (x ||| 2 ^ i) (y ||| 2 ^ i) (fun j hj q => by
        rw [bx_t] at q ⊢
        rcases Bool.or_eq_true_iff.mp q with q | q
        · rw [s j hj q]; rfl
        · rw [q, Bool.or_true])
      have b := fm_i (f := cfN G k x) (a := cmN G k x) 8 hi
      have e1 : cfN G k y i = G (5 - k) i + cmN G k (y ||| 2 ^ i) := if_pos c
      have e2 : cfN G k x i = G (5 - k) i + cmN G k (x ||| 2 ^ i) := if_pos ⟨c.1, xi⟩
      omega
    · have e1 : cfN G k y i = 0 := if_neg c
      omega
theorem cm_o {G : Nat → Nat → Nat} {k x i : Nat} : cmN G k (x ||| 2 ^ i) ≤ cmN G k x := cm_a k x _ fun j _ q => by rw [bx_t, q]; rfl
/-- the first place -/
def lsF (p : Nat → Bool) : Nat → Nat → Nat
  | 0, i => i
  | k + 1, i => if p i then i else lsF p k (i + 1)
def fqB (G : Nat → Nat → Nat) (k x : Nat) (i : Nat) : Bool := (decide (0 < G (5 - k) i) && !bxN x i) && decide (G (5 - k) i + cmN G k (x ||| 2 ^ i) = cmN G (k + 1) x)
