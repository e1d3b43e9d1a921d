/-! LAYER 4. One lemma for every loop of the generated functions -/
theorem loopR {T R : Type} (S : T → T) (z : T) (ev : Nat → T → R) (N : Nat) (res : R) (hstep : ∀ j, j < N → ∀ q : T, ev j (S q) = ev (j + 1) q) (hend : ∀ q : T, ev N (S q) = res) :
    ∀ (m n j : Nat), j + m = N → m < n → ev j (Nat.rec (motive := fun _ => T) z (fun _ q => S q) n) = res := by
  intro m
  induction m with
  | zero =>
    intro n j hj hn
    obtain ⟨n', rfl⟩ : ∃ n', n = n' + 1 := ⟨n - 1, by omega⟩
    have e : j = N := by omega
    subst e
    exact hend _
  | succ m ih =>
    intro n j hj hn
    obtain ⟨n', rfl⟩ : ∃ n', n = n' + 1 := ⟨n - 1, by omega⟩
    show ev j (S (Nat.rec (motive := fun _ => T) z (fun _ q => S q) n')) = res
    rw [hstep j (by omega)]
    exact ih n' (j + 1) (by omega) (by omega)
theorem loop0 {T R : Type} (S : T → T) (z : T) (ev : Nat → T → R) (N : Nat) (res : R) (hN : N < 1000000) (hstep : ∀ j, j < N → ∀ q : T, ev j (S q) = ev (j + 1) q) (hend : ∀ q : T, ev N (S q) = res) :
    ev 0 (Nat.rec (motive := fun _ => T) z (fun _ q => S q) FU) = res :=
  loopR S z ev N res hstep hend N FU 0 (Nat.zero_add N) (by show N < 4000000; omega)
theorem gdT {α : Type} {c : Prop} [Decidable c] {b : Option α} (h : c) : gd c b = b := if_pos h
theorem bnd_eq {α β : Type} (e : α) (f : α → β) : bnd e f = f e := rfl
theorem nI_ix {j n : Nat} (h : j < n) (hn : n < 2 ^ 31) : ix (nI j) n := ⟨nI_pos (by omega), by rw [nI_clamp (by omega)]; exact h⟩
theorem nI_lt_lit {j n : Nat} (hj : j < 2 ^ 31) (hn : n < 2 ^ 31) : (nI j < nI n) ↔ j < n := nI_ltI hj hn
theorem itP {α : Type} {j n : Nat} {c : Int32} {a b : α} (e : c = nI n) (h : j < n) (hn : n < 2 ^ 31) : (if nI j < c then a else b) = a := by
  rw [e]; exact if_pos ((nI_ltI (by omega) hn).mpr h)
theorem itN {α : Type} {n : Nat} {c : Int32} {a b : α} (e : c = nI n) (hn : n < 2 ^ 31) : (if nI n < c then a else b) = b := by
  rw [e]; exact if_neg (fun q => absurd ((nI_ltI hn hn).mp q) (Nat.lt_irrefl n))
theorem li3 : (3 : Int32) = nI 3 := by decide
theorem li4 : (4 : Int32) = nI 4 := by decide
theorem li5 : (5 : Int32) = nI 5 := by decide
theorem li6 : (6 : Int32) = nI 6 := by decide
theorem li7 : (7 : Int32) = nI 7 := by decide
theorem li8 : (8 : Int32) = nI 8 := by decide
theorem li9 : (9 : Int32) = nI 9 := by decide
theorem li10 : (10 : Int32) = nI 10 := by decide
theorem li12 : (12 : Int32) = nI 12 := by decide
theorem li20 : (20 : Int32) = nI 20 := by decide
theorem li60 : (60 : Int32) = nI 60 := by decide
theorem li64 : (64 : Int32) = nI 64 := by decide
theorem li65 : (65 : Int32) = nI 65 := by decide
theorem li70 : (70 : Int32) = nI 70 := by decide
theorem li360 : (360 : Int32) = nI 360 := by decide
theorem li400 : (400 : Int32) = nI 400 := by decide
theorem obS {α β : Type} {a : α} {f : α → Option β} : Option.bind (some a) f = f a := rfl
theorem up1_same {h : Hp} {k i : Nat} {v : Int32} : up1 h k i v k i = v := by
  unfold up1 upA upd; rw [if_pos rfl, if_pos rfl]
theorem up1_ob {h : Hp} {k k' i : Nat} {v : Int32} (e : k' ≠ k) : up1 h k i v k' = h k' := by
  unfold up1 upA; rw [if_neg e]
theorem up1_at {h : Hp} {k i : Nat} {v : Int32} : up1 h k i v k = upd (h k) i v := by
  unfold up1 upA; rw [if_pos rfl]
/-! the model's small readers -/
theorem m_at (h : Hp) (x y : Int32) : f_X12_at x y h = 74 + 5 * x + y := rfl
theorem m_partAt (h : Hp) (x y : Int32) : f_X12_partAt x y h = 10 + 8 * x + y := rfl
theorem m_personAt (h : Hp) (x y : Int32) : f_X12_personAt x y h = 114 + 3 * x + y := rfl
theorem m_houses (h : Hp) : f_X12_houses h = h 31 0 := rfl
theorem m_people (h : Hp) : f_X12_people h = h 31 1 := rfl
theorem m_of {h : Hp} {i w : Nat} (hi : i < 8) (hw : w < 5) : f_X12_of (nI i) (nI w) h = some (h 31 (74 + 5 * i + w)) := by
  have e : f_X12_at (nI i) (nI w) h = nI (74 + 5 * i + w) := by
    rw [m_at, show (74 : Int32) = nI 74 from by decide, show (5 : Int32) = nI 5 from by decide, pk_mul, nI_add, nI_add]
  unfold f_X12_of
  rw [e]
  have hx : ix (nI (74 + 5 * i + w)) 2190 := nI_ix (by omega) (by omega)
  first
    | (rw [gdT hx, nI_clamp (by omega)])
    | (simp only [gdT hx, nI_clamp (show 74 + 5 * i + w < 2 ^ 31 by omega)])
theorem m_of0 {h : Hp} {i : Nat} (hi : i < 8) : f_X12_of (nI i) 0 h = some (h 31 (74 + 5 * i)) := m_of (w := 0) hi (by omega)
theorem m_of1 {h : Hp} {i : Nat} (hi : i < 8) : f_X12_of (nI i) 1 h = some (h 31 (74 + 5 * i + 1)) := m_of (w := 1) hi (by omega)
theorem m_of2 {h : Hp} {i : Nat} (hi : i < 8) : f_X12_of (nI i) 2 h = some (h 31 (74 + 5 * i + 2)) := m_of (w := 2) hi (by omega)
theorem m_of3 {h : Hp} {i : Nat} (hi : i < 8) : f_X12_of (nI i) 3 h = some (h 31 (74 + 5 * i + 3)) := m_of (w := 3) hi (by omega)
theorem m_of4 {h : Hp} {i : Nat} (hi : i < 8) : f_X12_of (nI i) 4 h = some (h 31 (74 + 5 * i + 4)) := m_of (w := 4) hi (by omega)
def orTo (p : Nat → Bool) : Nat → Int32
  | 0 => 0
  | j + 1 => orTo p j ||| (if p j then shl 1 (nI j) else 0)
theorem orTo_succ (p : Nat → Bool) (j : Nat) : orTo p (j + 1) = orTo p j ||| (if p j then shl 1 (nI j) else 0) := rfl
theorem m_isFallen {h : Hp} {i : Nat} (hi : i < 8) : f_X12_isFallen (nI i) h = some (decide (h 31 (74 + 5 * i + 4) = 1)) := by
  unfold f_X12_isFallen
  rw [show (4 : Int32) = nI 4 from by decide, m_of hi (by omega)]
  show (if h 31 (74 + 5 * i + 4) = 1 then some true else some false) = _
  by_cases c : h 31 (74 + 5 * i + 4) = 1
  · rw [if_pos c, decide_eq_true c]
  · rw [if_neg c, decide_eq_false c]
theorem m_standing {h : Hp} {n : Nat} (hn : h 31 0 = nI n) (h8 : n ≤ 8) : f_X12_standing h = some (orTo (fun i => !decide (h 31 (74 + 5 * i + 4) = 1)) n) := by
  have H := loop0 (S_X12_standing_4 h) (fun _ _ => none) (fun j q => q (orTo (fun i => !decide (h 31 (74 + 5 * i + 4) = 1)) j) (nI j)) n (some (orTo (fun i => !decide (h 31 (74 + 5 * i + 4) = 1)) n)) (by omega) (fun j hj q => ?_) (fun q => ?_)
  · exact H
  · show S_X12_standing_4 h q _ _ = _
    unfold S_X12_standing_4
    rw [m_houses, hn, if_pos ((nI_ltI (by omega) (by omega)).mpr hj), m_isFallen (by omega)]
    show (if decide (h 31 (74 + 5 * j + 4) = 1) = true then _ else _) = _
    rw [orTo_succ]
    unfold F_X12_standing_28
    simp only [bnd_eq, nI_1]
    generalize decide (h 31 (74 + 5 * j + 4) = 1) = d
    cases d <;> rfl
  · show S_X12_standing_4 h q _ _ = _
    unfold S_X12_standing_4
    rw [m_houses, hn, if_neg (fun q => absurd ((nI_ltI (by omega) (by omega)).mp q) (Nat.lt_irrefl n))]
/-! what the rows of a heap do under one write -/
theorem upA_at {h : Hp} {k : Nat} {f : Nat → Int32} : upA h k f k = f := if_pos rfl
theorem upA_ob {h : Hp} {k k' : Nat} {f : Nat → Int32} (e : k' ≠ k) : upA h k f k' = h k' := if_neg e
theorem upA_self {h : Hp} {k : Nat} : upA h k (h k) = h := by
  funext k'
  by_cases c : k' = k
  · rw [c]; exact upA_at
  · exact upA_ob c
theorem upA_upA {h : Hp} {k : Nat} {f g : Nat → Int32} : upA (upA h k f) k g = upA h k g := by
  funext k'
  by_cases c : k' = k
  · rw [c, upA_at, upA_at]
  · rw [upA_ob c, upA_ob c, upA_ob c]
theorem upA_comm {h : Hp} {k l : Nat} {f g : Nat → Int32} (e : k ≠ l) : upA (upA h k f) l g = upA (upA h l g) k f := by
  funext k'
  by_cases c : k' = k
  · rw [c, upA_at, upA_ob e, upA_at]
  · by_cases d : k' = l
    · rw [d, upA_at, upA_ob (fun q => e q.symm), upA_at]
    · rw [upA_ob c, upA_ob d, upA_ob c, upA_ob d]
theorem up1_upA {h : Hp} {k i : Nat} {f : Nat → Int32} {v : Int32} : up1 (upA h k f) k i v = upA h k (upd f i v) := by
  unfold up1; rw [upA_at, upA_upA]
theorem upd_ite (A B : Nat → Int32) (j : Nat) : upd (fun o => if o < j then A o else B o) j (A j) = fun o => if o < j + 1 then A o else B o := by
  funext o
  unfold upd
  by_cases c : o = j
  · rw [if_pos c, c, if_pos (Nat.lt_succ_self j)]
  · rw [if_neg c]
    show (if o < j then A o else B o) = _
    by_cases d : o < j
    · rw [if_pos d, if_pos (by omega)]
    · rw [if_neg d, if_neg (by omega)]
theorem ite_0 (A B : Nat → Int32) : (fun o => if o < 0 then A o else B o) = B := by
  funext o; exact if_neg (Nat.not_lt_zero o)
/-! sums -/
def sumTo (f : Nat → Int32) : Nat → Int32
  | 0 => 0
  | j + 1 => sumTo f j + f j
theorem m_partOf {h : Hp} {i o : Nat} (hi : i < 8) (ho : o < 8) : f_X12_partOf (nI i) (nI o) h = some (h 31 (10 + 8 * i + o)) := by
  have e : f_X12_partAt (nI i) (nI o) h = nI (10 + 8 * i + o) := by
    rw [m_partAt, show (10 : Int32) = nI 10 from by decide, show (8 : Int32) = nI 8 from by decide, pk_mul, nI_add, nI_add]
  unfold f_X12_partOf
  rw [e]
  have hx : ix (nI (10 + 8 * i + o)) 2190 := nI_ix (by omega) (by omega)
  first
    | (rw [gdT hx, nI_clamp (by omega)])
    | (simp only [gdT hx, nI_clamp (show 10 + 8 * i + o < 2 ^ 31 by omega)])
theorem m_partsOf {h : Hp} {n i : Nat} (hn : h 31 0 = nI n) (h8 : n ≤ 8) (hi : i < 8) : f_X12_partsOf (nI i) h = some (sumTo (fun o => h 31 (10 + 8 * i + o)) n) := by
  have H := loop0 (S_X12_partsOf_4 h (nI i)) (fun _ _ => none) (fun j q => q (sumTo (fun o => h 31 (10 + 8 * i + o)) j) (nI j)) n (some (sumTo (fun o => h 31 (10 + 8 * i + o)) n)) (by omega) (fun j hj q => ?_) (fun q => ?_)
  · exact H
  · show S_X12_partsOf_4 h (nI i) q _ _ = _
    unfold S_X12_partsOf_4
    rw [m_houses, hn, if_pos ((nI_ltI (by omega) (by omega)).mpr hj), m_partOf hi (by omega)]
    show q _ (nI j + 1) = _
    rw [nI_1]; rfl
  · show S_X12_partsOf_4 h (nI i) q _ _ = _
    unfold S_X12_partsOf_4
    rw [m_houses, hn, if_neg (fun q => absurd ((nI_ltI (by omega) (by omega)).mp q) (Nat.lt_irrefl n))]
/-! what presses: one house gives, a round, all rounds -/
def givS (n : Nat) (half s : Int32) (p nx : Nat → Int32) : Nat → Int32 := fun o => if o < n then nx o + half * p o / s else nx o
def givesS (n : Nat) (wt : Nat → Int32) (pt : Nat → Nat → Int32) (pr : Nat → Int32) (i : Nat) (nx : Nat → Int32) : Nat → Int32 :=
  if 0 < sumTo (pt i) n then givS n ((wt i + pr i) / 2) (sumTo (pt i) n) (pt i) nx else nx
theorem m_givesOn {h : Hp} {n i : Nat} (hn : h 31 0 = nI n) (h8 : n ≤ 8) (hi : i < 8) :
    f_X12_givesOn (nI i) h = some (upA h 37 (givesS n (fun i => h 31 (74 + 5 * i)) (fun i o => h 31 (10 + 8 * i + o)) (h 36) i (h 37))) := by
  unfold f_X12_givesOn
  rw [m_partsOf hn h8 hi, obS, m_of0 hi, obS, gdT (nI_ix hi (by omega)), nI_clamp (by omega), bnd_eq]
  show F_X12_givesOn_25 (nI i) (sumTo (fun o => h 31 (10 + 8 * i + o)) n) ((h 31 (74 + 5 * i) + h 36 i) / 2) FU 0 h = _
  generalize hs : sumTo (fun o => h 31 (10 + 8 * i + o)) n = s
  generalize hf : (h 31 (74 + 5 * i) + h 36 i) / 2 = half
  have hgv : givesS n (fun i => h 31 (74 + 5 * i)) (fun i o => h 31 (10 + 8 * i + o)) (h 36) i (h 37) = if 0 < s then givS n half s (fun o => h 31 (10 + 8 * i + o)) (h 37) else h 37 := by
    unfold givesS
    rw [← hs, ← hf]
  rw [hgv]
  by_cases c : 0 < s
  · rw [if_pos c]
    have hs0 : ¬ s = 0 := by
      intro e; rw [e] at c; exact absurd c (by decide)
    have H := loop0 (S_X12_givesOn_25 (nI i) s half) (fun _ _ => none) (fun j q => q (nI j) (upA h 37 (fun o => if o < j then h 37 o + half * h 31 (10 + 8 * i + o) / s else h 37 o))) n (some (upA h 37 (givS n half s (fun o => h 31 (10 + 8 * i + o)) (h 37)))) (by omega) (fun j hj q => ?_) (fun q => ?_)
    · rw [ite_0, upA_self] at H
      exact H
    · show S_X12_givesOn_25 (nI i) s half q _ _ = _
      unfold S_X12_givesOn_25
      rw [m_houses, upA_ob (by decide), hn, if_pos ((nI_ltI (by omega) (by omega)).mpr hj), if_pos c, gdT (nI_ix (by omega) (by omega)), m_partOf hi (by omega), upA_ob (by decide)]
      show gd (¬ s = 0) _ = _
      rw [gdT hs0, gdT (nI_ix (by omega) (by omega)), bnd_eq, nI_clamp (by omega), up1_upA, upA_at, nI_1, ← upd_ite (fun o => h 37 o + half * h 31 (10 + 8 * i + o) / s) (h 37) j]
      show q _ (upA h 37 (upd _ j ((if j < j then _ else _) + _))) = _
      rw [if_neg (Nat.lt_irrefl j)]
    · show S_X12_givesOn_25 (nI i) s half q _ _ = _
      unfold S_X12_givesOn_25
      rw [m_houses, upA_ob (by decide), hn, if_neg (fun q => absurd ((nI_ltI (by omega) (by omega)).mp q) (Nat.lt_irrefl n))]
      rfl
  · rw [if_neg c, upA_self]
    have H := loop0 (S_X12_givesOn_25 (nI i) s half) (fun _ _ => none) (fun _ q => q 0 h) 0 (some h) (by omega) (fun j hj q => absurd hj (Nat.not_lt_zero j)) (fun q => ?_)
    · exact H
    · show S_X12_givesOn_25 (nI i) s half q _ _ = _
      unfold S_X12_givesOn_25
      rw [if_neg c]
      split <;> rfl
def givesAll (n : Nat) (wt : Nat → Int32) (pt : Nat → Nat → Int32) (pr : Nat → Int32) (nx : Nat → Int32) : Nat → Nat → Int32
  | 0 => nx
  | i + 1 => givesS n wt pt pr i (givesAll n wt pt pr nx i)
/-- one round: (press, next) behind it -/
def roundS (n : Nat) (wt : Nat → Int32) (pt : Nat → Nat → Int32) (s : (Nat → Int32) × (Nat → Int32)) : (Nat → Int32) × (Nat → Int32) :=
  (fun o => if o < 8 then givesAll n wt pt s.1 (fun o => if o < 8 then 0 else s.2 o) n o else s.1 o, givesAll n wt pt s.1 (fun o => if o < 8 then 0 else s.2 o) n)
def roundsS (n : Nat) (wt : Nat → Int32) (pt : Nat → Nat → Int32) (s : (Nat → Int32) × (Nat → Int32)) : Nat → (Nat → Int32) × (Nat → Int32)
  | 0 => s
  | k + 1 => roundS n wt pt (roundsS n wt pt s k)
/-- a heap with other rows press and next -/
def WP (h : Hp) (p q : Nat → Int32) : Hp := upA (upA h 36 p) 37 q
theorem WP_36 {h : Hp} {p q : Nat → Int32} : WP h p q 36 = p := by unfold WP; rw [upA_ob (by decide), upA_at]
theorem WP_37 {h : Hp} {p q : Nat → Int32} : WP h p q 37 = q := by unfold WP; rw [upA_at]
theorem WP_31 {h : Hp} {p q : Nat → Int32} : WP h p q 31 = h 31 := by unfold WP; rw [upA_ob (by decide), upA_ob (by decide)]
theorem WP_ob {h : Hp} {p q : Nat → Int32} {k : Nat} (e : k ≠ 36) (f : k ≠ 37) : WP h p q k = h k := by unfold WP; rw [upA_ob f, upA_ob e]
theorem WP_u36 {h : Hp} {p q r : Nat → Int32} : upA (WP h p q) 36 r = WP h r q := by unfold WP; rw [upA_comm (by decide), upA_upA]
theorem WP_u37 {h : Hp} {p q r : Nat → Int32} : upA (WP h p q) 37 r = WP h p r := by unfold WP; rw [upA_upA]
theorem WP_self {h : Hp} : WP h (h 36) (h 37) = h := by unfold WP; rw [upA_self, upA_self]
theorem WP_1 {h : Hp} {p q : Nat → Int32} {i : Nat} {v : Int32} : up1 (WP h p q) 36 i v = WP h (upd p i v) q := by unfold up1; rw [WP_36, WP_u36]
theorem WP_2 {h : Hp} {p q : Nat → Int32} {i : Nat} {v : Int32} : up1 (WP h p q) 37 i v = WP h p (upd q i v) := by unfold up1; rw [WP_37, WP_u37]
theorem m_lays73 {h : Hp} {q23 : Int32 → Hp → Option Hp} {x : Int32} {p q : Nat → Int32} :
    F_X12_lays_73 q23 x FU 0 (WP h p q) = q23 (x + 1) (WP h (fun o => if o < 8 then q o else p o) q) := by
  have H := loop0 (S_X12_lays_73 q23 x) (fun _ _ => none) (fun j s => s (nI j) (WP h (fun o => if o < j then q o else p o) q)) 8 (q23 (x + 1) (WP h (fun o => if o < 8 then q o else p o) q)) (by omega) (fun j hj s => ?_) (fun s => ?_)
  · rw [ite_0] at H
    exact H
  · show S_X12_lays_73 q23 x s _ _ = _
    unfold S_X12_lays_73
    rw [itP li8 hj (by omega), gdT (nI_ix (by omega) (by omega)), gdT (nI_ix (by omega) (by omega)), bnd_eq, nI_clamp (by omega), WP_1, WP_37, nI_1, ← upd_ite q p j]
  · show S_X12_lays_73 q23 x s _ _ = _
    unfold S_X12_lays_73
    rw [itN li8 (by omega)]
theorem m_lays52 {h : Hp} {q23 : Int32 → Hp → Option Hp} {x : Int32} {p q : Nat → Int32} {n : Nat} (hn : h 31 0 = nI n) (h8 : n ≤ 8) :
    F_X12_lays_52 q23 x FU 0 (WP h p q) = F_X12_lays_73 q23 x FU 0 (WP h p (givesAll n (fun i => h 31 (74 + 5 * i)) (fun i o => h 31 (10 + 8 * i + o)) p q n)) := by
  have H := loop0 (S_X12_lays_52 q23 x) (fun _ _ => none) (fun j s => s (nI j) (WP h p (givesAll n (fun i => h 31 (74 + 5 * i)) (fun i o => h 31 (10 + 8 * i + o)) p q j))) n (F_X12_lays_73 q23 x FU 0 (WP h p (givesAll n (fun i => h 31 (74 + 5 * i)) (fun i o => h 31 (10 + 8 * i + o)) p q n))) (by omega) (fun j hj s => ?_) (fun s => ?_)
  · exact H
  · show S_X12_lays_52 q23 x s _ _ = _
    unfold S_X12_lays_52
    rw [m_houses, WP_31, hn, if_pos ((nI_ltI (by omega) (by omega)).mpr hj), m_givesOn (by rw [WP_31]; exact hn) h8 (by omega), obS, WP_31, WP_36, WP_37, WP_u37, nI_1]
    rfl
  · show S_X12_lays_52 q23 x s _ _ = _
    unfold S_X12_lays_52
    rw [m_houses, WP_31, hn, if_neg (fun c => absurd ((nI_ltI (by omega) (by omega)).mp c) (Nat.lt_irrefl n))]
theorem m_lays31 {h : Hp} {q23 : Int32 → Hp → Option Hp} {x : Int32} {p q : Nat → Int32} {n : Nat} (hn : h 31 0 = nI n) (h8 : n ≤ 8) :
    F_X12_lays_31 q23 x FU 0 (WP h p q) = q23 (x + 1) (WP h (roundS n (fun i => h 31 (74 + 5 * i)) (fun i o => h 31 (10 + 8 * i + o)) (p, q)).1 (roundS n (fun i => h 31 (74 + 5 * i)) (fun i o => h 31 (10 + 8 * i + o)) (p, q)).2) := by
  have H := loop0 (S_X12_lays_31 q23 x) (fun _ _ => none) (fun j s => s (nI j) (WP h p (fun o => if o < j then 0 else q o))) 8 (q23 (x + 1) (WP h (roundS n (fun i => h 31 (74 + 5 * i)) (fun i o => h 31 (10 + 8 * i + o)) (p, q)).1 (roundS n (fun i => h 31 (74 + 5 * i)) (fun i o => h 31 (10 + 8 * i + o)) (p, q)).2)) (by omega) (fun j hj s => ?_) (fun s => ?_)
  · rw [ite_0] at H
    exact H
  · show S_X12_lays_31 q23 x s _ _ = _
    unfold S_X12_lays_31
    rw [itP li8 hj (by omega), gdT (nI_ix (by omega) (by omega)), bnd_eq, nI_clamp (by omega), WP_2, nI_1, ← upd_ite (fun _ => 0) q j]
  · show S_X12_lays_31 q23 x s _ _ = _
    unfold S_X12_lays_31
    rw [itN li8 (by omega), m_lays52 hn h8, m_lays73]
    rfl
theorem m_lays {h : Hp} {n : Nat} (hn : h 31 0 = nI n) (h8 : n ≤ 8) :
    f_X12_lays h = some (WP h (roundsS n (fun i => h 31 (74 + 5 * i)) (fun i o => h 31 (10 + 8 * i + o)) (fun o => if o < 8 then 0 else h 36 o, h 37) 12).1 (roundsS n (fun i => h 31 (74 + 5 * i)) (fun i o => h 31 (10 + 8 * i + o)) (fun o => if o < 8 then 0 else h 36 o, h 37) 12).2) := by
  have K : F_X12_lays_23 FU 0 (WP h (fun o => if o < 8 then 0 else h 36 o) (h 37)) = some (WP h (roundsS n (fun i => h 31 (74 + 5 * i)) (fun i o => h 31 (10 + 8 * i + o)) (fun o => if o < 8 then 0 else h 36 o, h 37) 12).1 (roundsS n (fun i => h 31 (74 + 5 * i)) (fun i o => h 31 (10 + 8 * i + o)) (fun o => if o < 8 then 0 else h 36 o, h 37) 12).2) := by
    have H := loop0 S_X12_lays_23 (fun _ _ => none) (fun j s => s (nI j) (WP h (roundsS n (fun i => h 31 (74 + 5 * i)) (fun i o => h 31 (10 + 8 * i + o)) (fun o => if o < 8 then 0 else h 36 o, h 37) j).1 (roundsS n (fun i => h 31 (74 + 5 * i)) (fun i o => h 31 (10 + 8 * i + o)) (fun o => if o < 8 then 0 else h 36 o, h 37) j).2)) 12 (some (WP h (roundsS n (fun i => h 31 (74 + 5 * i)) (fun i o => h 31 (10 + 8 * i + o)) (fun o => if o < 8 then 0 else h 36 o, h 37) 12).1 (roundsS n (fun i => h 31 (74 + 5 * i)) (fun i o => h 31 (10 + 8 * i + o)) (fun o => if o < 8 then 0 else h 36 o, h 37) 12).2)) (by omega) (fun j hj s => ?_) (fun s => ?_)
    · exact H
    · show S_X12_lays_23 s _ _ = _
      unfold S_X12_lays_23
      rw [itP li12 hj (by omega), m_lays31 hn h8, nI_1]
      rfl
    · show S_X12_lays_23 s _ _ = _
      unfold S_X12_lays_23
      rw [itN li12 (by omega)]
  rw [← K]
  have H := loop0 S_X12_lays_2 (fun _ _ => none) (fun j s => s (nI j) (WP h (fun o => if o < j then 0 else h 36 o) (h 37))) 8 (F_X12_lays_23 FU 0 (WP h (fun o => if o < 8 then 0 else h 36 o) (h 37))) (by omega) (fun j hj s => ?_) (fun s => ?_)
  · rw [ite_0, WP_self] at H
    exact H
  · show S_X12_lays_2 s _ _ = _
    unfold S_X12_lays_2
    rw [itP li8 hj (by omega), gdT (nI_ix (by omega) (by omega)), bnd_eq, nI_clamp (by omega), WP_1, nI_1, ← upd_ite (fun _ => 0) (h 36) j]
  · show S_X12_lays_2 s _ _ = _
    unfold S_X12_lays_2
    rw [itN li8 (by omega)]
/-! people -/
theorem m_ofPerson {h : Hp} {p w : Nat} (hp : p < 6) (hw : w < 3) : f_X12_ofPerson (nI p) (nI w) h = some (h 31 (114 + 3 * p + w)) := by
  have e : f_X12_personAt (nI p) (nI w) h = nI (114 + 3 * p + w) := by
    rw [m_personAt, show (114 : Int32) = nI 114 from by decide, show (3 : Int32) = nI 3 from by decide, pk_mul, nI_add, nI_add]
  unfold f_X12_ofPerson
  rw [e]
  have hx : ix (nI (114 + 3 * p + w)) 2190 := nI_ix (by omega) (by omega)
  first
    | (rw [gdT hx, nI_clamp (by omega)])
    | (simp only [gdT hx, nI_clamp (show 114 + 3 * p + w < 2 ^ 31 by omega)])
theorem m_ofPerson0 {h : Hp} {p : Nat} (hp : p < 6) : f_X12_ofPerson (nI p) 0 h = some (h 31 (114 + 3 * p)) := m_ofPerson (w := 0) hp (by omega)
theorem m_ofPerson1 {h : Hp} {p : Nat} (hp : p < 6) : f_X12_ofPerson (nI p) 1 h = some (h 31 (114 + 3 * p + 1)) := m_ofPerson (w := 1) hp (by omega)
theorem m_ofPerson2 {h : Hp} {p : Nat} (hp : p < 6) : f_X12_ofPerson (nI p) 2 h = some (h 31 (114 + 3 * p + 2)) := m_ofPerson (w := 2) hp (by omega)
def hasB (x y : Int32) : Bool := decide (shr x y &&& 1 = 1)
theorem m_has {x y : Int32} {h : Hp} : f_X12_has x y h = hasB x y := by
  unfold f_X12_has hasB
  by_cases c : shr x y &&& 1 = 1
  · rw [if_pos c, decide_eq_true c]
  · rw [if_neg c, decide_eq_false c]
def thereB (a c e x : Int32) : Bool := decide (a = x) && hasB c e
theorem m_isThere {h : Hp} {p : Nat} {x : Int32} (hp : p < 6) : f_X12_isThere (nI p) x h = some (thereB (h 31 (114 + 3 * p)) (h 31 (114 + 3 * p + 2)) (h 30 20) x) := by
  unfold f_X12_isThere
  rw [m_ofPerson0 hp, obS, m_ofPerson2 hp, obS, m_has]
  unfold thereB
  by_cases c : h 31 (114 + 3 * p) = x
  · rw [if_pos c, decide_eq_true c]
    cases hasB (h 31 (114 + 3 * p + 2)) (h 30 20) <;> rfl
  · rw [if_neg c, decide_eq_false c]; rfl
def anyTo (p : Nat → Bool) : Nat → Bool
  | 0 => false
  | j + 1 => anyTo p j || p j
def bI (b : Bool) : Int32 := if b then 1 else 0
theorem toB_bI {b : Bool} : toB (bI b) = some b := by cases b <;> rfl
theorem m_holdOf {h : Hp} {m : Nat} {x : Int32} (hm : h 31 1 = nI m) (h6 : m ≤ 6) :
    f_X12_holdOf x h = some (sumTo (fun p => if thereB (h 31 (114 + 3 * p)) (h 31 (114 + 3 * p + 2)) (h 30 20) x then h 31 (114 + 3 * p + 1) else 0) m) := by
  have H := loop0 (S_X12_holdOf_4 h x) (fun _ _ => none) (fun j q => q (sumTo (fun p => if thereB (h 31 (114 + 3 * p)) (h 31 (114 + 3 * p + 2)) (h 30 20) x then h 31 (114 + 3 * p + 1) else 0) j) (nI j)) m (some (sumTo (fun p => if thereB (h 31 (114 + 3 * p)) (h 31 (114 + 3 * p + 2)) (h 30 20) x then h 31 (114 + 3 * p + 1) else 0) m)) (by omega) (fun j hj q => ?_) (fun q => ?_)
  · exact H
  · show S_X12_holdOf_4 h x q _ _ = _
    unfold S_X12_holdOf_4
    rw [m_people, itP hm hj (by omega), m_isThere (by omega), obS, m_ofPerson1 (by omega), obS]
    unfold F_X12_holdOf_32
    rw [nI_1]
    show _ = q (sumTo _ j + (if _ then _ else _)) _
    cases thereB (h 31 (114 + 3 * j)) (h 31 (114 + 3 * j + 2)) (h 30 20) x <;> rfl
  · show S_X12_holdOf_4 h x q _ _ = _
    unfold S_X12_holdOf_4
    rw [m_people, itN hm (by omega)]
theorem m_isHeld {h : Hp} {m : Nat} {x : Int32} (hm : h 31 1 = nI m) (h6 : m ≤ 6) :
    f_X12_isHeld x h = some (anyTo (fun p => thereB (h 31 (114 + 3 * p)) (h 31 (114 + 3 * p + 2)) (h 30 20) x) m) := by
  have H := loop0 (S_X12_isHeld_4 h x) (fun _ _ => none) (fun j q => q (bI (anyTo (fun p => thereB (h 31 (114 + 3 * p)) (h 31 (114 + 3 * p + 2)) (h 30 20) x) j)) (nI j)) m (some (anyTo (fun p => thereB (h 31 (114 + 3 * p)) (h 31 (114 + 3 * p + 2)) (h 30 20) x) m)) (by omega) (fun j hj q => ?_) (fun q => ?_)
  · exact H
  · show S_X12_isHeld_4 h x q _ _ = _
    unfold S_X12_isHeld_4
    rw [m_people, itP hm hj (by omega), m_isThere (by omega), obS, nI_1]
    show _ = q (bI (anyTo _ j || thereB (h 31 (114 + 3 * j)) (h 31 (114 + 3 * j + 2)) (h 30 20) x)) _
    cases anyTo (fun p => thereB (h 31 (114 + 3 * p)) (h 31 (114 + 3 * p + 2)) (h 30 20) x) j <;> cases thereB (h 31 (114 + 3 * j)) (h 31 (114 + 3 * j + 2)) (h 30 20) x <;> rfl
  · show S_X12_isHeld_4 h x q _ _ = _
    unfold S_X12_isHeld_4
    rw [m_people, itN hm (by omega), toB_bI]; rfl
theorem m_isLeant {h : Hp} {n i : Nat} (hn : h 31 0 = nI n) (h8 : n ≤ 8) (hi : i < 8) :
    f_X12_isLeant (nI i) h = some (anyTo (fun o => decide (0 < h 31 (10 + 8 * o + i))) n) := by
  have H := loop0 (S_X12_isLeant_4 h (nI i)) (fun _ _ => none) (fun j q => q (bI (anyTo (fun o => decide (0 < h 31 (10 + 8 * o + i))) j)) (nI j)) n (some (anyTo (fun o => decide (0 < h 31 (10 + 8 * o + i))) n)) (by omega) (fun j hj q => ?_) (fun q => ?_)
  · exact H
  · show S_X12_isLeant_4 h (nI i) q _ _ = _
    unfold S_X12_isLeant_4
    rw [m_houses, itP hn hj (by omega), m_partOf (by omega) hi, obS, nI_1]
    show _ = q (bI (anyTo _ j || decide _)) _
    by_cases c : 0 < h 31 (10 + 8 * j + i)
    · rw [if_pos c, decide_eq_true c]
      cases anyTo (fun o => decide (0 < h 31 (10 + 8 * o + i))) j <;> rfl
    · rw [if_neg c, decide_eq_false c]
      cases anyTo (fun o => decide (0 < h 31 (10 + 8 * o + i))) j <;> rfl
  · show S_X12_isLeant_4 h (nI i) q _ _ = _
    unfold S_X12_isLeant_4
    rw [m_houses, itN hn (by omega), toB_bI]; rfl
/-! the facts of a house -/
def factM (h : Hp) (n m i : Nat) : Nat → Int32
  | 0 => nI i
  | 1 => h 31 (74 + 5 * i)
  | 2 => h 31 (74 + 5 * i + 2)
  | 3 => h 31 (74 + 5 * i + 3)
  | 4 => h 30 20
  | 5 => h 36 i
  | 6 => bI (decide (0 < sumTo (fun o => h 31 (10 + 8 * i + o)) n))
  | 7 => bI (anyTo (fun o => decide (0 < h 31 (10 + 8 * o + i))) n)
  | 8 => bI (anyTo (fun p => thereB (h 31 (114 + 3 * p)) (h 31 (114 + 3 * p + 2)) (h 30 20) (nI i)) m)
  | _ => 0
theorem m_factOf {h : Hp} {n m i k : Nat} {x : Int32} (hn : h 31 0 = nI n) (h8 : n ≤ 8) (hm : h 31 1 = nI m) (h6 : m ≤ 6) (hi : i < 8) (hk : k < 9) :
    f_X12_factOf (nI k) x (nI i) h = some (factM h n m i k) := by
  unfold f_X12_factOf
  rw [m_of0 hi, m_of2 hi, m_of3 hi, m_partsOf hn h8 hi, m_isLeant hn h8 hi, m_isHeld hm h6, obS, obS, obS, obS, obS, obS, gdT (nI_ix hi (by omega)), nI_clamp (by omega)]
  rcases k with _ | _ | _ | _ | _ | _ | _ | _ | _ | k
  · rfl
  · rfl
  · rfl
  · rfl
  · rfl
  · rfl
  · show (if 0 < sumTo (fun o => h 31 (10 + 8 * i + o)) n then some 1 else some 0) = some (bI (decide (0 < sumTo (fun o => h 31 (10 + 8 * i + o)) n)))
    by_cases c : 0 < sumTo (fun o => h 31 (10 + 8 * i + o)) n
    · rw [if_pos c, decide_eq_true c]; rfl
    · rw [if_neg c, decide_eq_false c]; rfl
  · show (if anyTo (fun o => decide (0 < h 31 (10 + 8 * o + i))) n = true then some 1 else some 0) = some (bI (anyTo (fun o => decide (0 < h 31 (10 + 8 * o + i))) n))
    cases anyTo (fun o => decide (0 < h 31 (10 + 8 * o + i))) n <;> rfl
  · show (if anyTo (fun p => thereB (h 31 (114 + 3 * p)) (h 31 (114 + 3 * p + 2)) (h 30 20) (nI i)) m = true then some 1 else some 0) = some (bI (anyTo (fun p => thereB (h 31 (114 + 3 * p)) (h 31 (114 + 3 * p + 2)) (h 30 20) (nI i)) m))
    cases anyTo (fun p => thereB (h 31 (114 + 3 * p)) (h 31 (114 + 3 * p + 2)) (h 30 20) (nI i)) m <;> rfl
  · exact absurd hk (by omega)
theorem m_factOf9 {h : Hp} {x y : Int32} : f_X12_factOf 9 x y h = some x := by
  unfold f_X12_factOf
  rw [if_neg (by decide), if_neg (by decide), if_neg (by decide), if_neg (by decide), if_neg (by decide), if_neg (by decide), if_neg (by decide), if_neg (by decide), if_neg (by decide)]
theorem m_bearsNow {h : Hp} {n i : Nat} (hn : h 31 0 = nI n) (h8 : n ≤ 8) (hi : i < 8) :
    f_X12_bearsNow (nI i) h = some (h 36 i + (if sumTo (fun o => h 31 (10 + 8 * i + o)) n = 0 then h 31 (74 + 5 * i) else 0)) := by
  unfold f_X12_bearsNow
  rw [gdT (nI_ix hi (by omega)), m_partsOf hn h8 hi, obS, m_of0 hi, obS, nI_clamp (by omega)]
  unfold F_X12_bearsNow_24
  by_cases c : sumTo (fun o => h 31 (10 + 8 * i + o)) n = 0
  · rw [if_pos c, if_pos c]
  · rw [if_neg c, if_neg c]
/-! a house is gone -/
theorem m_atI {h : Hp} {i w : Nat} : f_X12_at (nI i) (nI w) h = nI (74 + 5 * i + w) := by
  rw [m_at, show (74 : Int32) = nI 74 from by decide, li5, pk_mul, nI_add, nI_add]
theorem m_partAtI {h : Hp} {i o : Nat} : f_X12_partAt (nI i) (nI o) h = nI (10 + 8 * i + o) := by
  rw [m_partAt, li10, li8, pk_mul, nI_add, nI_add]
theorem m_personAtI {h : Hp} {p w : Nat} : f_X12_personAt (nI p) (nI w) h = nI (114 + 3 * p + w) := by
  rw [m_personAt, show (114 : Int32) = nI 114 from by decide, li3, pk_mul, nI_add, nI_add]
def goneP (i : Nat) (w : Nat → Int32) : Nat → Nat → Int32
  | 0 => w
  | j + 1 => upd (upd (goneP i w j) (10 + 8 * i + j) 0) (10 + 8 * j + i) 0
def goneQ (x : Int32) (w : Nat → Int32) : Nat → Nat → Int32
  | 0 => w
  | j + 1 => if goneQ x w j (114 + 3 * j) = x then upd (goneQ x w j) (114 + 3 * j) (-1) else goneQ x w j
theorem upd_ob {f : Nat → Int32} {i k : Nat} {v : Int32} (e : k ≠ i) : upd f i v k = f k := if_neg e
theorem upd_at {f : Nat → Int32} {i : Nat} {v : Int32} : upd f i v i = v := if_pos rfl
theorem goneP_ob {i k : Nat} {w : Nat → Int32} (e : k < 10 ∨ 74 ≤ k) (hi : i < 8) : ∀ j, j ≤ 8 → goneP i w j k = w k
  | 0, _ => rfl
  | j + 1, hj => by
    show upd (upd (goneP i w j) (10 + 8 * i + j) 0) (10 + 8 * j + i) 0 k = w k
    rw [upd_ob (by omega), upd_ob (by omega), goneP_ob e hi j (by omega)]
theorem goneQ_ob {k : Nat} {x : Int32} {w : Nat → Int32} (e : k < 114) : ∀ j, goneQ x w j k = w k
  | 0 => rfl
  | j + 1 => by
    show (if goneQ x w j (114 + 3 * j) = x then upd (goneQ x w j) (114 + 3 * j) (-1) else goneQ x w j) k = w k
    split
    · rw [upd_ob (by omega), goneQ_ob e j]
    · exact goneQ_ob e j
/-- the world behind it -/
def goneW (i m : Nat) (w : Nat → Int32) : Nat → Int32 := goneQ (nI i) (goneP i (upd w (74 + 5 * i + 4) 1) 8) m
theorem m_isGone {h : Hp} {m i : Nat} (hm : h 31 1 = nI m) (h6 : m ≤ 6) (hi : i < 8) :
    f_X12_isGone (nI i) h = some (upA h 31 (goneW i m (h 31))) := by
  have K : ∀ w : Nat → Int32, w 1 = nI m → F_X12_isGone_49 (nI i) FU 0 (upA h 31 w) = some (upA h 31 (goneQ (nI i) w m)) := by
    intro w hw
    have H := loop0 (S_X12_isGone_49 (nI i)) (fun _ _ => none) (fun j q => q (nI j) (upA h 31 (goneQ (nI i) w j))) m (some (upA h 31 (goneQ (nI i) w m))) (by omega) (fun j hj q => ?_) (fun q => ?_)
    · exact H
    · show S_X12_isGone_49 (nI i) q _ _ = _
      unfold S_X12_isGone_49
      rw [m_people, upA_at, itP (by rw [goneQ_ob (by omega)]; exact hw) hj (by omega), m_ofPerson0 (by omega), obS, upA_at, show f_X12_personAt (nI j) 0 (upA h 31 (goneQ (nI i) w j)) = nI (114 + 3 * j) from m_personAtI (w := 0), gdT (nI_ix (by omega) (by omega)), bnd_eq, nI_clamp (by omega), up1_upA, nI_1]
      show _ = q _ (upA h 31 (if _ then _ else _))
      split <;> rfl
    · show S_X12_isGone_49 (nI i) q _ _ = _
      unfold S_X12_isGone_49
      rw [m_people, upA_at, itN (by rw [goneQ_ob (by omega)]; exact hw) (by omega)]
  have H := loop0 (S_X12_isGone_13 (nI i)) (fun _ _ => none) (fun j q => q (nI j) (upA h 31 (goneP i (upd (h 31) (74 + 5 * i + 4) 1) j))) 8 (some (upA h 31 (goneW i m (h 31)))) (by omega) (fun j hj q => ?_) (fun q => ?_)
  · unfold f_X12_isGone
    rw [show f_X12_at (nI i) 4 h = nI (74 + 5 * i + 4) from m_atI (w := 4), gdT (nI_ix (by omega) (by omega)), bnd_eq, nI_clamp (by omega)]
    exact H
  · show S_X12_isGone_13 (nI i) q _ _ = _
    unfold S_X12_isGone_13
    rw [itP li8 hj (by omega), m_partAtI, gdT (nI_ix (by omega) (by omega)), bnd_eq, nI_clamp (by omega), up1_upA, m_partAtI, gdT (nI_ix (by omega) (by omega)), bnd_eq, nI_clamp (by omega), up1_upA, nI_1]
    rfl
  · show S_X12_isGone_13 (nI i) q _ _ = _
    unfold S_X12_isGone_13
    rw [itN li8 (by omega), K _ (by rw [goneP_ob (by omega) hi 8 (by omega), upd_ob (by omega)]; exact hm)]
    rfl
/-! a row of the log -/
theorem nI_dn {k : Nat} : nI (k + 1) + (-1) = nI k := by
  rw [← nI_1, Int32.add_assoc, show (1 : Int32) + (-1) = 0 from by decide, Int32.add_zero]
def shW (w : Nat → Int32) (j : Nat) : Nat → Int32 := fun k => if 491 - j < k ∧ k < 492 then w (k - 6) else w k
theorem shW_0 {w : Nat → Int32} : shW w 0 = w := by
  funext k; exact if_neg (by omega)
theorem shW_step {w : Nat → Int32} {j : Nat} (hj : j < 354) : upd (shW w j) (491 - j) (shW w j (485 - j)) = shW w (j + 1) := by
  funext k
  unfold upd shW
  by_cases c : k = 491 - j
  · rw [if_pos c, if_neg (by omega), if_pos (by omega), c, show 491 - j - 6 = 485 - j from by omega]
  · rw [if_neg c]
    by_cases d : 491 - j < k ∧ k < 492
    · rw [if_pos d, if_pos (by omega)]
    · rw [if_neg d, if_neg (by omega)]
/-- the world behind it -/
def tellW (x1 x2 x3 x4 : Int32) (w : Nat → Int32) : Nat → Int32 :=
  upd (upd (upd (upd (upd (upd (upd (shW w 354) 132 (w 5)) 133 (w 4)) 134 x1) 135 x2) 136 x3) 137 x4) 8 (imin 60 (w 8 + 1))
theorem shW_lo {w : Nat → Int32} {k : Nat} (h : k < 138) : shW w 354 k = w k := if_neg (by omega)
theorem m_tells {h : Hp} {x1 x2 x3 x4 : Int32} : f_X12_tells x1 x2 x3 x4 h = some (upA h 31 (tellW x1 x2 x3 x4 (h 31))) := by
  have H := loop0 (S_X12_tells_5 x1 x2 x3 x4) (fun _ _ => none) (fun j q => q (nI (359 - j)) (upA h 31 (shW (h 31) j))) 354 (some (upA h 31 (tellW x1 x2 x3 x4 (h 31)))) (by omega) (fun j hj q => ?_) (fun q => ?_)
  · rw [shW_0, upA_self] at H
    exact H
  · show S_X12_tells_5 x1 x2 x3 x4 q _ _ = _
    unfold S_X12_tells_5
    have e1 : (132 : Int32) + nI (359 - j) = nI (491 - j) := by
      rw [show (132 : Int32) = nI 132 from by decide, nI_add, show 132 + (359 - j) = 491 - j from by omega]
    have e2 : nI (491 - j) - 6 = nI (485 - j) := by
      rw [show 491 - j = (485 - j) + 6 from by omega, ← nI_add, li6, Int32.add_sub_cancel]
    have e3 : nI (359 - j) + (-1) = nI (359 - (j + 1)) := by
      rw [show 359 - j = (359 - (j + 1)) + 1 from by omega, nI_dn]
    rw [if_neg (fun c => absurd ((nI_lt_lit (n := 6) (by omega) (by omega)).mp (li6 ▸ c)) (by omega)), e1, e2, e3, gdT (nI_ix (by omega) (by omega)), gdT (nI_ix (by omega) (by omega)), bnd_eq, nI_clamp (by omega), nI_clamp (by omega), up1_upA, upA_at, shW_step hj]
  · show S_X12_tells_5 x1 x2 x3 x4 q _ _ = _
    unfold S_X12_tells_5
    rw [if_pos (by decide), bnd_eq, bnd_eq, bnd_eq, bnd_eq, bnd_eq, bnd_eq, bnd_eq]
    simp only [up1_upA, upA_at]
    unfold tellW
    have a : upd (shW (h 31) 354) 132 (shW (h 31) 354 5) 4 = h 31 4 := by rw [upd_ob (by decide), shW_lo (by decide)]
    have b : ∀ y, upd (upd (upd (upd (upd (upd (shW (h 31) 354) 132 (shW (h 31) 354 5)) 133 y) 134 x1) 135 x2) 136 x3) 137 x4 8 = h 31 8 := by
      intro y
      rw [upd_ob (by decide), upd_ob (by decide), upd_ob (by decide), upd_ob (by decide), upd_ob (by decide), upd_ob (by decide), shW_lo (by decide)]
    rw [b, a, shW_lo (by decide)]
/-! rows kept and brought back; a wedding; who is at a house; what all bear -/
def cpW (a b : Nat → Int32) (n : Nat) : Nat → Int32 := fun k => if k < n then a k else b k
theorem m_keepsAll {h : Hp} : f_X12_keepsAll h = some (upA h 34 (cpW (h 31) (h 34) 492)) := by
  have H := loop0 S_X12_keepsAll_2 (fun _ _ => none) (fun j q => q (nI j) (upA h 34 (fun o => if o < j then h 31 o else h 34 o))) 492 (some (upA h 34 (cpW (h 31) (h 34) 492))) (by omega) (fun j hj q => ?_) (fun q => ?_)
  · rw [ite_0, upA_self] at H
    exact H
  · show S_X12_keepsAll_2 q _ _ = _
    unfold S_X12_keepsAll_2
    rw [itP (n := 492) (show (492 : Int32) = nI 492 from by decide) hj (by omega), gdT (nI_ix (by omega) (by omega)), gdT (nI_ix (by omega) (by omega)), bnd_eq, nI_clamp (by omega), up1_upA, nI_1, upA_ob (by decide), ← upd_ite (h 31) (h 34) j]
  · show S_X12_keepsAll_2 q _ _ = _
    unfold S_X12_keepsAll_2
    rw [itN (n := 492) (show (492 : Int32) = nI 492 from by decide) (by omega)]
    rfl
theorem m_bringsBack {h : Hp} : f_X12_bringsBack h = some (upA h 31 (cpW (h 34) (h 31) 492)) := by
  have H := loop0 S_X12_bringsBack_2 (fun _ _ => none) (fun j q => q (nI j) (upA h 31 (fun o => if o < j then h 34 o else h 31 o))) 492 (some (upA h 31 (cpW (h 34) (h 31) 492))) (by omega) (fun j hj q => ?_) (fun q => ?_)
  · rw [ite_0, upA_self] at H
    exact H
  · show S_X12_bringsBack_2 q _ _ = _
    unfold S_X12_bringsBack_2
    rw [itP (n := 492) (show (492 : Int32) = nI 492 from by decide) hj (by omega), gdT (nI_ix (by omega) (by omega)), gdT (nI_ix (by omega) (by omega)), bnd_eq, nI_clamp (by omega), up1_upA, nI_1, upA_ob (by decide), ← upd_ite (h 34) (h 31) j]
  · show S_X12_bringsBack_2 q _ _ = _
    unfold S_X12_bringsBack_2
    rw [itN (n := 492) (show (492 : Int32) = nI 492 from by decide) (by omega)]
    rfl
def wedW (a b : Nat) (w : Nat → Int32) : Nat → Int32 :=
  upd (upd w (10 + 8 * a + b) (imin 9 (w (10 + 8 * a + b) + 1))) (10 + 8 * b + a) (imin 9 (upd w (10 + 8 * a + b) (imin 9 (w (10 + 8 * a + b) + 1)) (10 + 8 * b + a) + 1))
theorem m_weds {h : Hp} {a b : Nat} (ha : a < 8) (hb : b < 8) : f_X12_weds (nI a) (nI b) h = some (upA h 31 (wedW a b (h 31))) := by
  unfold f_X12_weds
  rw [m_partOf ha hb, obS, m_partAtI, gdT (nI_ix (by omega) (by omega)), bnd_eq, nI_clamp (by omega), m_partOf hb ha, obS, m_partAtI, gdT (nI_ix (by omega) (by omega)), bnd_eq, nI_clamp (by omega)]
  unfold up1
  rw [upA_at, upA_upA]
  rfl
theorem m_gateOf {h : Hp} {m : Nat} {x : Int32} (hm : h 31 1 = nI m) (h6 : m ≤ 6) :
    f_X12_gateOf x h = some (orTo (fun p => decide (h 31 (114 + 3 * p) = x)) m) := by
  have H := loop0 (S_X12_gateOf_4 h x) (fun _ _ => none) (fun j q => q (orTo (fun p => decide (h 31 (114 + 3 * p) = x)) j) (nI j)) m (some (orTo (fun p => decide (h 31 (114 + 3 * p) = x)) m)) (by omega) (fun j hj q => ?_) (fun q => ?_)
  · exact H
  · show S_X12_gateOf_4 h x q _ _ = _
    unfold S_X12_gateOf_4
    rw [m_people, itP hm hj (by omega), m_ofPerson0 (by omega), obS]
    unfold F_X12_gateOf_30
    simp only [bnd_eq, nI_1]
    show _ = q (orTo _ j ||| (if decide (h 31 (114 + 3 * j) = x) = true then shl 1 (nI j) else 0)) _
    by_cases c : h 31 (114 + 3 * j) = x
    · rw [if_pos c, decide_eq_true c]; rfl
    · rw [if_neg c, decide_eq_false c]; rfl
  · show S_X12_gateOf_4 h x q _ _ = _
    unfold S_X12_gateOf_4
    rw [m_people, itN hm (by omega)]
theorem m_bearsAll {h : Hp} {n : Nat} (hn : h 31 0 = nI n) (h8 : n ≤ 8) :
    f_X12_bearsAll h = some (sumTo (fun i => if decide (h 31 (74 + 5 * i + 4) = 1) then 0 else h 36 i + (if sumTo (fun o => h 31 (10 + 8 * i + o)) n = 0 then h 31 (74 + 5 * i) else 0)) n) := by
  have H := loop0 (S_X12_bearsAll_4 h) (fun _ _ => none) (fun j q => q (sumTo (fun i => if decide (h 31 (74 + 5 * i + 4) = 1) then 0 else h 36 i + (if sumTo (fun o => h 31 (10 + 8 * i + o)) n = 0 then h 31 (74 + 5 * i) else 0)) j) (nI j)) n (some (sumTo (fun i => if decide (h 31 (74 + 5 * i + 4) = 1) then 0 else h 36 i + (if sumTo (fun o => h 31 (10 + 8 * i + o)) n = 0 then h 31 (74 + 5 * i) else 0)) n)) (by omega) (fun j hj q => ?_) (fun q => ?_)
  · exact H
  · show S_X12_bearsAll_4 h q _ _ = _
    unfold S_X12_bearsAll_4
    rw [m_houses, itP hn hj (by omega), m_isFallen (by omega), obS, m_bearsNow hn h8 (by omega), obS]
    unfold F_X12_bearsAll_30
    rw [nI_1]
    show _ = q (sumTo _ j + (if decide (h 31 (74 + 5 * j + 4) = 1) = true then 0 else h 36 j + (if sumTo (fun o => h 31 (10 + 8 * j + o)) n = 0 then h 31 (74 + 5 * j) else 0))) _
    cases decide (h 31 (74 + 5 * j + 4) = 1) <;> rfl
  · show S_X12_bearsAll_4 h q _ _ = _
    unfold S_X12_bearsAll_4
    rw [m_houses, itN hn (by omega)]
