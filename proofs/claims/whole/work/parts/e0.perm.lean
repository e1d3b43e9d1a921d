/-! LAYER 4. order, means: orders by numbers and by search -/
def updP (f : Nat → Nat) (i v : Nat) : Nat → Nat := fun k => if k = i then v else f k
def cutP (E : Nat) (f : Nat → Nat) : Nat → Nat := fun k => if k < E then f k else 0
abbrev OS := Int32 × (Nat → Nat)
def keepO (E s : Nat) (path : Nat → Nat) (st : OS) : OS := if st.1 < nI s then (nI s, cutP E path) else st
def dsB (path : Nat → Nat) (j x : Nat) : Bool := anyTo (fun i => decide (path i = x)) j
def ENO (leaf : (Nat → Nat) → OS → OS) : Nat → (Nat → Nat) → Nat → OS → OS
  | 0, path, _, st => leaf path st
  | k + 1, path, place, st => fldN (fun h s => ENO leaf k (updP path place h) (place + 1) s) st 8
def CSO (told : Nat → Bool) (leaf : (Nat → Nat) → OS → OS) : Nat → (Nat → Nat) → Nat → OS → OS
  | 0, path, _, st => leaf path st
  | k + 1, path, place, st => fldN (fun h s => if told h && !dsB path place h then CSO told leaf k (updP path place h) (place + 1) s else s) st 8
def prmB (told : Nat → Bool) (E : Nat) (path : Nat → Nat) : Bool := decide (orTo (dsB path E) 8 = orTo told 8)
theorem fldN_id {A : Type} {f : Nat → A → A} {a : A} : ∀ n, (∀ j, j < n → ∀ x, f j x = x) → fldN f a n = a
  | 0, _ => rfl
  | n + 1, h => by rw [fldN_s, fldN_id n (fun j hj x => h j (by omega) x), h n (by omega)]
theorem fldN_add {A : Type} {f : Nat → A → A} {a : A} {x : Nat} : ∀ y, fldN f a (x + y) = fldN (fun i => f (x + i)) (fldN f a x) y
  | 0 => rfl
  | y + 1 => by
    show f (x + y) (fldN f a (x + y)) = f (x + y) (fldN (fun i => f (x + i)) (fldN f a x) y)
    rw [fldN_add y]
theorem fldN_mul {A : Type} {f : Nat → A → A} {a : A} {M : Nat} : ∀ n, fldN f a (n * M) = fldN (fun h s => fldN (fun r s => f (h * M + r) s) s M) a n
  | 0 => by rw [Nat.zero_mul]; rfl
  | n + 1 => by
    rw [Nat.succ_mul, fldN_add, fldN_mul n]
    rfl
theorem orTo_in {p q : Nat → Bool} : orTo p 8 = orTo q 8 ↔ ∀ k, k < 8 → p k = q k :=
  ⟨fun h k hk => by rw [← tb8 (p := p) hk, ← tb8 (p := q) hk, h], fun h => orTo_congr 8 h⟩
theorem dsB_e {path : Nat → Nat} {place h x : Nat} : dsB (updP path place h) (place + 1) x = (dsB path place x || decide (h = x)) := by
  show (anyTo (fun i => decide (updP path place h i = x)) place || decide (updP path place h place = x)) = _
  have a : updP path place h place = h := if_pos rfl
  rw [a]
  congr 1
  exact anyTo_congr place fun i hi => by
    have : updP path place h i = path i := if_neg (by omega)
    rw [this]
theorem cnt_il {p : Nat → Bool} {h : Nat} : ∀ n, cnt (fun k => p k || decide (h = k)) n ≤ cnt p n + 1 ∧ (n ≤ h → cnt (fun k => p k || decide (h = k)) n = cnt p n)
  | 0 => ⟨Nat.zero_le _, fun _ => rfl⟩
  | n + 1 => by
    have ⟨a, b⟩ := cnt_il (p := p) (h := h) n
    show cnt (fun k => p k || decide (h = k)) n + (if (p n || decide (h = n)) = true then 1 else 0) ≤ cnt p n + (if p n then 1 else 0) + 1 ∧ (n + 1 ≤ h → cnt (fun k => p k || decide (h = k)) n + (if (p n || decide (h = n)) = true then 1 else 0) = cnt p n + (if p n then 1 else 0))
    by_cases c : h = n
    · rw [decide_eq_true c, Bool.or_true, ttt]
      have := b (by omega)
      exact ⟨by split <;> omega, fun q => by omega⟩
    · rw [decide_eq_false c, Bool.or_false]
      refine ⟨by split <;> omega, fun q => ?_⟩
      rw [b (by omega)]
theorem cnt_in {p : Nat → Bool} {h : Nat} (z : p h = false) : ∀ n, h < n → cnt (fun k => p k || decide (h = k)) n = cnt p n + 1
  | 0, q => absurd q (Nat.not_lt_zero h)
  | n + 1, q => by
    show cnt (fun k => p k || decide (h = k)) n + (if (p n || decide (h = n)) = true then 1 else 0) = cnt p n + (if p n then 1 else 0) + 1
    by_cases c : h = n
    · rw [decide_eq_true c, Bool.or_true, ttt, (cnt_il n).2 (by omega), ← c, z, tff]
    · rw [decide_eq_false c, Bool.or_false, cnt_in z n (by omega)]
      omega
theorem cnt_sub_eq {p q : Nat → Bool} {n : Nat} (s : ∀ k, k < n → p k = true → q k = true) (e : cnt p n = cnt q n) : ∀ k, k < n → p k = q k := fun k hk => by
  cases a : p k
  · cases b : q k
    · rfl
    · have := cnt_lt n s ⟨k, hk, a, b⟩
      omega
  · exact (s k hk a).symm
section PM
variable {told : Nat → Bool} {E : Nat} {steps : (Nat → Nat) → Nat}
def leafC (E : Nat) (steps : (Nat → Nat) → Nat) (path : Nat → Nat) (st : OS) : OS := keepO E (steps path) path st
def leafM (told : Nat → Bool) (E : Nat) (steps : (Nat → Nat) → Nat) (path : Nat → Nat) (st : OS) : OS := if prmB told E path then keepO E (steps path) path st else st
theorem en_bad : ∀ k path place st, place + k = E → ((∃ x, x < 8 ∧ dsB path place x = true ∧ told x = false) ∨ cnt (dsB path place) 8 + k < cnt told 8) → ENO (leafM told E steps) k path place st = st
  | 0, path, place, st, hE, hb => by
    show (if prmB told E path then keepO E (steps path) path st else st) = st
    obtain rfl : place = E := by omega
    have : prmB told place path = false := by
      unfold prmB
      refine decide_eq_false fun q => ?_
      have e := orTo_in.mp q
      rcases hb with ⟨x, hx, a, b⟩ | hb
      · have := e x hx
        rw [a, b] at this
        exact Bool.noConfusion this
      · have := cnt_congr (p := dsB path place) (q := told) 8 e
        omega
    rw [this, tff]
  | k + 1, path, place, st, hE, hb => by
    show fldN (fun h s => ENO (leafM told E steps) k (updP path place h) (place + 1) s) st 8 = st
    refine fldN_id 8 fun h hh s => en_bad k _ _ s (by omega) ?_
    rcases hb with ⟨x, hx, a, b⟩ | hb
    · exact Or.inl ⟨x, hx, by rw [dsB_e, a]; rfl, b⟩
    · refine Or.inr ?_
      have : cnt (dsB (updP path place h) (place + 1)) 8 = cnt (fun k => dsB path place k || decide (h = k)) 8 := cnt_congr 8 fun x _ => dsB_e
      have := (cnt_il (p := dsB path place) (h := h) 8).1
      omega
def vldP (told : Nat → Bool) (path : Nat → Nat) (place : Nat) : Prop := (∀ x, x < 8 → dsB path place x = true → told x = true) ∧ cnt (dsB path place) 8 = place
theorem vld_s {path : Nat → Nat} {place h : Nat} (v : vldP told path place) (hh : h < 8) (c : (told h && !dsB path place h) = true) : vldP told (updP path place h) (place + 1) := by
  have ⟨a, b⟩ := Bool.and_eq_true_iff.mp c
  refine ⟨fun x hx q => ?_, ?_⟩
  · rw [dsB_e] at q
    rcases Bool.or_eq_true_iff.mp q with q | q
    · exact v.1 x hx q
    · rw [← of_decide_eq_true q]; exact a
  · have e : cnt (dsB (updP path place h) (place + 1)) 8 = cnt (fun k => dsB path place k || decide (h = k)) 8 := cnt_congr 8 fun x _ => dsB_e
    rw [e, cnt_in (by simpa using b) 8 hh, v.2]
theorem en_cs (cE : cnt told 8 = E) : ∀ k path place st, place + k = E → vldP told path place → ENO (leafM told E steps) k path place st = CSO told (leafC E steps) k path place st
  | 0, path, place, st, hE, v => by
    show (if prmB told E path then keepO E (steps path) path st else st) = keepO E (steps path) path st
    obtain rfl : place = E := by omega
    have : prmB told place path = true := decide_eq_true (orTo_in.mpr (cnt_sub_eq v.1 (by rw [v.2, cE])))
    rw [this, ttt]
  | k + 1, path, place, st, hE, v => by
    refine fldN_congr 8 fun h hh s => ?_
    cases c : told h && !dsB path place h
    · rw [tff]
      refine en_bad k _ _ s (by omega) ?_
      cases d : told h
      · exact Or.inl ⟨h, hh, by rw [dsB_e, decide_eq_true rfl, Bool.or_true], d⟩
      · rw [d, Bool.true_and] at c
        have dh : dsB path place h = true := by simpa using c
        refine Or.inr ?_
        have e : cnt (dsB (updP path place h) (place + 1)) 8 = cnt (dsB path place) 8 := cnt_congr 8 fun x _ => by
          rw [dsB_e]
          by_cases z : h = x
          · rw [← z, dh]; rfl
          · rw [decide_eq_false z, Bool.or_false]
        rw [e, v.2, cE]
        omega
    · rw [ttt]
      exact en_cs cE k _ _ s (by omega) (vld_s v hh c)
/-- by numbers -/
theorem en_num {leaf : (Nat → Nat) → OS → OS} (hl : ∀ p q, (∀ i, i < E → p i = q i) → ∀ st, leaf p st = leaf q st) : ∀ k place path, place + k = E → ∀ st,
    fldN (fun r s => leaf (fun p => if p < place then path p else (r / 8 ^ (E - 1 - p)) % 8) s) st (8 ^ k) = ENO leaf k path place st
  | 0, place, path, hE, st => by
    show leaf _ st = leaf path st
    exact hl _ _ (fun i hi => if_pos (by omega)) st
  | k + 1, place, path, hE, st => by
    rw [Nat.pow_succ, Nat.mul_comm, fldN_mul]
    refine fldN_congr 8 fun h hh s => ?_
    show fldN (fun r s => leaf (fun p => if p < place then path p else ((h * 8 ^ k + r) / 8 ^ (E - 1 - p)) % 8) s) s (8 ^ k) = ENO leaf k (updP path place h) (place + 1) s
    rw [← en_num hl k (place + 1) (updP path place h) (by omega) s]
    refine fldN_congr (8 ^ k) fun r hr t => hl _ _ (fun i hi => ?_) t
    by_cases a : i < place
    · rw [if_pos a, if_pos (show i < place + 1 by omega)]
      exact (if_neg (show ¬ i = place by omega)).symm
    · rw [if_neg a]
      by_cases b : i = place
      · have e : updP path place h i = h := if_pos b
        rw [if_pos (show i < place + 1 by omega), e, show E - 1 - i = k by omega, Nat.mul_comm, Nat.mul_add_div (Nat.pow_pos (by omega)), Nat.div_eq_of_lt hr, Nat.add_zero, Nat.mod_eq_of_lt hh]
      · rw [if_neg (show ¬ i < place + 1 by omega)]
        obtain ⟨j, hj⟩ : ∃ j, E - 1 - i = j := ⟨_, rfl⟩
        rw [hj]
        have : 8 ^ k = 8 ^ j * (8 * 8 ^ (k - j - 1)) := by
          rw [← Nat.pow_succ', ← Nat.pow_add]
          congr 1
          omega
        rw [this, show h * (8 ^ j * (8 * 8 ^ (k - j - 1))) + r = 8 ^ j * (8 * (h * 8 ^ (k - j - 1))) + r by
          rw [Nat.mul_left_comm h, Nat.mul_left_comm h], Nat.mul_add_div (Nat.pow_pos (by omega)), Nat.mul_add_mod]
def stSet (st : OS) : Prop := ∃ s, s ≤ 1000 ∧ st.1 = nI s
def stOk (st : OS) : Prop := st.1 = -1 ∨ stSet st
theorem keep_set {path : Nat → Nat} {st : OS} {s : Nat} (hs : s ≤ 1000) (o : stOk st) : stSet (keepO E s path st) := by
  unfold keepO
  by_cases c : st.1 < nI s
  · rw [if_pos c]; exact ⟨s, hs, rfl⟩
  · rw [if_neg c]
    rcases o with o | o
    · rw [o] at c
      exact absurd (Int32.lt_of_lt_of_le (by decide) ((nI_leI (a := 0) (by omega) (by omega)).mpr (Nat.zero_le s))) c
    · exact o
theorem cs_ok (hs : ∀ p, steps p ≤ 1000) : ∀ k path place, (∀ st, stOk st → stOk (CSO told (leafC E steps) k path place st)) ∧ ∀ st, stSet st → stSet (CSO told (leafC E steps) k path place st)
  | 0, path, place => ⟨fun st o => Or.inr (keep_set (hs path) o), fun st o => keep_set (hs path) (Or.inr o)⟩
  | k + 1, path, place => by
    refine ⟨fun st o => fldN_ind (fun _ (s : OS) => stOk s) o 8 fun j s _ q => ?_, fun st o => fldN_ind (fun _ (s : OS) => stSet s) o 8 fun j s _ q => ?_⟩
    · split
      · exact (cs_ok hs k _ _).1 s q
      · exact q
    · split
      · exact (cs_ok hs k _ _).2 s q
      · exact q
theorem cs_set (hs : ∀ p, steps p ≤ 1000) (cE : cnt told 8 = E) : ∀ k path place, place + k = E → vldP told path place → ∀ st, stOk st → stSet (CSO told (leafC E steps) k path place st)
  | 0, path, place, _, _ => fun st o => keep_set (hs path) o
  | k + 1, path, place, hE, v => fun st o => by
    have ⟨x, hx, c⟩ : ∃ x, x < 8 ∧ (told x && !dsB path place x) = true := by
      refine Classical.byContradiction fun q => ?_
      have s : ∀ y, y < 8 → told y = true → dsB path place y = true := fun y hy t => by
        cases d : dsB path place y
        · exact absurd ⟨y, hy, by rw [t, d]; rfl⟩ q
        · rfl
      have := cnt_mo 8 s
      have := v.2
      omega
    have := fldN_ind (f := fun h s => if told h && !dsB path place h then CSO told (leafC E steps) k (updP path place h) (place + 1) s else s) (a := st) (fun j (s : OS) => stOk s ∧ (x < j → stSet s)) ⟨o, fun q => absurd q (Nat.not_lt_zero x)⟩ 8 fun j s hj q => by
      by_cases d : (told j && !dsB path place j) = true
      · rw [if_pos d]
        exact ⟨(cs_ok hs k _ _).1 s q.1, fun z => by
          by_cases w : x = j
          · exact cs_set hs cE k _ _ (by omega) (vld_s v hj d) s q.1
          · exact (cs_ok hs k _ _).2 s (q.2 (by omega))⟩
      · rw [if_neg d]
        exact ⟨q.1, fun z => by
          by_cases w : x = j
          · rw [w] at c; exact absurd c d
          · exact q.2 (by omega)⟩
    exact this.2 hx
end PM
/-! taking away one after another -/
def stO (n m : Nat) (p h : Nat) (s : Row × Nat) : Row × Nat := if falB s.1 h then s else ((fallW n m (s.1 4) 0 (goneW h m s.1)).2.2, s.2 + p * (1 + fcN n m (s.1 4) (goneW h m s.1)))
def runO (n m : Nat) (w : Row) (path : Nat → Nat) (j : Nat) : Row × Nat := fldN (fun p s => stO n m p (path p) s) (w, 0) j
theorem run_congr {n m : Nat} {w : Row} {p q : Nat → Nat} {j : Nat} (h : ∀ i, i < j → p i = q i) : runO n m w p j = runO n m w q j := fldN_congr j fun i hi x => by rw [h i hi]
theorem run_Gd {n m : Nat} {w : Row} {path : Nat → Nat} (g : Gd n m w) : ∀ j, (∀ i, i < j → path i < n) → Gd n m (runO n m w path j).1
  | 0, _ => g
  | j + 1, h => by
    have ih := run_Gd g j (fun i hi => h i (by omega))
    show Gd n m (stO n m j (path j) (runO n m w path j)).1
    unfold stO
    split
    · exact ih
    · exact fl_Gd 9 0 _ (gone_Gd (h j (by omega)) ih)
theorem run_b {n m : Nat} {w : Row} {path : Nat → Nat} (h8 : n ≤ 8) : ∀ j, j ≤ 5 → (runO n m w path j).2 ≤ 36 * j
  | 0, _ => Nat.le_refl 0
  | j + 1, hj => by
    have ih := run_b (m := m) (w := w) (path := path) h8 j (by omega)
    have f8 : fcN n m ((runO n m w path j).1 4) (goneW (path j) m (runO n m w path j).1) ≤ 8 := by
      unfold fcN
      have := cnt_le (upS (goneW (path j) m (runO n m w path j).1)) n
      omega
    show (stO n m j (path j) (runO n m w path j)).2 ≤ 36 * (j + 1)
    unfold stO
    split
    · omega
    · have : j * (1 + fcN n m ((runO n m w path j).1 4) (goneW (path j) m (runO n m w path j).1)) ≤ 4 * 9 := Nat.mul_le_mul (by omega) (by omega)
      show (runO n m w path j).2 + _ ≤ _
      omega
