/-! LAYER 4. The kit: loops by invariants, rows for simp (disch := omega), bits, sets, counts -/
theorem loopV {T Z R : Type} (S : T → T) (z : T) (ap : T → Z → R) (N : Nat) (P : Nat → Z → Prop) (Q : R → Prop) (hN : N < 1000000)
    (hs : ∀ j s, j < N → P j s → (∃ s', P (j + 1) s' ∧ ∀ q : T, ap (S q) s = ap q s') ∨ (∃ r, Q r ∧ ∀ q : T, ap (S q) s = r))
    (he : ∀ s, P N s → ∃ r, Q r ∧ ∀ q : T, ap (S q) s = r) :
    ∀ s, P 0 s → Q (ap (Nat.rec (motive := fun _ => T) z (fun _ q => S q) FU) s) := by
  have K : ∀ (m n j : Nat) (s : Z), j + m = N → m < n → P j s → Q (ap (Nat.rec (motive := fun _ => T) z (fun _ q => S q) n) s) := by
    intro m
    induction m with
    | zero =>
      intro n j s hj hn hp
      obtain ⟨n', rfl⟩ : ∃ n', n = n' + 1 := ⟨n - 1, by omega⟩
      have e : j = N := by omega
      subst e
      obtain ⟨r, hr, e⟩ := he s hp
      show Q (ap (S _) s)
      rw [e]; exact hr
    | succ m ih =>
      intro n j s hj hn hp
      obtain ⟨n', rfl⟩ : ∃ n', n = n' + 1 := ⟨n - 1, by omega⟩
      show Q (ap (S _) s)
      rcases hs j s (by omega) hp with ⟨s', hp', e⟩ | ⟨r, hr, e⟩
      · rw [e]; exact ih n' (j + 1) s' (by omega) (by omega) hp'
      · rw [e]; exact hr
  intro s hp
  exact K N FU 0 s (Nat.zero_add N) (by show N < 4000000; omega) hp
/-- without an early end -/
theorem loopW {T Z R : Type} (S : T → T) (z : T) (ap : T → Z → R) (N : Nat) (P : Nat → Z → Prop) (Q : R → Prop) (hN : N < 1000000)
    (hs : ∀ j s, j < N → P j s → (∃ s', P (j + 1) s' ∧ ∀ q : T, ap (S q) s = ap q s'))
    (he : ∀ s, P N s → ∃ r, Q r ∧ ∀ q : T, ap (S q) s = r) :
    ∀ s, P 0 s → Q (ap (Nat.rec (motive := fun _ => T) z (fun _ q => S q) FU) s) :=
  loopV S z ap N P Q hN (fun j s hj hp => Or.inl (hs j s hj hp)) he
/-- loops under a way on (C), which the state behind the loop does not look at. (F by name: a Nat.rec on FU that is not the same to the letter the kernel unrolls.) -/
theorem loopQ {C T Z R : Type} (F : C → Nat → T) (S : C → T → T) (hF : ∀ c k, F c (k + 1) = S c (F c k)) (ap : T → Z → R) (N : Nat) (P : Nat → Z → Prop) (Q : (C → R) → Prop) (hN : N < 1000000)
    (hs : ∀ j s, j < N → P j s → (∃ s', P (j + 1) s' ∧ ∀ (c : C) (q : T), ap (S c q) s = ap q s') ∨ (∃ r, Q r ∧ ∀ (c : C) (q : T), ap (S c q) s = r c))
    (he : ∀ s, P N s → ∃ r, Q r ∧ ∀ (c : C) (q : T), ap (S c q) s = r c) :
    ∀ s, P 0 s → Q (fun c => ap (F c FU) s) := by
  have K : ∀ (m n j : Nat) (s : Z), j + m = N → m < n → P j s → Q (fun c => ap (F c n) s) := by
    intro m
    induction m with
    | zero =>
      intro n j s hj hn hp
      obtain ⟨n', rfl⟩ : ∃ n', n = n' + 1 := ⟨n - 1, by omega⟩
      have e : j = N := by omega
      subst e
      obtain ⟨r, hr, e⟩ := he s hp
      have : (fun c => ap (F c (n' + 1)) s) = r := funext fun c => by rw [hF]; exact e c _
      rw [this]; exact hr
    | succ m ih =>
      intro n j s hj hn hp
      obtain ⟨n', rfl⟩ : ∃ n', n = n' + 1 := ⟨n - 1, by omega⟩
      rcases hs j s (by omega) hp with ⟨s', hp', e⟩ | ⟨r, hr, e⟩
      · have : (fun c => ap (F c (n' + 1)) s) = fun c => ap (F c n') s' := funext fun c => by rw [hF]; exact e c _
        rw [this]; exact ih n' (j + 1) s' (by omega) (by omega) hp'
      · have : (fun c => ap (F c (n' + 1)) s) = r := funext fun c => by rw [hF]; exact e c _
        rw [this]; exact hr
  intro s hp
  exact K N FU 0 s (Nat.zero_add N) (by show N < 4000000; omega) hp
def fldN {A : Type} (f : Nat → A → A) (a : A) : Nat → A
  | 0 => a
  | j + 1 => f j (fldN f a j)
theorem fldN_0 {A : Type} {f : Nat → A → A} {a : A} : fldN f a 0 = a := rfl
theorem fldN_s {A : Type} {f : Nat → A → A} {a : A} {j : Nat} : fldN f a (j + 1) = f j (fldN f a j) := rfl
theorem fldN_congr {A : Type} {f g : Nat → A → A} {a : A} : ∀ (n : Nat), (∀ j, j < n → ∀ x, f j x = g j x) → fldN f a n = fldN g a n
  | 0, _ => rfl
  | n + 1, h => by
    rw [fldN_s, fldN_s, fldN_congr n (fun j hj x => h j (by omega) x), h n (by omega)]
theorem fldN_ind {A : Type} {f : Nat → A → A} {a : A} (P : Nat → A → Prop) (h0 : P 0 a) : ∀ (n : Nat), (∀ j x, j < n → P j x → P (j + 1) (f j x)) → P n (fldN f a n)
  | 0, _ => h0
  | n + 1, h => h n _ (by omega) (fldN_ind P h0 n (fun j x hj hp => h j x (by omega) hp))
/-! rows for simp -/
theorem zgd {α : Type} {j n : Nat} {b : Option α} [Decidable (ix (nI j) n)] (h : j < n) (hn : n < 2 ^ 31) : gd (ix (nI j) n) b = b := gdT (nI_ix h hn)
theorem zcl {j : Nat} (h : j < 2 ^ 31) : (nI j).toNatClampNeg = j := nI_clamp h
theorem zlt {a b : Nat} (ha : a < 2 ^ 31) (hb : b < 2 ^ 31) : (nI a < nI b) = (a < b) := propext (nI_ltI ha hb)
theorem zle {a b : Nat} (ha : a < 2 ^ 31) (hb : b < 2 ^ 31) : (nI a ≤ nI b) = (a ≤ b) := propext (nI_leI ha hb)
theorem zeq {a b : Nat} (ha : a < 2 ^ 31) (hb : b < 2 ^ 31) : (nI a = nI b) = (a = b) := propext (nI_eq ha hb)
theorem zn0 {a : Nat} (ha : a < 2 ^ 31) : (nI a < 0) = False := eq_false (nI_pos ha)
theorem zp0 {a : Nat} (ha : a < 2 ^ 31) : (0 < nI a) = (0 < a) := zlt (a := 0) (by decide) ha
theorem ze0 {a : Nat} (ha : a < 2 ^ 31) : (nI a = 0) = (a = 0) := zeq (b := 0) ha (by decide)
theorem zem {a : Nat} (ha : a < 2 ^ 31) : (nI a = -1) = False := eq_false (fun q => by
  have h := nI_pos (n := a) ha
  rw [q] at h; exact h (by decide))
theorem zme {a : Nat} (ha : a < 2 ^ 31) : (-1 = nI a) = False := eq_false (fun q => by
  have h := nI_pos (n := a) ha
  rw [← q] at h; exact h (by decide))
theorem zadd (a b : Nat) : nI a + nI b = nI (a + b) := nI_add a b
theorem zmul (a b : Nat) : nI a * nI b = nI (a * b) := pk_mul a b
theorem zsub {a b : Nat} (h : b ≤ a) : nI a - nI b = nI (a - b) := pk_sub h
theorem zsuc (a : Nat) : nI a + 1 = nI (a + 1) := nI_1 a
theorem zprd {a : Nat} (h : 0 < a) : nI a + (-1) = nI (a - 1) := by
  obtain ⟨b, rfl⟩ : ∃ b, a = b + 1 := ⟨a - 1, by omega⟩
  exact nI_dn
theorem zprs {a : Nat} (h : 0 < a) : nI a - 1 = nI (a - 1) := zsub (b := 1) h
theorem zdv {a d : Nat} (ha : a < 2 ^ 31) (h0 : 0 < d) (hd : d < 2 ^ 31) : nI a / nI d = nI (a / d) := pk_div ha h0 hd
theorem zrm {a d : Nat} (ha : a < 2 ^ 31) (h0 : 0 < d) (hd : d < 2 ^ 31) : rem (nI a) (nI d) = nI (a % d) := pk_rem ha h0 hd
theorem zmin {a b : Nat} (ha : a < 2 ^ 31) (hb : b < 2 ^ 31) : imin (nI a) (nI b) = nI (min a b) := by
  unfold imin; simp only [zlt hb ha]
  split
  · rw [Nat.min_eq_right (by omega)]
  · rw [Nat.min_eq_left (by omega)]
theorem zmax {a b : Nat} (ha : a < 2 ^ 31) (hb : b < 2 ^ 31) : imax (nI a) (nI b) = nI (max a b) := by
  unfold imax; simp only [zlt ha hb]
  split
  · rw [Nat.max_eq_right (by omega)]
  · rw [Nat.max_eq_left (by omega)]
theorem zl0 {a : Nat} (h : a < 2 ^ 31) : (nI a < 0) = (a < 0) := zlt (b := 0) h (by decide)
theorem zg0 {a : Nat} (h : a < 2 ^ 31) : (0 < nI a) = (0 < a) := zlt (a := 0) (by decide) h
theorem zq0 {a : Nat} (h : a < 2 ^ 31) : (nI a = 0) = (a = 0) := zeq (b := 0) h (by decide)
theorem zl1 {a : Nat} (h : a < 2 ^ 31) : (nI a < 1) = (a < 1) := zlt (b := 1) h (by decide)
theorem zg1 {a : Nat} (h : a < 2 ^ 31) : (1 < nI a) = (1 < a) := zlt (a := 1) (by decide) h
theorem zq1 {a : Nat} (h : a < 2 ^ 31) : (nI a = 1) = (a = 1) := zeq (b := 1) h (by decide)
theorem zl2 {a : Nat} (h : a < 2 ^ 31) : (nI a < 2) = (a < 2) := zlt (b := 2) h (by decide)
theorem zg2 {a : Nat} (h : a < 2 ^ 31) : (2 < nI a) = (2 < a) := zlt (a := 2) (by decide) h
theorem zq2 {a : Nat} (h : a < 2 ^ 31) : (nI a = 2) = (a = 2) := zeq (b := 2) h (by decide)
theorem zl3 {a : Nat} (h : a < 2 ^ 31) : (nI a < 3) = (a < 3) := zlt (b := 3) h (by decide)
theorem zg3 {a : Nat} (h : a < 2 ^ 31) : (3 < nI a) = (3 < a) := zlt (a := 3) (by decide) h
theorem zq3 {a : Nat} (h : a < 2 ^ 31) : (nI a = 3) = (a = 3) := zeq (b := 3) h (by decide)
theorem zl4 {a : Nat} (h : a < 2 ^ 31) : (nI a < 4) = (a < 4) := zlt (b := 4) h (by decide)
theorem zg4 {a : Nat} (h : a < 2 ^ 31) : (4 < nI a) = (4 < a) := zlt (a := 4) (by decide) h
theorem zq4 {a : Nat} (h : a < 2 ^ 31) : (nI a = 4) = (a = 4) := zeq (b := 4) h (by decide)
theorem zl5 {a : Nat} (h : a < 2 ^ 31) : (nI a < 5) = (a < 5) := zlt (b := 5) h (by decide)
theorem zg5 {a : Nat} (h : a < 2 ^ 31) : (5 < nI a) = (5 < a) := zlt (a := 5) (by decide) h
theorem zq5 {a : Nat} (h : a < 2 ^ 31) : (nI a = 5) = (a = 5) := zeq (b := 5) h (by decide)
theorem zl6 {a : Nat} (h : a < 2 ^ 31) : (nI a < 6) = (a < 6) := zlt (b := 6) h (by decide)
theorem zg6 {a : Nat} (h : a < 2 ^ 31) : (6 < nI a) = (6 < a) := zlt (a := 6) (by decide) h
theorem zq6 {a : Nat} (h : a < 2 ^ 31) : (nI a = 6) = (a = 6) := zeq (b := 6) h (by decide)
theorem zl7 {a : Nat} (h : a < 2 ^ 31) : (nI a < 7) = (a < 7) := zlt (b := 7) h (by decide)
theorem zg7 {a : Nat} (h : a < 2 ^ 31) : (7 < nI a) = (7 < a) := zlt (a := 7) (by decide) h
theorem zq7 {a : Nat} (h : a < 2 ^ 31) : (nI a = 7) = (a = 7) := zeq (b := 7) h (by decide)
theorem zl8 {a : Nat} (h : a < 2 ^ 31) : (nI a < 8) = (a < 8) := zlt (b := 8) h (by decide)
theorem zg8 {a : Nat} (h : a < 2 ^ 31) : (8 < nI a) = (8 < a) := zlt (a := 8) (by decide) h
theorem zq8 {a : Nat} (h : a < 2 ^ 31) : (nI a = 8) = (a = 8) := zeq (b := 8) h (by decide)
theorem zl9 {a : Nat} (h : a < 2 ^ 31) : (nI a < 9) = (a < 9) := zlt (b := 9) h (by decide)
theorem zg9 {a : Nat} (h : a < 2 ^ 31) : (9 < nI a) = (9 < a) := zlt (a := 9) (by decide) h
theorem zq9 {a : Nat} (h : a < 2 ^ 31) : (nI a = 9) = (a = 9) := zeq (b := 9) h (by decide)
theorem zl10 {a : Nat} (h : a < 2 ^ 31) : (nI a < 10) = (a < 10) := zlt (b := 10) h (by decide)
theorem zg10 {a : Nat} (h : a < 2 ^ 31) : (10 < nI a) = (10 < a) := zlt (a := 10) (by decide) h
theorem zq10 {a : Nat} (h : a < 2 ^ 31) : (nI a = 10) = (a = 10) := zeq (b := 10) h (by decide)
theorem zl11 {a : Nat} (h : a < 2 ^ 31) : (nI a < 11) = (a < 11) := zlt (b := 11) h (by decide)
theorem zg11 {a : Nat} (h : a < 2 ^ 31) : (11 < nI a) = (11 < a) := zlt (a := 11) (by decide) h
theorem zq11 {a : Nat} (h : a < 2 ^ 31) : (nI a = 11) = (a = 11) := zeq (b := 11) h (by decide)
theorem zl12 {a : Nat} (h : a < 2 ^ 31) : (nI a < 12) = (a < 12) := zlt (b := 12) h (by decide)
theorem zg12 {a : Nat} (h : a < 2 ^ 31) : (12 < nI a) = (12 < a) := zlt (a := 12) (by decide) h
theorem zq12 {a : Nat} (h : a < 2 ^ 31) : (nI a = 12) = (a = 12) := zeq (b := 12) h (by decide)
theorem zl13 {a : Nat} (h : a < 2 ^ 31) : (nI a < 13) = (a < 13) := zlt (b := 13) h (by decide)
theorem zg13 {a : Nat} (h : a < 2 ^ 31) : (13 < nI a) = (13 < a) := zlt (a := 13) (by decide) h
theorem zq13 {a : Nat} (h : a < 2 ^ 31) : (nI a = 13) = (a = 13) := zeq (b := 13) h (by decide)
theorem zl14 {a : Nat} (h : a < 2 ^ 31) : (nI a < 14) = (a < 14) := zlt (b := 14) h (by decide)
theorem zg14 {a : Nat} (h : a < 2 ^ 31) : (14 < nI a) = (14 < a) := zlt (a := 14) (by decide) h
theorem zq14 {a : Nat} (h : a < 2 ^ 31) : (nI a = 14) = (a = 14) := zeq (b := 14) h (by decide)
theorem zl15 {a : Nat} (h : a < 2 ^ 31) : (nI a < 15) = (a < 15) := zlt (b := 15) h (by decide)
theorem zg15 {a : Nat} (h : a < 2 ^ 31) : (15 < nI a) = (15 < a) := zlt (a := 15) (by decide) h
theorem zq15 {a : Nat} (h : a < 2 ^ 31) : (nI a = 15) = (a = 15) := zeq (b := 15) h (by decide)
theorem zl16 {a : Nat} (h : a < 2 ^ 31) : (nI a < 16) = (a < 16) := zlt (b := 16) h (by decide)
theorem zg16 {a : Nat} (h : a < 2 ^ 31) : (16 < nI a) = (16 < a) := zlt (a := 16) (by decide) h
theorem zq16 {a : Nat} (h : a < 2 ^ 31) : (nI a = 16) = (a = 16) := zeq (b := 16) h (by decide)
theorem zl20 {a : Nat} (h : a < 2 ^ 31) : (nI a < 20) = (a < 20) := zlt (b := 20) h (by decide)
theorem zg20 {a : Nat} (h : a < 2 ^ 31) : (20 < nI a) = (20 < a) := zlt (a := 20) (by decide) h
theorem zq20 {a : Nat} (h : a < 2 ^ 31) : (nI a = 20) = (a = 20) := zeq (b := 20) h (by decide)
theorem zl32 {a : Nat} (h : a < 2 ^ 31) : (nI a < 32) = (a < 32) := zlt (b := 32) h (by decide)
theorem zg32 {a : Nat} (h : a < 2 ^ 31) : (32 < nI a) = (32 < a) := zlt (a := 32) (by decide) h
theorem zq32 {a : Nat} (h : a < 2 ^ 31) : (nI a = 32) = (a = 32) := zeq (b := 32) h (by decide)
theorem zl40 {a : Nat} (h : a < 2 ^ 31) : (nI a < 40) = (a < 40) := zlt (b := 40) h (by decide)
theorem zg40 {a : Nat} (h : a < 2 ^ 31) : (40 < nI a) = (40 < a) := zlt (a := 40) (by decide) h
theorem zq40 {a : Nat} (h : a < 2 ^ 31) : (nI a = 40) = (a = 40) := zeq (b := 40) h (by decide)
theorem zl48 {a : Nat} (h : a < 2 ^ 31) : (nI a < 48) = (a < 48) := zlt (b := 48) h (by decide)
theorem zg48 {a : Nat} (h : a < 2 ^ 31) : (48 < nI a) = (48 < a) := zlt (a := 48) (by decide) h
theorem zq48 {a : Nat} (h : a < 2 ^ 31) : (nI a = 48) = (a = 48) := zeq (b := 48) h (by decide)
theorem zl49 {a : Nat} (h : a < 2 ^ 31) : (nI a < 49) = (a < 49) := zlt (b := 49) h (by decide)
theorem zg49 {a : Nat} (h : a < 2 ^ 31) : (49 < nI a) = (49 < a) := zlt (a := 49) (by decide) h
theorem zq49 {a : Nat} (h : a < 2 ^ 31) : (nI a = 49) = (a = 49) := zeq (b := 49) h (by decide)
theorem zl57 {a : Nat} (h : a < 2 ^ 31) : (nI a < 57) = (a < 57) := zlt (b := 57) h (by decide)
theorem zg57 {a : Nat} (h : a < 2 ^ 31) : (57 < nI a) = (57 < a) := zlt (a := 57) (by decide) h
theorem zq57 {a : Nat} (h : a < 2 ^ 31) : (nI a = 57) = (a = 57) := zeq (b := 57) h (by decide)
theorem zl59 {a : Nat} (h : a < 2 ^ 31) : (nI a < 59) = (a < 59) := zlt (b := 59) h (by decide)
theorem zg59 {a : Nat} (h : a < 2 ^ 31) : (59 < nI a) = (59 < a) := zlt (a := 59) (by decide) h
theorem zq59 {a : Nat} (h : a < 2 ^ 31) : (nI a = 59) = (a = 59) := zeq (b := 59) h (by decide)
theorem zl60 {a : Nat} (h : a < 2 ^ 31) : (nI a < 60) = (a < 60) := zlt (b := 60) h (by decide)
theorem zg60 {a : Nat} (h : a < 2 ^ 31) : (60 < nI a) = (60 < a) := zlt (a := 60) (by decide) h
theorem zq60 {a : Nat} (h : a < 2 ^ 31) : (nI a = 60) = (a = 60) := zeq (b := 60) h (by decide)
theorem zl64 {a : Nat} (h : a < 2 ^ 31) : (nI a < 64) = (a < 64) := zlt (b := 64) h (by decide)
theorem zg64 {a : Nat} (h : a < 2 ^ 31) : (64 < nI a) = (64 < a) := zlt (a := 64) (by decide) h
theorem zq64 {a : Nat} (h : a < 2 ^ 31) : (nI a = 64) = (a = 64) := zeq (b := 64) h (by decide)
theorem zl65 {a : Nat} (h : a < 2 ^ 31) : (nI a < 65) = (a < 65) := zlt (b := 65) h (by decide)
theorem zg65 {a : Nat} (h : a < 2 ^ 31) : (65 < nI a) = (65 < a) := zlt (a := 65) (by decide) h
theorem zq65 {a : Nat} (h : a < 2 ^ 31) : (nI a = 65) = (a = 65) := zeq (b := 65) h (by decide)
theorem zl66 {a : Nat} (h : a < 2 ^ 31) : (nI a < 66) = (a < 66) := zlt (b := 66) h (by decide)
theorem zg66 {a : Nat} (h : a < 2 ^ 31) : (66 < nI a) = (66 < a) := zlt (a := 66) (by decide) h
theorem zq66 {a : Nat} (h : a < 2 ^ 31) : (nI a = 66) = (a = 66) := zeq (b := 66) h (by decide)
theorem zl70 {a : Nat} (h : a < 2 ^ 31) : (nI a < 70) = (a < 70) := zlt (b := 70) h (by decide)
theorem zg70 {a : Nat} (h : a < 2 ^ 31) : (70 < nI a) = (70 < a) := zlt (a := 70) (by decide) h
theorem zq70 {a : Nat} (h : a < 2 ^ 31) : (nI a = 70) = (a = 70) := zeq (b := 70) h (by decide)
theorem zl97 {a : Nat} (h : a < 2 ^ 31) : (nI a < 97) = (a < 97) := zlt (b := 97) h (by decide)
theorem zg97 {a : Nat} (h : a < 2 ^ 31) : (97 < nI a) = (97 < a) := zlt (a := 97) (by decide) h
theorem zq97 {a : Nat} (h : a < 2 ^ 31) : (nI a = 97) = (a = 97) := zeq (b := 97) h (by decide)
theorem zl99 {a : Nat} (h : a < 2 ^ 31) : (nI a < 99) = (a < 99) := zlt (b := 99) h (by decide)
theorem zg99 {a : Nat} (h : a < 2 ^ 31) : (99 < nI a) = (99 < a) := zlt (a := 99) (by decide) h
theorem zq99 {a : Nat} (h : a < 2 ^ 31) : (nI a = 99) = (a = 99) := zeq (b := 99) h (by decide)
theorem zl100 {a : Nat} (h : a < 2 ^ 31) : (nI a < 100) = (a < 100) := zlt (b := 100) h (by decide)
theorem zg100 {a : Nat} (h : a < 2 ^ 31) : (100 < nI a) = (100 < a) := zlt (a := 100) (by decide) h
theorem zq100 {a : Nat} (h : a < 2 ^ 31) : (nI a = 100) = (a = 100) := zeq (b := 100) h (by decide)
theorem zl122 {a : Nat} (h : a < 2 ^ 31) : (nI a < 122) = (a < 122) := zlt (b := 122) h (by decide)
theorem zg122 {a : Nat} (h : a < 2 ^ 31) : (122 < nI a) = (122 < a) := zlt (a := 122) (by decide) h
theorem zq122 {a : Nat} (h : a < 2 ^ 31) : (nI a = 122) = (a = 122) := zeq (b := 122) h (by decide)
theorem zl126 {a : Nat} (h : a < 2 ^ 31) : (nI a < 126) = (a < 126) := zlt (b := 126) h (by decide)
theorem zg126 {a : Nat} (h : a < 2 ^ 31) : (126 < nI a) = (126 < a) := zlt (a := 126) (by decide) h
theorem zq126 {a : Nat} (h : a < 2 ^ 31) : (nI a = 126) = (a = 126) := zeq (b := 126) h (by decide)
theorem zl256 {a : Nat} (h : a < 2 ^ 31) : (nI a < 256) = (a < 256) := zlt (b := 256) h (by decide)
theorem zg256 {a : Nat} (h : a < 2 ^ 31) : (256 < nI a) = (256 < a) := zlt (a := 256) (by decide) h
theorem zq256 {a : Nat} (h : a < 2 ^ 31) : (nI a = 256) = (a = 256) := zeq (b := 256) h (by decide)
theorem zl257 {a : Nat} (h : a < 2 ^ 31) : (nI a < 257) = (a < 257) := zlt (b := 257) h (by decide)
theorem zg257 {a : Nat} (h : a < 2 ^ 31) : (257 < nI a) = (257 < a) := zlt (a := 257) (by decide) h
theorem zq257 {a : Nat} (h : a < 2 ^ 31) : (nI a = 257) = (a = 257) := zeq (b := 257) h (by decide)
theorem zl360 {a : Nat} (h : a < 2 ^ 31) : (nI a < 360) = (a < 360) := zlt (b := 360) h (by decide)
theorem zg360 {a : Nat} (h : a < 2 ^ 31) : (360 < nI a) = (360 < a) := zlt (a := 360) (by decide) h
theorem zq360 {a : Nat} (h : a < 2 ^ 31) : (nI a = 360) = (a = 360) := zeq (b := 360) h (by decide)
theorem zl400 {a : Nat} (h : a < 2 ^ 31) : (nI a < 400) = (a < 400) := zlt (b := 400) h (by decide)
theorem zg400 {a : Nat} (h : a < 2 ^ 31) : (400 < nI a) = (400 < a) := zlt (a := 400) (by decide) h
theorem zq400 {a : Nat} (h : a < 2 ^ 31) : (nI a = 400) = (a = 400) := zeq (b := 400) h (by decide)
theorem zl492 {a : Nat} (h : a < 2 ^ 31) : (nI a < 492) = (a < 492) := zlt (b := 492) h (by decide)
theorem zg492 {a : Nat} (h : a < 2 ^ 31) : (492 < nI a) = (492 < a) := zlt (a := 492) (by decide) h
theorem zq492 {a : Nat} (h : a < 2 ^ 31) : (nI a = 492) = (a = 492) := zeq (b := 492) h (by decide)
theorem zl520 {a : Nat} (h : a < 2 ^ 31) : (nI a < 520) = (a < 520) := zlt (b := 520) h (by decide)
theorem zg520 {a : Nat} (h : a < 2 ^ 31) : (520 < nI a) = (520 < a) := zlt (a := 520) (by decide) h
theorem zq520 {a : Nat} (h : a < 2 ^ 31) : (nI a = 520) = (a = 520) := zeq (b := 520) h (by decide)
theorem zl849 {a : Nat} (h : a < 2 ^ 31) : (nI a < 849) = (a < 849) := zlt (b := 849) h (by decide)
theorem zg849 {a : Nat} (h : a < 2 ^ 31) : (849 < nI a) = (849 < a) := zlt (a := 849) (by decide) h
theorem zq849 {a : Nat} (h : a < 2 ^ 31) : (nI a = 849) = (a = 849) := zeq (b := 849) h (by decide)
theorem zl999 {a : Nat} (h : a < 2 ^ 31) : (nI a < 999) = (a < 999) := zlt (b := 999) h (by decide)
theorem zg999 {a : Nat} (h : a < 2 ^ 31) : (999 < nI a) = (999 < a) := zlt (a := 999) (by decide) h
theorem zq999 {a : Nat} (h : a < 2 ^ 31) : (nI a = 999) = (a = 999) := zeq (b := 999) h (by decide)
theorem zl1341 {a : Nat} (h : a < 2 ^ 31) : (nI a < 1341) = (a < 1341) := zlt (b := 1341) h (by decide)
theorem zg1341 {a : Nat} (h : a < 2 ^ 31) : (1341 < nI a) = (1341 < a) := zlt (a := 1341) (by decide) h
theorem zq1341 {a : Nat} (h : a < 2 ^ 31) : (nI a = 1341) = (a = 1341) := zeq (b := 1341) h (by decide)
theorem zl1792 {a : Nat} (h : a < 2 ^ 31) : (nI a < 1792) = (a < 1792) := zlt (b := 1792) h (by decide)
theorem zg1792 {a : Nat} (h : a < 2 ^ 31) : (1792 < nI a) = (1792 < a) := zlt (a := 1792) (by decide) h
theorem zq1792 {a : Nat} (h : a < 2 ^ 31) : (nI a = 1792) = (a = 1792) := zeq (b := 1792) h (by decide)
theorem zl5412 {a : Nat} (h : a < 2 ^ 31) : (nI a < 5412) = (a < 5412) := zlt (b := 5412) h (by decide)
theorem zg5412 {a : Nat} (h : a < 2 ^ 31) : (5412 < nI a) = (5412 < a) := zlt (a := 5412) (by decide) h
theorem zq5412 {a : Nat} (h : a < 2 ^ 31) : (nI a = 5412) = (a = 5412) := zeq (b := 5412) h (by decide)
theorem tF {α : Type} {a b : α} [Decidable False] : (if (False : Prop) then a else b) = b := if_neg id
theorem tT {α : Type} {a b : α} [Decidable True] : (if (True : Prop) then a else b) = a := if_pos trivial
theorem ztl {a b : Nat} (h : a < b) : (a < b) = True := eq_true h
theorem zfl {a b : Nat} (h : ¬ a < b) : (a < b) = False := eq_false h
theorem ztle {a b : Nat} (h : a ≤ b) : (a ≤ b) = True := eq_true h
theorem zfle {a b : Nat} (h : ¬ a ≤ b) : (a ≤ b) = False := eq_false h
theorem zte {a b : Nat} (h : a = b) : (a = b) = True := eq_true h
theorem zfe {a b : Nat} (h : ¬ a = b) : (a = b) = False := eq_false h
theorem i10 : ((1 : Int32) = 0) = False := eq_false (by decide)
theorem i01 : ((0 : Int32) = 1) = False := eq_false (by decide)
theorem i00 : ((0 : Int32) < 0) = False := eq_false (by decide)
theorem im1 : ((-1 : Int32) < 0) = True := eq_true (by decide)
theorem zgF {α : Type} {b : Option α} [Decidable (¬ False)] : gd (¬ False) b = b := gdT (fun q => q)
theorem zgl6 {α : Type} {b : Option α} [Decidable (ix 6 9)] : gd (ix 6 9) b = b := gdT (show ix (nI 6) 9 from nI_ix (by decide) (by decide))
theorem zft : (false = true) = False := eq_false (fun q => by cases q)
theorem s11 (t : Nat) : t - 1 - 1 = t - 2 := by omega
theorem tff {α : Type} {a b : α} : (if false = true then a else b) = b := if_neg (fun q => by cases q)
theorem ttt {α : Type} {a b : α} : (if true = true then a else b) = a := if_pos rfl
/-- (proofs that are not rfl: what simp does by rfl, the kernel must find again) -/
theorem zbn {α β : Type} (e : α) (f : α → β) : bnd e f = f e := Eq.trans (rfl : bnd e f = bnd e f) (bnd_eq e f)
theorem zob {α β : Type} {a : α} {f : α → Option β} : Option.bind (some a) f = f a := Eq.trans (rfl : Option.bind (some a) f = Option.bind (some a) f) obS
theorem ix64 (a b : Nat) : nI a * 8 + nI b = nI (8 * a + b) := by
  rw [li8, zmul, zadd, Nat.mul_comm]
theorem b2i_bI (b : Bool) : b2i b = bI b := rfl
theorem toB0 : toB 0 = some false := rfl
theorem toB1 : toB 1 = some true := rfl
theorem bI0 (b : Bool) : (bI b = 0) = (b = false) := by cases b <;> exact propext (by decide)
theorem bI1 (b : Bool) : (bI b = 1) = (b = true) := by cases b <;> exact propext (by decide)
/-! bits -/
def tb (x : Int32) (k : Nat) : Bool := x.toBitVec.getLsbD k
theorem tb_ext {x y : Int32} (h : ∀ k, k < 32 → tb x k = tb y k) : x = y := by
  apply Int32.toBitVec_inj.mp
  exact BitVec.eq_of_getLsbD_eq fun k hk => h k hk
theorem tb_0 (k : Nat) : tb 0 k = false := by
  show (0#32 : BitVec 32).getLsbD k = false
  exact BitVec.getLsbD_zero
theorem tb_or (x y : Int32) (k : Nat) : tb (x ||| y) k = (tb x k || tb y k) := by
  unfold tb; rw [Int32.toBitVec_or, BitVec.getLsbD_or]
theorem tb_and (x y : Int32) (k : Nat) : tb (x &&& y) k = (tb x k && tb y k) := by
  unfold tb; rw [Int32.toBitVec_and, BitVec.getLsbD_and]
theorem tb_xor (x y : Int32) (k : Nat) : tb (x ^^^ y) k = (tb x k ^^ tb y k) := by
  unfold tb; rw [Int32.toBitVec_xor, BitVec.getLsbD_xor]
theorem tb_m1 {k : Nat} (h : k < 32) : tb (-1) k = true :=
  (show ∀ k, k < 32 → tb (-1) k = true by decide +kernel) k h
theorem tb_not {x : Int32} {k : Nat} (h : k < 32) : tb (x ^^^ (-1)) k = !tb x k := by
  rw [tb_xor, tb_m1 h]; cases tb x k <;> rfl
theorem tb_s1 {i k : Nat} (hi : i < 32) (hk : k < 32) : tb (shl 1 (nI i)) k = decide (k = i) :=
  (show ∀ i, i < 32 → ∀ k, k < 32 → tb (shl 1 (nI i)) k = decide (k = i) by decide +kernel) i hi k hk
theorem sm_i {i : Nat} (hi : i < 32) : ((nI i &&& 31).toBitVec.smod 32).toNat = i :=
  (show ∀ i, i < 32 → ((nI i &&& 31).toBitVec.smod 32).toNat = i by decide +kernel) i hi
theorem one_tb (k : Nat) : tb 1 k = decide (k = 0) := by
  by_cases h : k < 32
  · exact (show ∀ k, k < 32 → tb 1 k = decide (k = 0) by decide +kernel) k h
  · rw [show tb 1 k = false from BitVec.getLsbD_of_ge _ _ (by omega), decide_eq_false (by omega)]
theorem and1_tb (x : Int32) : (x &&& 1 = 1) = (tb x 0 = true) := by
  apply propext
  constructor
  · intro h
    have := congrArg (fun y => tb y 0) h
    simp only [tb_and, one_tb, decide_true, Bool.and_true] at this
    exact this
  · intro h
    apply tb_ext
    intro k _
    rw [tb_and, one_tb]
    by_cases c : k = 0
    · rw [c, h]; rfl
    · rw [decide_eq_false c, Bool.and_false]
theorem shr_tb {x : Int32} {i : Nat} (hi : i < 32) : (shr x (nI i) &&& 1 = 1) = (tb x i = true) := by
  rw [and1_tb]
  unfold shr tb
  rw [Int32.toBitVec_shiftRight]
  show ((x.toBitVec.sshiftRight ((nI i &&& 31).toBitVec.smod 32).toNat).getLsbD 0 = true) = _
  rw [sm_i hi, BitVec.getLsbD_sshiftRight, if_pos (by omega), Nat.add_zero]
  rfl
theorem shr_tb0 {x : Int32} {i : Nat} (hi : i < 32) : (shr x (nI i) &&& 1 = 0) = (tb x i = false) := by
  have h := shr_tb (x := x) hi
  obtain ⟨j, hj, e⟩ := pk_andE (shr x (nI i)) (m := 1) 1 (by decide)
  rw [e] at h ⊢
  have hj2 : j = 0 ∨ j = 1 := by omega
  rcases hj2 with rfl | rfl
  · have : ¬ tb x i = true := by rw [← h]; decide
    rw [eq_true (show nI 0 = 0 from rfl)]
    exact (eq_true (by cases hb : tb x i with | false => rfl | true => exact absurd hb this)).symm
  · have : tb x i = true := by rw [← h]; decide
    rw [this]
    exact propext ⟨fun q => absurd q (by decide), fun q => absurd q (by decide)⟩
theorem hasB_tb {x : Int32} {i : Nat} (hi : i < 32) : hasB x (nI i) = tb x i := by
  unfold hasB
  rw [Bool.eq_iff_iff, decide_eq_true_iff, shr_tb hi]
theorem orTo_tb (p : Nat → Bool) : ∀ n, n ≤ 32 → ∀ k, k < 32 → tb (orTo p n) k = (decide (k < n) && p k)
  | 0, _, k, _ => by
    rw [show orTo p 0 = 0 from rfl, tb_0, decide_eq_false (by omega), Bool.false_and]
  | n + 1, hn, k, hk => by
    rw [orTo_succ, tb_or, orTo_tb p n (by omega) k hk]
    by_cases c : k = n
    · subst c
      rw [decide_eq_false (Nat.lt_irrefl k), decide_eq_true (Nat.lt_succ_self k), Bool.false_and, Bool.false_or, Bool.true_and]
      cases p k
      · exact tb_0 k
      · show tb (shl 1 (nI k)) k = true
        rw [tb_s1 (by omega) hk, decide_eq_true rfl]
    · have e : tb (if p n = true then shl 1 (nI n) else 0) k = false := by
        split
        · rw [tb_s1 (by omega) hk, decide_eq_false c]
        · exact tb_0 k
      rw [e, Bool.or_false, show decide (k < n + 1) = decide (k < n) from decide_eq_decide.mpr (by omega)]
theorem orTo_congr {p q : Nat → Bool} : ∀ n, (∀ k, k < n → p k = q k) → orTo p n = orTo q n
  | 0, _ => rfl
  | n + 1, h => by rw [orTo_succ, orTo_succ, orTo_congr n (fun k hk => h k (by omega)), h n (by omega)]
theorem orTo_eq {p q : Nat → Bool} {n m : Nat} (hn : n ≤ 32) (hm : m ≤ 32) (h : ∀ k, k < 32 → (decide (k < n) && p k) = (decide (k < m) && q k)) : orTo p n = orTo q m :=
  tb_ext fun k hk => by rw [orTo_tb p n hn k hk, orTo_tb q m hm k hk, h k hk]
theorem orTo_8 {p : Nat → Bool} {n : Nat} (h8 : n ≤ 8) : orTo p n = orTo (fun i => decide (i < n) && p i) 8 :=
  orTo_eq (by omega) (by omega) fun k _ => by
    by_cases c : k < n
    · rw [decide_eq_true c, decide_eq_true (by omega)]; simp
    · rw [decide_eq_false c]; simp
/-- of 8 -/
theorem tb8 {p : Nat → Bool} {k : Nat} (hk : k < 8) : tb (orTo p 8) k = p k := by
  rw [orTo_tb p 8 (by omega) k (by omega), decide_eq_true hk, Bool.true_and]
theorem tb_8hi {p : Nat → Bool} {k : Nat} (h : 8 ≤ k) (hk : k < 32) : tb (orTo p 8) k = false := by
  rw [orTo_tb p 8 (by omega) k hk, decide_eq_false (by omega), Bool.false_and]
def cnt (p : Nat → Bool) : Nat → Nat
  | 0 => 0
  | j + 1 => cnt p j + (if p j then 1 else 0)
theorem cnt_le (p : Nat → Bool) : ∀ n, cnt p n ≤ n
  | 0 => Nat.le_refl 0
  | n + 1 => by
    show cnt p n + (if p n then 1 else 0) ≤ n + 1
    have := cnt_le p n
    split <;> omega
theorem cnt_congr {p q : Nat → Bool} : ∀ n, (∀ k, k < n → p k = q k) → cnt p n = cnt q n
  | 0, _ => rfl
  | n + 1, h => by
    show cnt p n + (if p n then 1 else 0) = cnt q n + (if q n then 1 else 0)
    rw [cnt_congr n (fun k hk => h k (by omega)), h n (by omega)]
/-- the set as a number -/
def stN (p : Nat → Bool) : Nat → Nat
  | 0 => 0
  | j + 1 => stN p j + (if p j then 2 ^ j else 0)
theorem orTo_stN (p : Nat → Bool) : orTo p 8 = nI (stN p 8) := by
  unfold orTo orTo orTo orTo orTo orTo orTo orTo orTo stN stN stN stN stN stN stN stN stN
  generalize p 0 = b0, p 1 = b1, p 2 = b2, p 3 = b3, p 4 = b4, p 5 = b5, p 6 = b6, p 7 = b7
  revert b0 b1 b2 b3 b4 b5 b6 b7
  decide +kernel
theorem bcount8 (p : Nat → Bool) (h : Hp) : f_J6_bitCount_0f7a4 (orTo p 8) h = nI (cnt p 8) := by
  unfold f_J6_bitCount_0f7a4 orTo orTo orTo orTo orTo orTo orTo orTo orTo cnt cnt cnt cnt cnt cnt cnt cnt cnt
  generalize p 0 = b0, p 1 = b1, p 2 = b2, p 3 = b3, p 4 = b4, p 5 = b5, p 6 = b6, p 7 = b7
  revert b0 b1 b2 b3 b4 b5 b6 b7
  unfold bnd
  decide +kernel
