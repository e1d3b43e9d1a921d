/-! LAYER 4. texts: the lexers of both sides -/
def rE (p : Nat → Bool) (L : Nat) : Nat → Nat → Nat
  | 0, i => i
  | k + 1, i => if decide (i < L) && p i then rE p L k (i + 1) else i
def rn (p : Nat → Bool) (L i : Nat) : Nat := rE p L (L - i) i
section RN
variable {p : Nat → Bool} {L i j : Nat}
theorem rn_t (h : i < L) (x : p i = true) : rn p L i = rn p L (i + 1) := by
  unfold rn
  obtain ⟨k, hk⟩ : ∃ k, L - i = k + 1 := ⟨L - i - 1, by omega⟩
  rw [hk, show L - (i + 1) = k by omega]
  show (if decide (i < L) && p i then rE p L k (i + 1) else i) = _
  rw [decide_eq_true h, x]; rfl
theorem rn_f (h : L ≤ i ∨ p i = false) : rn p L i = i := by
  unfold rn
  rcases hk : L - i with _ | k
  · rfl
  · show (if decide (i < L) && p i then rE p L k (i + 1) else i) = _
    rcases h with h | h
    · omega
    · rw [h, Bool.and_false]; rfl
theorem rn_ind (P : Nat → Prop) (h1 : ∀ i, i < L → p i = true → P (i + 1) → P i) (h2 : ∀ i, (L ≤ i ∨ p i = false) → P i) : ∀ i, P i := by
  have K : ∀ k i, L - i = k → P i := by
    intro k
    induction k with
    | zero => intro i hi; exact h2 i (Or.inl (by omega))
    | succ k ih =>
      intro i hi
      cases c : p i
      · exact h2 i (Or.inr c)
      · exact h1 i (by omega) c (ih (i + 1) (by omega))
  exact fun i => K _ i rfl
theorem rn_le : i ≤ rn p L i := rn_ind (p := p) (L := L) (fun i => i ≤ rn p L i) (fun i h x q => by rw [rn_t h x]; omega) (fun i h => by rw [rn_f h]; exact Nat.le_refl i) i
theorem rn_L : i ≤ L → rn p L i ≤ L := rn_ind (p := p) (L := L) (fun i => i ≤ L → rn p L i ≤ L) (fun i h x q _ => by rw [rn_t h x]; exact q (by omega)) (fun i h z => by rw [rn_f h]; exact z) i
theorem rn_end : i ≤ L → rn p L i < L → p (rn p L i) = false := rn_ind (p := p) (L := L) (fun i => i ≤ L → rn p L i < L → p (rn p L i) = false) (fun i h x q _ => by rw [rn_t h x]; exact q (by omega)) (fun i h z => by
  rw [rn_f h]
  intro y
  rcases h with h | h
  · omega
  · exact h) i
theorem rn_all : ∀ j, i ≤ j → j < rn p L i → j < L ∧ p j = true := rn_ind (p := p) (L := L) (fun i => ∀ j, i ≤ j → j < rn p L i → j < L ∧ p j = true) (fun i h x q j a b => by
  rw [rn_t h x] at b
  by_cases c : j = i
  · rw [c]; exact ⟨h, x⟩
  · exact q j (by omega) b) (fun i h j a b => by rw [rn_f h] at b; omega) i
theorem rn_mid : ∀ j, i ≤ j → j ≤ rn p L i → rn p L j = rn p L i := rn_ind (p := p) (L := L) (fun i => ∀ j, i ≤ j → j ≤ rn p L i → rn p L j = rn p L i) (fun i h x q j a b => by
  by_cases c : j = i
  · rw [c]
  · rw [rn_t h x] at b ⊢
    exact q j (by omega) b) (fun i h j a b => by
  rw [rn_f h] at b ⊢
  obtain rfl : j = i := by omega
  exact rn_f h) i
end RN
/-- a loop that runs to the end of a run -/
theorem loopRn {T R Z : Type} (S : T → T) (z : T) (ap : T → Z → R) {p : Nat → Bool} {L i : Nat} (hL : L ≤ 400) (hi : i ≤ L) (P : Nat → Z → Prop) (Q : R → Prop)
    (hs : ∀ x s, i ≤ x → x < L → p x = true → P x s → ∃ s', P (x + 1) s' ∧ ∀ q : T, ap (S q) s = ap q s')
    (he : ∀ s, P (rn p L i) s → ∃ r, Q r ∧ ∀ q : T, ap (S q) s = r) :
    ∀ s, P i s → Q (ap (Nat.rec (motive := fun _ => T) z (fun _ q => S q) FU) s) := by
  intro s hp
  refine loopV S z ap (L + 1) (fun j s => i + j ≤ rn p L i ∧ P (i + j) s) Q (by omega) (fun j s hj hs' => ?_) (fun s hs' => ?_) s ⟨rn_le, hp⟩
  · obtain ⟨a, b⟩ := hs'
    by_cases c : i + j = rn p L i
    · rw [c] at b
      exact Or.inr (he s b)
    · have ⟨x, y⟩ := rn_all (p := p) (L := L) (i := i) (i + j) (by omega) (by omega)
      obtain ⟨s', u, v⟩ := hs (i + j) s (by omega) x y b
      exact Or.inl ⟨s', ⟨by omega, u⟩, v⟩
  · have := rn_L (p := p) (L := L) (i := i) hi
    omega
section LX
variable {b : Nat → Nat} {L : Nat}
def blB (b : Nat → Nat) (i : Nat) : Bool := decide (b i = 32)
def ltB (b : Nat → Nat) (i : Nat) : Bool := decide (97 ≤ b i) && decide (b i ≤ 122)
def fgB (b : Nat → Nat) (i : Nat) : Bool := decide (48 ≤ b i) && decide (b i ≤ 57)
def skN (b : Nat → Nat) (L i : Nat) : Nat := rn (blB b) L i
def wEn (b : Nat → Nat) (L i : Nat) : Nat := rn (ltB b) L i
def dEn (b : Nat → Nat) (L i : Nat) : Nat := rn (fgB b) L i
def edN (b : Nat → Nat) (L f : Nat) : Nat := if f < L then (if ltB b f then wEn b L f else if fgB b f then dEn b L f else f + 1) else f
def nxN (b : Nat → Nat) (L f : Nat) : Nat := skN b L (edN b L f)
def kdI (b : Nat → Nat) (L f : Nat) : Int32 := if f < L then (if ltB b f then 256 else if fgB b f then 257 else nI (b f)) else -1
def vcN (b : Nat → Nat) (lo f : Nat) : Nat → Nat
  | 0 => 0
  | j + 1 => min 1000 (vcN b lo f j * 10 + b (f + j) - lo)
theorem vc_b {lo f : Nat} : ∀ j, vcN b lo f j ≤ 1000
  | 0 => by show (0 : Nat) ≤ 1000; omega
  | j + 1 => by show min 1000 _ ≤ 1000; omega
theorem ed_le {f : Nat} : f ≤ edN b L f := by
  unfold edN wEn dEn
  split
  · split
    · exact rn_le
    · split
      · exact rn_le
      · omega
  · omega
theorem ed_L {f : Nat} (hf : f ≤ L) : edN b L f ≤ L := by
  unfold edN wEn dEn
  split
  · split
    · exact rn_L hf
    · split
      · exact rn_L hf
      · omega
  · omega
theorem nx_L {f : Nat} (hf : f ≤ L) : nxN b L f ≤ L := rn_L (ed_L hf)
theorem sk_L {f : Nat} (hf : f ≤ L) : skN b L f ≤ L := rn_L hf
/-- the bytes -/
def LXc (b : Nat → Nat) (L : Nat) (u : Hp) : Prop := L ≤ 400 ∧ u 2 1 = nI L ∧ ∀ i, i < L → b i < 256 ∧ u 3 i = nI (b i)
def LXm (b : Nat → Nat) (L : Nat) (g : Hp) : Prop := L ≤ 400 ∧ g 30 13 = nI L ∧ ∀ i, i < L → b i < 256 ∧ g 38 i = byS (b i)
/-- the thing that comes next -/
def TKc (b : Nat → Nat) (L f : Nat) (u : Hp) : Prop := f ≤ L ∧ u 2 3 = nI f ∧ u 2 4 = nI (edN b L f) ∧ u 2 5 = kdI b L f ∧ (f < L → fgB b f = true → u 2 6 = nI (vcN b 48 f (dEn b L f - f)))
/-- fields of the tape that a step changes -/
def FRc (u u' : Hp) : Prop := (∀ k, k ≠ 2 → u' k = u k) ∧ u' 2 1 = u 2 1 ∧ u' 2 2 = u 2 2
theorem FRc_refl (u : Hp) : FRc u u := ⟨fun _ _ => rfl, rfl, rfl⟩
theorem FRc_trans {a c d : Hp} (x : FRc a c) (y : FRc c d) : FRc a d := ⟨fun k hk => (y.1 k hk).trans (x.1 k hk), y.2.1.trans x.2.1, y.2.2.trans x.2.2⟩
theorem FRc_LX {u u' : Hp} (F : FRc u u') (X : LXc b L u) : LXc b L u' := ⟨X.1, by rw [F.2.1]; exact X.2.1, fun i hi => by rw [F.1 3 (by decide)]; exact X.2.2 i hi⟩
theorem FR1 {u : Hp} {i : Nat} {v : Int32} (h : 3 ≤ i) : FRc u (up1 u 2 i v) := ⟨fun k hk => up1_ob hk, by rw [up1_at, upd_ob (by omega)], by rw [up1_at, upd_ob (by omega)]⟩
theorem c_173 {lo hi f : Nat} {v : Hp} (hb : ∀ i, f ≤ i → i < L → lo ≤ b i ∨ b i < 256) (X : LXc b L v) (hf : f ≤ L) (hlo : lo ≤ 122) (hhi : hi ≤ 122) (h6 : v 2 6 = 0) :
    ∃ v', F_X10_step_173 (nI L) (nI lo) (nI hi) FU (nI f) v = some v' ∧ v' 2 4 = nI (rn (fun i => decide (lo ≤ b i) && decide (b i ≤ hi)) L f) ∧ v' 2 6 = nI (vcN b lo f (rn (fun i => decide (lo ≤ b i) && decide (b i ≤ hi)) L f - f)) ∧ v' 2 3 = v 2 3 ∧ v' 2 5 = v 2 5 ∧ FRc v v' := by
  have Q := loopRn (S_X10_step_173 (nI L) (nI lo) (nI hi)) (fun _ _ => none) (fun q (s : Nat × Hp) => q (nI s.1) s.2) (p := fun i => decide (lo ≤ b i) && decide (b i ≤ hi)) X.1 hf (fun x s => s.1 = x ∧ f ≤ x ∧ s.2 2 6 = nI (vcN b lo f (x - f)) ∧ s.2 2 3 = v 2 3 ∧ s.2 2 5 = v 2 5 ∧ FRc v s.2)
    (fun r => ∃ v', r = some v' ∧ v' 2 4 = nI (rn (fun i => decide (lo ≤ b i) && decide (b i ≤ hi)) L f) ∧ v' 2 6 = nI (vcN b lo f (rn (fun i => decide (lo ≤ b i) && decide (b i ≤ hi)) L f - f)) ∧ v' 2 3 = v 2 3 ∧ v' 2 5 = v 2 5 ∧ FRc v v') (fun x s hx hxL hp hs => ?_) (fun s hs => ?_) (f, v) ⟨rfl, Nat.le_refl f, by dsimp only; rw [h6, Nat.sub_self]; rfl, rfl, rfl, FRc_refl v⟩
  · exact Q
  · obtain ⟨x', u⟩ := s
    dsimp only at hs
    obtain ⟨rfl, fx, u6, u3, u5, F⟩ := hs
    have ⟨p1, p2⟩ := Bool.and_eq_true_iff.mp hp
    have p1 : lo ≤ b x' := of_decide_eq_true p1
    have p2 : b x' ≤ hi := of_decide_eq_true p2
    have ⟨b1, b2⟩ := (FRc_LX F X).2.2 x' hxL
    have vb := vc_b (b := b) (lo := lo) (f := f) (x' - f)
    have X4 := X.1
    refine ⟨(x' + 1, up1 u 2 6 (nI (vcN b lo f (x' + 1 - f)))), ⟨rfl, by omega, by dsimp only; exact up1_same, by dsimp only; rw [up1_at, upd_ob (by decide), u3], by dsimp only; rw [up1_at, upd_ob (by decide), u5], FRc_trans F (FR1 (by omega))⟩, fun q => ?_⟩
    show S_X10_step_173 (nI L) (nI lo) (nI hi) q (nI x') u = q (nI (x' + 1)) (up1 u 2 6 (nI (vcN b lo f (x' + 1 - f))))
    have ev : vcN b lo f (x' + 1 - f) = min 1000 (vcN b lo f (x' - f) * 10 + b x' - lo) := by
      rw [show x' + 1 - f = (x' - f) + 1 by omega]
      show min 1000 (vcN b lo f (x' - f) * 10 + b (f + (x' - f)) - lo) = _
      rw [show f + (x' - f) = x' by omega]
    unfold S_X10_step_173
    rw [if_pos ((nI_ltI (by omega) (by omega)).mpr hxL), gdT (nI_ix (by omega) (by omega)), gdT (nI_ix (by omega) (by omega)), gdT (nI_ix (by omega) (by omega)), nI_clamp (by omega), b2, if_neg (fun z => absurd ((nI_ltI (by omega) (by omega)).mp z) (by omega)), if_neg (fun z => absurd ((nI_ltI (by omega) (by omega)).mp z) (by omega)), u6, bnd_eq, show (10 : Int32) = nI 10 from rfl, zmul, zadd, zsub (by omega), show (1000 : Int32) = nI 1000 from rfl, zmin (by omega) (by omega), ← ev, nI_1]
  · obtain ⟨x', u⟩ := s
    dsimp only at hs
    obtain ⟨hx', fx, u6, u3, u5, F⟩ := hs
    have X4 := X.1
    have rL := rn_L (p := fun i => decide (lo ≤ b i) && decide (b i ≤ hi)) hf
    have re := rn_end (p := fun i => decide (lo ≤ b i) && decide (b i ≤ hi)) hf
    rw [← hx'] at rL re fx u6 ⊢
    refine ⟨_, ⟨up1 u 2 4 (nI x'), rfl, up1_same, by rw [up1_at, upd_ob (by decide), u6], by rw [up1_at, upd_ob (by decide), u3], by rw [up1_at, upd_ob (by decide), u5], FRc_trans F (FR1 (by omega))⟩, fun q => ?_⟩
    show S_X10_step_173 (nI L) (nI lo) (nI hi) q (nI x') u = some (up1 u 2 4 (nI x'))
    unfold S_X10_step_173 F_X10_step_241
    rw [bnd_eq]
    by_cases c : x' < L
    · have ⟨b1, b2⟩ := (FRc_LX F X).2.2 x' c
      have z := re c
      have b3 : u 3 (nI x').toNatClampNeg = nI (b x') := by rw [nI_clamp (by omega)]; exact b2
      rw [if_pos ((nI_ltI (by omega) (by omega)).mpr c), gdT (nI_ix (by omega) (by omega)), gdT (nI_ix (by omega) (by omega)), b3]
      by_cases d : b x' < lo
      · rw [if_pos ((nI_ltI (by omega) (by omega)).mpr d)]
      · rw [if_neg (fun y => d ((nI_ltI (by omega) (by omega)).mp y))]
        have : hi < b x' := by
          rw [decide_eq_true (show lo ≤ b x' by omega), Bool.true_and, decide_eq_false_iff_not] at z
          omega
        rw [if_pos ((nI_ltI (by omega) (by omega)).mpr this)]
    · rw [if_neg (fun y => c ((nI_ltI (by omega) (by omega)).mp y))]
theorem c_step44 {f : Nat} {u : Hp} (X : LXc b L u) (hf : f ≤ L) : ∃ u', F_X10_step_44 (nI L) (nI f) u = some u' ∧ TKc b L f u' ∧ FRc u u' := by
  have X4 := X.1
  obtain ⟨v, hv⟩ : ∃ v, up1 u 2 3 (nI f) = v := ⟨_, rfl⟩
  have v3 : v 2 3 = nI f := by rw [← hv, up1_same]
  have Fv : FRc u v := by rw [← hv]; exact FR1 (by omega)
  unfold F_X10_step_44
  rw [bnd_eq, hv]
  by_cases c : f < L
  · have ⟨b1, b2⟩ := (FRc_LX Fv X).2.2 f c
    rw [if_pos ((nI_ltI (by omega) (by omega)).mpr c), gdT (nI_ix (by omega) (by omega)), nI_clamp (by omega), b2]
    unfold F_X10_step_64 F_X10_step_82 F_X10_step_101 F_X10_step_115 F_X10_step_129 F_X10_step_155
    by_cases w : ltB b f = true
    · have ⟨w1, w2⟩ := Bool.and_eq_true_iff.mp w
      have w1 : 97 ≤ b f := of_decide_eq_true w1
      have w2 : b f ≤ 122 := of_decide_eq_true w2
      have nf : fgB b f = false := by unfold fgB; rw [decide_eq_false (show ¬ b f ≤ 57 by omega), Bool.and_false]
      obtain ⟨t, ht⟩ : ∃ t, up1 (up1 v 2 5 256) 2 6 0 = t := ⟨_, rfl⟩
      have Ft : FRc u t := FRc_trans Fv (by rw [← ht]; exact FRc_trans (FR1 (by omega)) (FR1 (by omega)))
      obtain ⟨r, e1, r4, r6, r3, r5, Fr⟩ := c_173 (lo := 97) (hi := 122) (f := f) (v := t) (fun i _ h => Or.inr ((FRc_LX Ft X).2.2 i h).1) (FRc_LX Ft X) hf (by omega) (by omega) (by rw [← ht, up1_same])
      refine ⟨r, ?_, ⟨hf, by rw [r3, ← ht, up1_at, upd_ob (by decide), up1_at, upd_ob (by decide), v3], ?_, ?_, fun _ z => ?_⟩, FRc_trans Ft Fr⟩
      · rw [if_neg (show ¬ nI (b f) < 97 from fun z => absurd ((nI_ltI (b := 97) (by omega) (by omega)).mp z) (by omega)), if_neg (show ¬ 122 < nI (b f) from fun z => absurd ((nI_ltI (a := 122) (by omega) (by omega)).mp z) (by omega)), if_neg (show ¬ nI (b f) < 48 from fun z => absurd ((nI_ltI (b := 48) (by omega) (by omega)).mp z) (by omega)), if_pos (show 57 < nI (b f) from (nI_ltI (a := 57) (by omega) (by omega)).mpr (by omega))]
        rw [if_neg (show ¬ (1 : Int32) = 0 by decide), if_neg (show ¬ (1 : Int32) = 0 by decide), if_neg (show ¬ (1 : Int32) = 0 by decide), bnd_eq, bnd_eq, if_neg (show ¬ (1 : Int32) = 0 by decide), ht]
        exact e1
      · rw [r4]
        unfold edN
        rw [if_pos c, if_pos w]; rfl
      · rw [r5, ← ht, up1_at, upd_ob (by decide), up1_same]
        unfold kdI
        rw [if_pos c, if_pos w]
      · rw [nf] at z; exact Bool.noConfusion z
    · have w' : ¬ (97 ≤ b f ∧ b f ≤ 122) := fun q => w (by unfold ltB; rw [decide_eq_true q.1, decide_eq_true q.2]; rfl)
      have nw : ∀ A B C : Option Hp, (if nI (b f) < 97 then A else if 122 < nI (b f) then A else C) = A := fun A B C => by
        by_cases d : b f < 97
        · rw [if_pos (show nI (b f) < 97 from (nI_ltI (b := 97) (by omega) (by omega)).mpr d)]
        · rw [if_neg (show ¬ nI (b f) < 97 from fun z => d ((nI_ltI (b := 97) (by omega) (by omega)).mp z)), if_pos (show 122 < nI (b f) from (nI_ltI (a := 122) (by omega) (by omega)).mpr (by omega))]
      rw [nw _ none _]
      by_cases d : fgB b f = true
      · have ⟨w1, w2⟩ := Bool.and_eq_true_iff.mp d
        have w1 : 48 ≤ b f := of_decide_eq_true w1
        have w2 : b f ≤ 57 := of_decide_eq_true w2
        obtain ⟨t, ht⟩ : ∃ t, up1 (up1 v 2 5 257) 2 6 0 = t := ⟨_, rfl⟩
        have Ft : FRc u t := FRc_trans Fv (by rw [← ht]; exact FRc_trans (FR1 (by omega)) (FR1 (by omega)))
        obtain ⟨r, e1, r4, r6, r3, r5, Fr⟩ := c_173 (lo := 48) (hi := 57) (f := f) (v := t) (fun i _ h => Or.inr ((FRc_LX Ft X).2.2 i h).1) (FRc_LX Ft X) hf (by omega) (by omega) (by rw [← ht, up1_same])
        refine ⟨r, ?_, ⟨hf, by rw [r3, ← ht, up1_at, upd_ob (by decide), up1_at, upd_ob (by decide), v3], ?_, ?_, fun _ z => r6⟩, FRc_trans Ft Fr⟩
        · rw [if_neg (show ¬ nI (b f) < 48 from fun z => absurd ((nI_ltI (b := 48) (by omega) (by omega)).mp z) (by omega)), if_neg (show ¬ 57 < nI (b f) from fun z => absurd ((nI_ltI (a := 57) (by omega) (by omega)).mp z) (by omega))]
          rw [if_pos (rfl : (0 : Int32) = 0), if_pos (rfl : (0 : Int32) = 0), if_pos (rfl : (0 : Int32) = 0), if_neg (show ¬ (1 : Int32) = 0 by decide), bnd_eq, bnd_eq, if_pos (rfl : (0 : Int32) = 0), if_neg (show ¬ (1 : Int32) = 0 by decide), ht]
          exact e1
        · rw [r4]
          unfold edN
          rw [if_pos c, if_neg w, if_pos d]; rfl
        · rw [r5, ← ht, up1_at, upd_ob (by decide), up1_same]
          unfold kdI
          rw [if_pos c, if_neg w, if_pos d]
      · have d' : ¬ (48 ≤ b f ∧ b f ≤ 57) := fun q => d (by unfold fgB; rw [decide_eq_true q.1, decide_eq_true q.2]; rfl)
        have nd : ∀ A B C : Option Hp, (if nI (b f) < 48 then A else if 57 < nI (b f) then A else C) = A := fun A B C => by
          by_cases y : b f < 48
          · rw [if_pos (show nI (b f) < 48 from (nI_ltI (b := 48) (by omega) (by omega)).mpr y)]
          · rw [if_neg (show ¬ nI (b f) < 48 from fun z => y ((nI_ltI (b := 48) (by omega) (by omega)).mp z)), if_pos (show 57 < nI (b f) from (nI_ltI (a := 57) (by omega) (by omega)).mpr (by omega))]
        rw [nd _ none _]
        refine ⟨up1 (up1 (up1 v 2 5 (nI (b f))) 2 6 0) 2 4 (nI (f + 1)), ?_, ⟨hf, by rw [up1_at, upd_ob (by decide), up1_at, upd_ob (by decide), up1_at, upd_ob (by decide), v3], ?_, ?_, fun _ z => absurd z d⟩, FRc_trans Fv (FRc_trans (FR1 (by omega)) (FRc_trans (FR1 (by omega)) (FR1 (by omega))))⟩
        · rw [if_pos (rfl : (0 : Int32) = 0), if_pos (rfl : (0 : Int32) = 0), if_pos (rfl : (0 : Int32) = 0), if_pos (rfl : (0 : Int32) = 0), bnd_eq, bnd_eq, if_pos (rfl : (0 : Int32) = 0), if_pos (rfl : (0 : Int32) = 0), if_pos ((nI_ltI (by omega) (by omega)).mpr c), nI_1]
          unfold F_X10_step_241
          rw [bnd_eq]
        · rw [up1_same]
          unfold edN
          rw [if_pos c, if_neg w, if_neg d]
        · rw [up1_at, upd_ob (by decide), up1_at, upd_ob (by decide), up1_same]
          unfold kdI
          rw [if_pos c, if_neg w, if_neg d]
  · rw [if_neg (fun y => c ((nI_ltI (by omega) (by omega)).mp y))]
    refine ⟨up1 (up1 (up1 v 2 5 (-1)) 2 6 0) 2 4 (nI f), ?_, ⟨hf, by rw [up1_at, upd_ob (by decide), up1_at, upd_ob (by decide), up1_at, upd_ob (by decide), v3], ?_, ?_, fun z => absurd z c⟩, FRc_trans Fv (FRc_trans (FR1 (by omega)) (FRc_trans (FR1 (by omega)) (FR1 (by omega))))⟩
    · unfold F_X10_step_64 F_X10_step_82 F_X10_step_101 F_X10_step_115 F_X10_step_129 F_X10_step_155 F_X10_step_241
      rw [if_pos (show (-1 : Int32) < 97 by decide), if_pos (show (-1 : Int32) < 48 by decide), if_pos (rfl : (0 : Int32) = 0), if_pos (rfl : (0 : Int32) = 0), if_pos (rfl : (0 : Int32) = 0), if_pos (rfl : (0 : Int32) = 0), bnd_eq, bnd_eq, if_pos (rfl : (0 : Int32) = 0), if_pos (rfl : (0 : Int32) = 0), if_neg (fun y => c ((nI_ltI (by omega) (by omega)).mp y)), bnd_eq]
    · rw [up1_same]
      unfold edN
      rw [if_neg c]
    · rw [up1_at, upd_ob (by decide), up1_at, upd_ob (by decide), up1_same]
      unfold kdI
      rw [if_neg c]
theorem c_step {i : Nat} {u : Hp} (X : LXc b L u) (hi : i ≤ L) (h4 : u 2 4 = nI i) : ∃ u', f_X10_step u = some u' ∧ TKc b L (skN b L i) u' ∧ FRc u u' := by
  have X4 := X.1
  have Q := loopRn (S_X10_step_22 (nI L)) (fun _ _ => none) (fun q (s : Nat) => q (nI s) u) (p := blB b) X.1 hi (fun x s => s = x)
    (fun r => ∃ u', r = some u' ∧ TKc b L (skN b L i) u' ∧ FRc u u') (fun x s hx hxL hp hs => ?_) (fun s hs => ?_) i rfl
  · unfold f_X10_step
    rw [bnd_eq, bnd_eq, X.2.1, h4, show (400 : Int32) = nI 400 from rfl, zmin (by omega) (by omega), show (0 : Int32) = nI 0 from rfl, zmax (by omega) (by omega), show min L 400 = L by omega, show max 0 i = i by omega]
    exact Q
  · obtain rfl : s = x := hs
    have ⟨b1, b2⟩ := X.2.2 s hxL
    refine ⟨s + 1, rfl, fun q => ?_⟩
    show S_X10_step_22 (nI L) q (nI s) u = q (nI (s + 1)) u
    unfold S_X10_step_22
    rw [if_pos ((nI_ltI (by omega) (by omega)).mpr hxL), gdT (nI_ix (by omega) (by omega)), nI_clamp (by omega), b2, if_pos (show nI (b s) = 32 by rw [of_decide_eq_true hp]; rfl), nI_1]
  · obtain rfl : s = rn (blB b) L i := hs
    obtain ⟨u', e, T, F⟩ := c_step44 (f := rn (blB b) L i) X (rn_L hi)
    refine ⟨_, ⟨u', rfl, T, F⟩, fun q => ?_⟩
    show S_X10_step_22 (nI L) q (nI (rn (blB b) L i)) u = some u'
    unfold S_X10_step_22
    have rl := rn_L (p := blB b) hi
    by_cases c : rn (blB b) L i < L
    · have ⟨b1, b2⟩ := X.2.2 _ c
      have z := rn_end (p := blB b) hi c
      have z : ¬ b (rn (blB b) L i) = 32 := of_decide_eq_false z
      rw [if_pos ((nI_ltI (by omega) (by omega)).mpr c), gdT (nI_ix (by omega) (by omega)), nI_clamp (by omega), b2, if_neg (show ¬ nI (b (rn (blB b) L i)) = 32 from fun y => z ((nI_eq (b := 32) (by omega) (by omega)).mp y)), e]
    · rw [if_neg (fun y => c ((nI_ltI (by omega) (by omega)).mp y)), e]
/-- goes on to the next thing -/
theorem c_next {f : Nat} {u : Hp} (X : LXc b L u) (T : TKc b L f u) : ∃ u', f_X10_step u = some u' ∧ TKc b L (nxN b L f) u' ∧ FRc u u' := c_step X (ed_L T.1) T.2.2.1
end LX
