/-! LAYER 4. calls that use the tape up; what is felt -/
def usM (g : Hp) : Hp := up1 (up1 (up1 (up1 g 30 0 0) 30 13 (g 30 11)) 30 11 0) 30 12 0
theorem m_uses {g : Hp} : f_X12_uses g = some (usM g) := by
  unfold f_X12_uses usM
  rw [bnd_eq, bnd_eq, bnd_eq, bnd_eq, up1_at, upd_ob (by decide)]
theorem us_ob {g : Hp} {k : Nat} (h : k ≠ 30) : usM g k = g k := by unfold usM; rw [up1_ob h, up1_ob h, up1_ob h, up1_ob h]
theorem us_30 {g : Hp} {i : Nat} (h : i ≠ 0) (h1 : i ≠ 11) (h2 : i ≠ 12) (h3 : i ≠ 13) : usM g 30 i = g 30 i := by
  unfold usM
  rw [up1_at, upd_ob h2, up1_at, upd_ob h1, up1_at, upd_ob h3, up1_at, upd_ob h]
theorem us_0 {g : Hp} : usM g 30 0 = 0 := by unfold usM; rw [up1_at, upd_ob (by decide), up1_at, upd_ob (by decide), up1_at, upd_ob (by decide), up1_same]
theorem us_11 {g : Hp} : usM g 30 11 = 0 := by unfold usM; rw [up1_at, upd_ob (by decide), up1_same]
theorem us_12 {g : Hp} : usM g 30 12 = 0 := up1_same
theorem us_13 {g : Hp} : usM g 30 13 = g 30 11 := by unfold usM; rw [up1_at, upd_ob (by decide), up1_at, upd_ob (by decide), up1_same]
/-- bytes of the tape -/
def btN (h : Hp) (i : Nat) : Nat := (h 3 i).toNatClampNeg
theorem bt_ok {h : Hp} {L : Nat} (t : ∀ i, i < L → ∃ b, b < 256 ∧ h 3 i = nI b ∧ h 38 i = byS b) (i : Nat) (hi : i < L) : btN h i < 256 ∧ h 3 i = nI (btN h i) ∧ h 38 i = byS (btN h i) := by
  obtain ⟨b, x, y, z⟩ := t i hi
  have e : btN h i = b := by unfold btN; rw [y, nI_clamp (by omega)]
  rw [e]; exact ⟨x, y, z⟩
theorem InvT {h h1 h2 : Hp} (I : Inv h) (K : ∀ k, k ≠ 50 → (k ≤ 3 ∨ k = 20 ∨ (27 ≤ k ∧ k ≤ 110) ∨ (132 ≤ k ∧ k < 340) ∨ (500 ≤ k ∧ k ≤ 506) ∨ (532 ≤ k ∧ k ≤ 538)) → h1 k = up1 h 2 1 0 k) (M : KM (usM h1) h2) : Inv h2 := by
  obtain ⟨_, ⟨L, t1, t2, t3, t4, t5⟩, _⟩ := id I
  have k2 : h2 2 = upd (h 2) 1 0 := by rw [M.1 2 (by omega), us_ob (by decide), K 2 (by omega) (by omega), up1_at]
  have e : ∀ k, k ≠ 2 → k ≠ 50 → (k ≤ 3 ∨ k = 20 ∨ (27 ≤ k ∧ k ≤ 110) ∨ (132 ≤ k ∧ k < 340) ∨ (500 ≤ k ∧ k ≤ 506) ∨ (532 ≤ k ∧ k ≤ 538)) → h1 k = h k := fun k a c b => by rw [K k c b, up1_ob a]
  refine Inv_tp I ⟨0, by omega, by rw [k2, upd_at]; rfl, by rw [M.2 11 (by decide) (by decide) (by decide), us_11]; rfl, fun i hi => absurd hi (Nat.not_lt_zero i), by rw [k2, upd_ob (by decide), M.2 16 (by decide) (by decide) (by decide), us_30 (by decide) (by decide) (by decide) (by decide), e 30 (by decide) (by decide) (by omega)]; exact t5⟩ (fun k hk => ?_) (fun i hi => ?_)
  · rw [M.1 k (by omega), us_ob (by omega), e k (by omega) (by omega) (by omega)]
  · rw [M.2 i (by omega) (by omega) (by omega), us_30 (by omega) (by omega) (by omega) (by omega), e 30 (by decide) (by decide) (by omega)]
theorem qOkT {c : Hp → Option (Except String Int32 × Hp)} {md : Hp → Option (Int32 × Hp)} {h : Hp} {v : Int32} (I : Inv h) (hc : ∃ h1, c h = some (Except.ok v, h1) ∧ KC (up1 h 2 1 0) h1)
    (hm : ∀ g, (∀ k, 27 ≤ k → k ≤ 46 → g k = h k) → ∃ h', md g = some (v, h') ∧ h' 30 0 = 0 ∧ KM (usM g) h') :
    ∃ h' n, (∃ (v : Int32) (h1 : Hp) (b : Int32), c h = some (Except.ok v, h1) ∧ md (up1 h1 50 0 v) = some (b, h') ∧ f_X12_thrown h' = 0 ∧ h' 50 0 = b ∧ n = 0) ∧ n ≤ 1 ∧ Inv h' := by
  obtain ⟨h1, c1, K1⟩ := hc
  obtain ⟨h', d1, d2, K2⟩ := hm (up1 h1 50 0 v) (fun k a b => by rw [up1_ob (by omega), K1 k (by omega), up1_ob (by omega)])
  exact ⟨h', 0, ⟨v, h1, v, c1, d1, d2, by rw [K2.1 50 (by omega), us_ob (by decide), up1_same], rfl⟩, by omega, InvT I (fun k a b => by rw [up1_ob a, K1 k b]) K2⟩
theorem qErT {c : Hp → Option (Except String Int32 × Hp)} {md : Hp → Option (Int32 × Hp)} {h : Hp} {E : String} {t : Int32} (I : Inv h) (hc : ∃ h1, c h = some (Except.error E, h1) ∧ KC (up1 h 2 1 0) h1)
    (hm : ∀ g, (∀ k, 27 ≤ k → k ≤ 46 → g k = h k) → ∃ b h', md g = some (b, h') ∧ h' 30 0 = t ∧ KM (usM g) h') :
    ∃ h' n, (∃ (h1 : Hp) (b : Int32), c h = some (Except.error E, h1) ∧ md h1 = some (b, h') ∧ f_X12_thrown h' = t ∧ n = 1) ∧ n ≤ 1 ∧ Inv h' := by
  obtain ⟨h1, c1, K1⟩ := hc
  obtain ⟨b, h', d1, d2, K2⟩ := hm h1 (fun k a b => by rw [K1 k (by omega), up1_ob (by omega)])
  exact ⟨h', 1, ⟨h1, b, c1, d1, d2, rfl⟩, by omega, InvT I (fun k _ b => K1 k b) K2⟩
/-! the tape tells pairs of which the first ones are houses -/
def feB (b : Nat → Nat) (n : Nat) : Nat → Bool
  | 0 => true
  | j + 1 => feB b n j && decide (b (2 * j) < n)
theorem feB_m {b : Nat → Nat} {n : Nat} : ∀ {j k : Nat}, j ≤ k → feB b n j = false → feB b n k = false
  | j, 0, h, x => by obtain rfl : j = 0 := by omega
                     exact x
  | j, k + 1, h, x => by
    by_cases c : j = k + 1
    · rw [← c]; exact x
    · show (feB b n k && _) = false
      rw [feB_m (k := k) (by omega) x, Bool.false_and]
theorem feB_t {b : Nat → Nat} {n : Nat} : ∀ {k : Nat}, feB b n k = true → ∀ j, j < k → b (2 * j) < n
  | 0, _, j, h => absurd h (Nat.not_lt_zero j)
  | k + 1, x, j, h => by
    have ⟨y, z⟩ := Bool.and_eq_true_iff.mp (show (feB b n k && decide (b (2 * k) < n)) = true from x)
    by_cases c : j = k
    · rw [c]; exact of_decide_eq_true z
    · exact feB_t y j (by omega)
theorem c_byteAt {h : Hp} {i : Nat} (hi : i < 400) : f_X10_byteAt (nI i) h = some (h 3 i) := by
  unfold f_X10_byteAt
  rw [if_neg (nI_pos (by omega)), show (400 : Int32) = nI 400 from rfl, if_pos ((nI_ltI (by omega) (by omega)).mpr hi), gdT (nI_ix hi (by omega)), nI_clamp (by omega)]
theorem z2 (a : Nat) : nI a + 2 = nI (a + 2) := zadd a 2
theorem c_feltL {h : Hp} {n J : Nat} {b : Nat → Nat} (hn : h 100 9 = nI n) (h8 : n ≤ 8) (hJ : 2 * J ≤ 400) (hb : ∀ i, i < 2 * J → b i < 256 ∧ h 3 i = nI (b i)) :
    F_X11_collectBreaks_36 (nI (2 * J)) FU 1 0 h = F_X11_collectBreaks_67 (nI (2 * J)) (bI (feB b n J)) h := by
  have Q := loopV (S_X11_collectBreaks_36 (nI (2 * J))) (fun _ _ _ => none) (fun q (s : Nat × Bool) => q (bI s.2) (nI (2 * s.1)) h) J (fun j s => s.1 = j ∧ s.2 = feB b n j)
    (fun r => r = F_X11_collectBreaks_67 (nI (2 * J)) (bI (feB b n J)) h) (by omega) (fun j s hj hs => ?_) (fun s hs => ?_) (0, true) ⟨rfl, rfl⟩
  · exact Q
  · obtain ⟨j', f⟩ := s
    dsimp only at hs
    obtain ⟨rfl, rfl⟩ := hs
    cases c : feB b n j'
    · refine Or.inr ⟨_, rfl, fun q => ?_⟩
      show S_X11_collectBreaks_36 (nI (2 * J)) q (bI false) (nI (2 * j')) h = _
      unfold S_X11_collectBreaks_36
      rw [feB_m (k := J) (by omega) c, if_pos (show bI false = 0 from rfl)]
    · refine Or.inl ⟨(j' + 1, feB b n (j' + 1)), ⟨rfl, rfl⟩, fun q => ?_⟩
      show S_X11_collectBreaks_36 (nI (2 * J)) q (bI true) (nI (2 * j')) h = q (bI (feB b n j' && decide (b (2 * j') < n))) (nI (2 * j' + 2)) h
      have ⟨x, y⟩ := hb (2 * j') (by omega)
      unfold S_X11_collectBreaks_36
      rw [c, if_neg (show ¬ bI true = 0 by decide), if_pos ((nI_ltI (by omega) (by omega)).mpr (by omega)), c_byteAt (by omega), obS, bnd_eq, y, c_isHouse hn h8 (by omega), Bool.true_and, z2]
      rfl
  · obtain ⟨j', f⟩ := s
    dsimp only at hs
    obtain ⟨rfl, rfl⟩ := hs
    refine ⟨_, rfl, fun q => ?_⟩
    show S_X11_collectBreaks_36 (nI (2 * j')) q (bI (feB b n j')) (nI (2 * j')) h = _
    unfold S_X11_collectBreaks_36
    rw [if_neg (fun z => absurd ((nI_ltI (by omega) (by omega)).mp z) (Nat.lt_irrefl _)), ite_self]
theorem c_felt0 {h : Hp} {x : Int32} : F_X11_collectBreaks_36 x FU 0 0 h = some (Except.error "java/lang/IllegalArgumentException", h) := by
  have Q := loopV (S_X11_collectBreaks_36 x) (fun _ _ _ => none) (fun q (_ : Unit) => q 0 0 h) 1 (fun _ _ => True)
    (fun r => r = some (Except.error "java/lang/IllegalArgumentException", h)) (by omega) (fun j s hj hs => ?_) (fun s hs => ?_) () trivial
  · exact Q
  · refine Or.inr ⟨_, rfl, fun q => ?_⟩
    show S_X11_collectBreaks_36 x q 0 0 h = _
    unfold S_X11_collectBreaks_36 F_X11_collectBreaks_67
    rw [if_pos rfl, if_pos rfl]
  · refine ⟨_, rfl, fun q => ?_⟩
    show S_X11_collectBreaks_36 x q 0 0 h = _
    unfold S_X11_collectBreaks_36 F_X11_collectBreaks_67
    rw [if_pos rfl, if_pos rfl]
/-- the tape's length tells pairs -/
theorem lenP (L : Nat) : (40 < L ∨ L % 2 = 1) ∨ ∃ J, L = 2 * J ∧ J ≤ 20 := by
  by_cases a : 40 < L
  · exact Or.inl (Or.inl a)
  · by_cases b : L % 2 = 1
    · exact Or.inl (Or.inr b)
    · exact Or.inr ⟨L / 2, by omega, by omega⟩
theorem c_collX {h : Hp} {L : Nat} (e : h 2 1 = nI L) (hL : L ≤ 400) (x : 40 < L ∨ L % 2 = 1) : f_X11_collectBreaks h = some (Except.error "java/lang/IllegalArgumentException", up1 h 2 1 0) := by
  unfold f_X11_collectBreaks
  rw [bnd_eq, e, show (40 : Int32) = nI 40 from rfl, show (2 : Int32) = nI 2 from rfl, zrm (by omega) (by omega) (by omega)]
  by_cases a : 40 < L
  · rw [if_pos ((nI_ltI (by omega) (by omega)).mpr a), c_felt0]
  · rw [if_neg (fun z => a ((nI_ltI (by omega) (by omega)).mp z)), if_neg (show ¬ nI (L % 2) = 0 from fun z => by
      have := (nI_eq (a := L % 2) (b := 0) (by omega) (by omega)).mp z
      omega), c_felt0]
theorem c_collP {h : Hp} {n J : Nat} {b : Nat → Nat} (e : h 2 1 = nI (2 * J)) (hJ : J ≤ 20) (hn : h 100 9 = nI n) (h8 : n ≤ 8) (hb : ∀ i, i < 2 * J → b i < 256 ∧ h 3 i = nI (b i)) :
    f_X11_collectBreaks h = F_X11_collectBreaks_67 (nI (2 * J)) (bI (feB b n J)) (up1 h 2 1 0) := by
  unfold f_X11_collectBreaks
  rw [bnd_eq, e, show (40 : Int32) = nI 40 from rfl, show (2 : Int32) = nI 2 from rfl, zrm (by omega) (by omega) (by omega), if_neg (fun z => absurd ((nI_ltI (by omega) (by omega)).mp z) (by omega)), show 2 * J % 2 = 0 by omega, if_pos (show nI 0 = 0 from rfl)]
  exact c_feltL (by rw [up1_ob (by decide)]; exact hn) h8 (by omega) (fun i hi => by rw [up1_ob (by decide)]; exact hb i hi)
/-! the model -/
theorem byS_lo {b : Nat} (h : b < 128) : byS b = nI b := if_pos h
theorem byS_hi : ∀ b, b < 256 → ¬ b < 128 → byS b < 0 := by decide +kernel
theorem noH_b {h : Hp} {n b : Nat} (hn : h 31 0 = nI n) (h8 : n ≤ 8) (hb : b < 256) : f_X12_noHouse (byS b) h = !decide (b < n) := by
  by_cases c : b < 128
  · rw [byS_lo c]
    by_cases d : b < n
    · rw [noH_i hn h8 d, decide_eq_true d]; rfl
    · rw [noH_x hn h8 (Or.inr ((nI_leI (by omega) (by omega)).mpr (by omega))), decide_eq_false d]; rfl
  · rw [noH_x hn h8 (Or.inl (byS_hi b hb c)), decide_eq_false (by omega)]; rfl
theorem m_feltL {h : Hp} {n J : Nat} {b : Nat → Nat} (hn : h 31 0 = nI n) (h8 : n ≤ 8) (hJ : 2 * J ≤ 400) (e13 : h 30 13 = nI (2 * J)) (hb : ∀ i, i < 2 * J → b i < 256 ∧ h 38 i = byS (b i)) :
    F_X12_isFelt_26 h FU 1 0 = some (feB b n J) := by
  have Q := loopV (S_X12_isFelt_26 h) (fun _ _ => none) (fun q (s : Nat × Bool) => q (bI s.2) (nI (2 * s.1))) J (fun j s => s.1 = j ∧ s.2 = feB b n j)
    (fun r => r = some (feB b n J)) (by omega) (fun j s hj hs => ?_) (fun s hs => ?_) (0, true) ⟨rfl, rfl⟩
  · exact Q
  · obtain ⟨j', f⟩ := s
    dsimp only at hs
    obtain ⟨rfl, rfl⟩ := hs
    cases c : feB b n j'
    · refine Or.inr ⟨_, rfl, fun q => ?_⟩
      show S_X12_isFelt_26 h q (bI false) (nI (2 * j')) = _
      unfold S_X12_isFelt_26
      rw [feB_m (k := J) (by omega) c, if_pos (show bI false = 0 from rfl), toB_bI, obS, ite_self]
    · refine Or.inl ⟨(j' + 1, feB b n (j' + 1)), ⟨rfl, rfl⟩, fun q => ?_⟩
      show S_X12_isFelt_26 h q (bI true) (nI (2 * j')) = q (bI (feB b n j' && decide (b (2 * j') < n))) (nI (2 * j' + 2))
      have ⟨x, y⟩ := hb (2 * j') (by omega)
      unfold S_X12_isFelt_26
      rw [c, if_neg (show ¬ bI true = 0 by decide), e13, if_pos ((nI_ltI (by omega) (by omega)).mpr (by omega)), gdT (nI_ix (by omega) (by omega)), nI_clamp (by omega), y, noH_b hn h8 x, Bool.true_and, z2]
      cases decide (b (2 * j') < n) <;> rfl
  · obtain ⟨j', f⟩ := s
    dsimp only at hs
    obtain ⟨rfl, rfl⟩ := hs
    refine ⟨_, rfl, fun q => ?_⟩
    show S_X12_isFelt_26 h q (bI (feB b n j')) (nI (2 * j')) = _
    unfold S_X12_isFelt_26
    rw [e13, if_neg (fun z => absurd ((nI_ltI (by omega) (by omega)).mp z) (Nat.lt_irrefl _)), toB_bI, obS]
theorem m_felt0 {h : Hp} : F_X12_isFelt_26 h FU 0 0 = some false := by
  have Q := loopV (S_X12_isFelt_26 h) (fun _ _ => none) (fun q (_ : Unit) => q 0 0) 1 (fun _ _ => True)
    (fun r => r = some false) (by omega) (fun j s hj hs => ?_) (fun s hs => ?_) () trivial
  · exact Q
  · refine Or.inr ⟨_, rfl, fun q => ?_⟩
    show S_X12_isFelt_26 h q 0 0 = _
    unfold S_X12_isFelt_26
    rw [if_pos (rfl : (0 : Int32) = 0), toB0, obS, ite_self]
  · refine ⟨_, rfl, fun q => ?_⟩
    show S_X12_isFelt_26 h q 0 0 = _
    unfold S_X12_isFelt_26
    rw [if_pos (rfl : (0 : Int32) = 0), toB0, obS, ite_self]
theorem m_isFeltX {h : Hp} {L : Nat} (e : h 30 13 = nI L) (hL : L ≤ 400) (x : 40 < L ∨ L % 2 = 1) : f_X12_isFelt h = some false := by
  unfold f_X12_isFelt
  rw [e, show (40 : Int32) = nI 40 from rfl, show (2 : Int32) = nI 2 from rfl, zrm (by omega) (by omega) (by omega), m_felt0]
  by_cases a : 40 < L
  · rw [if_pos ((nI_ltI (by omega) (by omega)).mpr a), ite_self]
  · rw [if_neg (show ¬ nI (L % 2) = 0 from fun z => by
      have := (nI_eq (a := L % 2) (b := 0) (by omega) (by omega)).mp z
      omega)]
theorem m_isFeltP {h : Hp} {n J : Nat} {b : Nat → Nat} (hn : h 31 0 = nI n) (h8 : n ≤ 8) (hJ : J ≤ 20) (e13 : h 30 13 = nI (2 * J)) (hb : ∀ i, i < 2 * J → b i < 256 ∧ h 38 i = byS (b i)) : f_X12_isFelt h = some (feB b n J) := by
  unfold f_X12_isFelt
  rw [e13, show (40 : Int32) = nI 40 from rfl, show (2 : Int32) = nI 2 from rfl, zrm (by omega) (by omega) (by omega), if_neg (fun z => absurd ((nI_ltI (by omega) (by omega)).mp z) (by omega)), show 2 * J % 2 = 0 by omega, if_pos (show nI 0 = 0 from rfl)]
  exact m_feltL hn h8 (by omega) e13 hb
