/-! LAYER 4. the houses that the tape tells -/
def toF (n : Nat) (w : Row) (b : Nat → Nat) : Nat → Bool
  | 0 => true
  | j + 1 => toF n w b j && (upB n w (b j) && !dsB b j (b j))
theorem toF_m {n : Nat} {w : Row} {b : Nat → Nat} : ∀ {j k : Nat}, j ≤ k → toF n w b j = false → toF n w b k = false
  | j, 0, h, x => by obtain rfl : j = 0 := by omega
                     exact x
  | j, k + 1, h, x => by
    by_cases c : j = k + 1
    · rw [← c]; exact x
    · show (toF n w b k && _) = false
      rw [toF_m (k := k) (by omega) x, Bool.false_and]
theorem toF_t {n : Nat} {w : Row} {b : Nat → Nat} : ∀ {k : Nat}, toF n w b k = true → ∀ j, j < k → upB n w (b j) = true ∧ dsB b j (b j) = false
  | 0, _, j, h => absurd h (Nat.not_lt_zero j)
  | k + 1, x, j, h => by
    have ⟨y, z⟩ := Bool.and_eq_true_iff.mp (show (toF n w b k && (upB n w (b k) && !dsB b k (b k))) = true from x)
    by_cases c : j = k
    · rw [c]
      have ⟨u, v⟩ := Bool.and_eq_true_iff.mp z
      exact ⟨u, by simpa using v⟩
    · exact toF_t y j (by omega)
theorem ds_s {b : Nat → Nat} {j x : Nat} : dsB b (j + 1) x = (dsB b j x || decide (b j = x)) := rfl
theorem ds_or {b : Nat → Nat} {j : Nat} (hb : b j < 8) : orTo (dsB b j) 8 ||| shl 1 (nI (b j)) = orTo (dsB b (j + 1)) 8 := by
  rw [shl_8 hb, orTo_or (by omega)]
  exact orTo_congr 8 fun k _ => by
    rw [ds_s]
    congr 1
    exact decide_eq_decide.mpr ⟨Eq.symm, Eq.symm⟩
theorem ds_cnt {n : Nat} {w : Row} {b : Nat → Nat} (h8 : n ≤ 8) : ∀ k, toF n w b k = true → cnt (dsB b k) 8 = k
  | 0, _ => cnt_ext (n := 0) 8 (Nat.zero_le _) fun _ _ _ => rfl
  | k + 1, x => by
    have ⟨y, _⟩ := Bool.and_eq_true_iff.mp (show (toF n w b k && (upB n w (b k) && !dsB b k (b k))) = true from x)
    have ⟨u, v⟩ := toF_t x k (by omega)
    have := upB_lt u
    have e := cnt_in (p := dsB b k) (h := b k) v 8 (by omega)
    rw [ds_cnt h8 k y] at e
    exact e
theorem ds_up {n : Nat} {w : Row} {b : Nat → Nat} {k x : Nat} (f : toF n w b k = true) (d : dsB b k x = true) : upB n w x = true := by
  obtain ⟨j, hj, e⟩ := anyTo_t.mp d
  rw [← of_decide_eq_true e]
  exact (toF_t f j hj).1
section TD
variable {n m E : Nat} {w : Row} {h : Hp} {b : Nat → Nat}
theorem c_told32 (H : CV0 100 h n m w) (h8 : n ≤ 8) (hE : E ≤ 400) (hb : ∀ i, i < E → b i < 256 ∧ h 3 i = nI (b i)) :
    ∃ X, F_X11_toldHouses_32 (nI E) FU 0 1 0 h = F_X11_toldHouses_97 X (bI (toF n w b E)) h ∧ (toF n w b E = true → X = orTo (dsB b E) 8) := by
  have Q := loopV (S_X11_toldHouses_32 (nI E)) (fun _ _ _ _ => none) (fun q (s : Nat × Bool × Int32) => q s.2.2 (bI s.2.1) (nI s.1) h) E (fun j s => s.1 = j ∧ s.2.1 = toF n w b j ∧ (toF n w b j = true → s.2.2 = orTo (dsB b j) 8))
    (fun r => ∃ X, r = F_X11_toldHouses_97 X (bI (toF n w b E)) h ∧ (toF n w b E = true → X = orTo (dsB b E) 8)) (by omega) (fun j s hj hs => ?_) (fun s hs => ?_) (0, true, 0) ⟨rfl, rfl, fun _ => (or0_8.mpr fun _ _ => rfl).symm⟩
  · exact Q
  · obtain ⟨j', f, X⟩ := s
    dsimp only at hs
    obtain ⟨rfl, rfl, hX⟩ := hs
    cases c : toF n w b j'
    · refine Or.inr ⟨_, ⟨X, rfl, fun q => ?_⟩, fun q => ?_⟩
      · rw [toF_m (show j' ≤ E by omega) c] at q; exact Bool.noConfusion q
      · show S_X11_toldHouses_32 (nI E) q X (bI false) (nI j') h = _
        unfold S_X11_toldHouses_32
        rw [if_pos (show bI false = 0 from rfl), toF_m (show j' ≤ E by omega) c]
    · have hX := hX c
      have ⟨x, y⟩ := hb j' hj
      refine Or.inl ⟨(j' + 1, toF n w b (j' + 1), if upB n w (b j') && !dsB b j' (b j') then X ||| shl 1 (nI (b j')) else X), ⟨rfl, rfl, fun q => ?_⟩, fun q => ?_⟩
      · have ⟨_, z⟩ := Bool.and_eq_true_iff.mp (show (toF n w b j' && (upB n w (b j') && !dsB b j' (b j'))) = true from q)
        have u := upB_lt (Bool.and_eq_true_iff.mp z).1
        dsimp only
        rw [z, ttt, hX]
        exact ds_or (by omega)
      · show S_X11_toldHouses_32 (nI E) q X (bI true) (nI j') h = q (if upB n w (b j') && !dsB b j' (b j') then X ||| shl 1 (nI (b j')) else X) (bI (toF n w b j' && (upB n w (b j') && !dsB b j' (b j')))) (nI (j' + 1)) h
        unfold S_X11_toldHouses_32 F_X11_toldHouses_79
        rw [c, if_neg (show ¬ bI true = 0 by decide), if_pos ((nI_ltI (by omega) (by omega)).mpr hj), c_byteAt (by omega), obS, y, c_isUp H h8 (by omega), bnd_eq, bnd_eq, nI_1, Bool.true_and, if_pos (rfl : (0 : Int32) = 0), if_neg (show ¬ (1 : Int32) = 0 by decide)]
        cases u : upB n w (b j')
        · rw [tff, Bool.false_and, tff]; rfl
        · have ul := upB_lt u
          rw [ttt, Bool.true_and]
          cases d : dsB b j' (b j')
          · rw [if_pos (show shr X (nI (b j')) &&& 1 = 0 by rw [shr_tb0 (by omega), hX, tb8 (by omega), d]), Bool.not_false, ttt]; rfl
          · rw [if_neg (show ¬ shr X (nI (b j')) &&& 1 = 0 by rw [shr_tb0 (by omega), hX, tb8 (by omega), d]; exact fun z => Bool.noConfusion z), Bool.not_true, tff]; rfl
  · obtain ⟨j', f, X⟩ := s
    dsimp only at hs
    obtain ⟨rfl, rfl, hX⟩ := hs
    refine ⟨_, ⟨X, rfl, hX⟩, fun q => ?_⟩
    show S_X11_toldHouses_32 (nI j') q X (bI (toF n w b j')) (nI j') h = _
    unfold S_X11_toldHouses_32
    rw [if_neg (fun z => absurd ((nI_ltI (by omega) (by omega)).mp z) (Nat.lt_irrefl _)), ite_self]
theorem c_told0 {x : Int32} : F_X11_toldHouses_32 x FU 0 0 0 h = some (Except.error "java/lang/IllegalArgumentException", h) := by
  have Q := loopV (S_X11_toldHouses_32 x) (fun _ _ _ _ => none) (fun q (_ : Unit) => q 0 0 0 h) 1 (fun _ _ => True)
    (fun r => r = some (Except.error "java/lang/IllegalArgumentException", h)) (by omega) (fun j s hj hs => ?_) (fun s hs => ?_) () trivial
  · exact Q
  · refine Or.inr ⟨_, rfl, fun q => ?_⟩
    show S_X11_toldHouses_32 x q 0 0 0 h = _
    unfold S_X11_toldHouses_32 F_X11_toldHouses_97
    rw [if_pos rfl, if_pos rfl]
  · refine ⟨_, rfl, fun q => ?_⟩
    show S_X11_toldHouses_32 x q 0 0 0 h = _
    unfold S_X11_toldHouses_32 F_X11_toldHouses_97
    rw [if_pos rfl, if_pos rfl]
def tdB (n : Nat) (w : Row) (b : Nat → Nat) (L : Nat) : Bool := decide (L ≤ 5) && toF n w b L
theorem c_told (H : CV0 100 h n m w) (h8 : n ≤ 8) (hE : E ≤ 400) (e : h 2 1 = nI E) (hb : ∀ i, i < E → b i < 256 ∧ h 3 i = nI (b i)) :
    f_X11_toldHouses h = if tdB n w b E then some (Except.ok (orTo (dsB b E) 8), up1 h 2 1 0) else some (Except.error "java/lang/IllegalArgumentException", up1 h 2 1 0) := by
  unfold f_X11_toldHouses
  rw [bnd_eq, e]
  unfold tdB
  by_cases c : E ≤ 5
  · rw [if_neg (show ¬ 5 < nI E from fun z => absurd ((nI_ltI (a := 5) (by omega) (by omega)).mp z) (by omega)), decide_eq_true c, Bool.true_and]
    obtain ⟨X, q, hX⟩ := c_told32 (h := up1 h 2 1 0) (b := b) (E := E) (CV0_fr H fun k x y => up1_ob (by omega)) h8 hE (fun i hi => by rw [up1_ob (by decide)]; exact hb i hi)
    rw [q]
    unfold F_X11_toldHouses_97
    cases f : toF n w b E
    · rw [if_pos (show bI false = 0 from rfl), tff]
    · rw [if_neg (show ¬ bI true = 0 by decide), ttt, hX f]
  · rw [if_pos (show 5 < nI E from (nI_ltI (a := 5) (by omega) (by omega)).mpr (by omega)), decide_eq_false c, Bool.false_and, tff, c_told0]
theorem m_order18 (G : Gd n m (h 31)) (hE : E ≤ 400) (e13 : h 30 13 = nI E) (hb : ∀ i, i < E → b i < 256 ∧ h 38 i = byS (b i)) :
    F_X12_isOrder_18 h FU 1 0 0 = some (toF n (h 31) b E) := by
  have h8 := G.1.2.1
  have Q := loopV (S_X12_isOrder_18 h) (fun _ _ _ => none) (fun q (s : Nat × Bool × Int32) => q (bI s.2.1) s.2.2 (nI s.1)) E (fun j s => s.1 = j ∧ s.2.1 = toF n (h 31) b j ∧ (toF n (h 31) b j = true → s.2.2 = orTo (dsB b j) 8))
    (fun r => r = some (toF n (h 31) b E)) (by omega) (fun j s hj hs => ?_) (fun s hs => ?_) (0, true, 0) ⟨rfl, rfl, fun _ => (or0_8.mpr fun _ _ => rfl).symm⟩
  · exact Q
  · obtain ⟨j', f, X⟩ := s
    dsimp only at hs
    obtain ⟨rfl, rfl, hX⟩ := hs
    cases c : toF n (h 31) b j'
    · refine Or.inr ⟨_, rfl, fun q => ?_⟩
      show S_X12_isOrder_18 h q (bI false) X (nI j') = _
      unfold S_X12_isOrder_18
      rw [if_pos (show bI false = 0 from rfl), toB_bI, obS, ite_self, toF_m (show j' ≤ E by omega) c]
    · have hX := hX c
      have ⟨x, y⟩ := hb j' hj
      refine Or.inl ⟨(j' + 1, toF n (h 31) b (j' + 1), if upB n (h 31) (b j') && !dsB b j' (b j') then X ||| shl 1 (nI (b j')) else X), ⟨rfl, rfl, fun q => ?_⟩, fun q => ?_⟩
      · have ⟨_, z⟩ := Bool.and_eq_true_iff.mp (show (toF n (h 31) b j' && (upB n (h 31) (b j') && !dsB b j' (b j'))) = true from q)
        have u := upB_lt (Bool.and_eq_true_iff.mp z).1
        dsimp only
        rw [z, ttt, hX]
        exact ds_or (by omega)
      · show S_X12_isOrder_18 h q (bI true) X (nI j') = q (bI (toF n (h 31) b j' && (upB n (h 31) (b j') && !dsB b j' (b j')))) (if upB n (h 31) (b j') && !dsB b j' (b j') then X ||| shl 1 (nI (b j')) else X) (nI (j' + 1))
        have y' : h 38 (nI j').toNatClampNeg = byS (b j') := by rw [nI_clamp (by omega)]; exact y
        unfold S_X12_isOrder_18 F_X12_isOrder_74 F_X12_isOrder_92
        rw [c, if_neg (show ¬ bI true = 0 by decide), e13, if_pos ((nI_ltI (by omega) (by omega)).mpr hj), gdT (nI_ix (by omega) (by omega)), gdT (nI_ix (by omega) (by omega)), gdT (nI_ix (by omega) (by omega)), y', if_pos (rfl : (0 : Int32) = 0), if_neg (show ¬ (1 : Int32) = 0 by decide), gdT (nI_ix (by omega) (by omega)), noH_b G.1.1 h8 x, bnd_eq, bnd_eq, nI_1, Bool.true_and, Int32.or_zero]
        by_cases ul : b j' < n
        · rw [decide_eq_true ul, Bool.not_true, tff, byS_lo (by omega), m_isF (by omega), obS, m_has, hasB_tb (by omega), hX, tb8 (by omega), up_fal ul]
          cases falB (h 31) (b j')
          · rw [tff, Bool.not_false, Bool.true_and]
            cases d : dsB b j' (b j')
            · rw [tff, Bool.not_false, ttt, gdT (nI_ix (by omega) (by omega))]; rfl
            · rw [ttt, Bool.not_true, tff]; rfl
          · rw [ttt, Bool.not_true, Bool.false_and, tff]; rfl
        · rw [decide_eq_false ul, Bool.not_false, ttt, upB_hi (by omega), Bool.false_and, tff]; rfl
  · obtain ⟨j', f, X⟩ := s
    dsimp only at hs
    obtain ⟨rfl, rfl, hX⟩ := hs
    refine ⟨_, rfl, fun q => ?_⟩
    show S_X12_isOrder_18 h q (bI (toF n (h 31) b j')) X (nI j') = _
    unfold S_X12_isOrder_18
    rw [e13, if_neg (fun z => absurd ((nI_ltI (by omega) (by omega)).mp z) (Nat.lt_irrefl _)), toB_bI, obS]
theorem m_order0 : F_X12_isOrder_18 h FU 0 0 0 = some false := by
  have Q := loopV (S_X12_isOrder_18 h) (fun _ _ _ => none) (fun q (_ : Unit) => q 0 0 0) 1 (fun _ _ => True)
    (fun r => r = some false) (by omega) (fun j s hj hs => ?_) (fun s hs => ?_) () trivial
  · exact Q
  · refine Or.inr ⟨_, rfl, fun q => ?_⟩
    show S_X12_isOrder_18 h q 0 0 0 = _
    unfold S_X12_isOrder_18
    rw [if_pos (rfl : (0 : Int32) = 0), toB0, obS, ite_self]
  · refine ⟨_, rfl, fun q => ?_⟩
    show S_X12_isOrder_18 h q 0 0 0 = _
    unfold S_X12_isOrder_18
    rw [if_pos (rfl : (0 : Int32) = 0), toB0, obS, ite_self]
theorem m_isOrder (G : Gd n m (h 31)) (hE : E ≤ 400) (e13 : h 30 13 = nI E) (hb : ∀ i, i < E → b i < 256 ∧ h 38 i = byS (b i)) : f_X12_isOrder h = some (tdB n (h 31) b E) := by
  unfold f_X12_isOrder F_X12_isOrder_13 tdB
  rw [e13]
  by_cases c : E ≤ 5
  · rw [if_neg (show ¬ 5 < nI E from fun z => absurd ((nI_ltI (a := 5) (by omega) (by omega)).mp z) (by omega)), decide_eq_true c, Bool.true_and]
    exact m_order18 G hE e13 hb
  · rw [if_pos (show 5 < nI E from (nI_ltI (a := 5) (by omega) (by omega)).mpr (by omega)), decide_eq_false c, Bool.false_and]
    exact m_order0
end TD
