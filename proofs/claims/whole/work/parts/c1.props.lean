/-! LAYER 4. props -/
theorem m_wouldFallP {h : Hp} {n m : Nat} {e pp : Int32} {w0 : Row} (g : GdN n m (h 31)) (h21 : h 30 21 = pp) (K : KEPT w0 h) :
    ∃ h', f_X12_wouldFall e h = some ((fallW n m e pp (h 31)).1, h') ∧ h' 31 = w0 ∧ KT h h' := by
  obtain ⟨u, e1, w1, r1, f1, _⟩ := m_allFall (e := e) g
  rw [h21] at e1 w1 r1
  have Ku : KEPT w0 u := ⟨fun k hk => by rw [f1 34 (by decide) (by decide) (by decide) (by decide) (by decide)]; exact K.1 k hk, fun k hk => by rw [w1]; exact (fl_ob g.2.1 g.2.2.2.1 (by omega) 9 0 (h 31)).trans (K.2 k hk)⟩
  refine ⟨_, ?_, back_31 Ku, ⟨fun k hk => by rw [upA_ob (by omega), f1 k (by omega) (by omega) (by omega) (by omega) (by omega)], fun i x y => by rw [upA_ob (by decide), r1, upd_ob y, upd_ob x]⟩⟩
  unfold f_X12_wouldFall
  rw [e1, obS]
  dsimp only
  rw [m_backM, obS]
theorem m_fallsInP {h : Hp} {n m : Nat} {e pp : Int32} (g : GdN n m (h 31)) (h21 : h 30 21 = pp) :
    ∃ h', f_X12_fallsIn e h = some ((fallW n m e pp (h 31)).1, h') ∧ KM h h' ∧ h' 30 0 = h 30 0 := by
  have u31 : (upA h 34 (mixR (h 31) (h 34) 492)) 31 = h 31 := upA_ob (by decide)
  obtain ⟨h', e1, w1, K1⟩ := m_wouldFallP (h := upA h 34 (mixR (h 31) (h 34) 492)) (e := e) (pp := pp) (w0 := h 31) (n := n) (m := m) (by rw [u31]; exact g) (by rw [upA_ob (by decide)]; exact h21) keep_K
  rw [u31] at e1
  refine ⟨h', ?_, KM_trans KM_34 (KM_KT K1 (by rw [w1, u31])), by rw [K1.2 0 (by decide) (by decide), upA_ob (by decide)]⟩
  unfold f_X12_fallsIn
  rw [m_keepsM, obS, e1, obS]
theorem fall_0 {n m : Nat} {e pp : Int32} {w : Row} : (fallW n m e pp w).1 = 0 ↔ sgS n m w e pp = 0 := by
  unfold fallW
  rw [flS]
  by_cases c : sgS n m w e pp = 0
  · rw [if_pos c]; exact ⟨fun _ => c, fun _ => rfl⟩
  · rw [if_neg c]
    exact ⟨fun q => (or_0.mp q).1, fun q => absurd q c⟩
theorem m_standsP {h : Hp} {n m : Nat} {e pp : Int32} (g : GdN n m (h 31)) (h21 : h 30 21 = 0) :
    ∃ h', f_X12_standsPropped pp e h = some (decide (sgS n m (h 31) e pp = 0), h') ∧ KM h h' ∧ h' 30 0 = h 30 0 := by
  have w1 : (up1 h 30 21 pp) 31 = h 31 := up1_ob (by decide)
  obtain ⟨u, e1, K1, z1⟩ := m_fallsInP (h := up1 h 30 21 pp) (e := e) (pp := pp) (n := n) (m := m) (by rw [w1]; exact g) up1_same
  rw [w1] at e1
  refine ⟨up1 u 30 21 0, ?_, ⟨fun k hk => ?_, fun i x y z => ?_⟩, by rw [up1_at, upd_ob (by decide), z1, up1_at, upd_ob (by decide)]⟩
  · unfold f_X12_standsPropped F_X12_standsPropped_18
    rw [bnd_eq, e1, obS]
    dsimp only
    rw [bnd_eq, toB1, toB0, obS, bnd_eq, obS]
    by_cases c : sgS n m (h 31) e pp = 0
    · rw [if_pos (fall_0.mpr c), decide_eq_true c]
    · rw [if_neg (fun q => c (fall_0.mp q)), decide_eq_false c]
  · rw [up1_ob (by omega), K1.1 k hk, up1_ob (by omega)]
  · by_cases c : i = 21
    · rw [c, up1_same, h21]
    · rw [up1_at, upd_ob c, K1.2 i x y z, up1_at, upd_ob c]
theorem pos_sub {b t : Nat} (hb : b < 2 ^ 30) (ht : t < 2 ^ 30) : (0 < nI b - nI t) ↔ t < b := by
  rw [Int32.lt_iff_toInt_lt, pk_sub_toInt (by omega) (by omega)]
  show (0 : Int) < _ ↔ _
  omega
theorem lt_sub {p b t : Nat} (hp : p < 2 ^ 30) (hb : b < 2 ^ 30) (ht : t < 2 ^ 30) : (nI p < nI b - nI t) ↔ t + p < b := by
  have e : (nI p).toInt = (p : Int) := by
    have := pk_sub_toInt (a := p) (b := 0) (by omega) (by omega)
    rw [show nI p - nI 0 = nI p from by rw [zsub (Nat.zero_le p)]; rfl] at this
    omega
  rw [Int32.lt_iff_toInt_lt, pk_sub_toInt (by omega) (by omega), e]
  omega
section PR
variable {n m : Nat} {w : Row} {e : Int32}
/-- it can't be held by a prop -/
def pxB (n m : Nat) (w : Row) (e : Int32) (i : Nat) : Bool := sgB n m w e 0 i && decide (w 7 < sgW n m w e 0 i)
theorem pr_i {X : Nat → Bool} {i : Nat} (g : Gd n m w) (hi : i < n) : sgB n m w e (orTo X 8) i = (sgB n m w e 0 i && (!X i || pxB n m w e i)) := by
  have h8 := g.1.2.1
  obtain ⟨b, t, b1, t1, eb, et, es⟩ := sg_N (e := e) g (show i < 8 by omega)
  obtain ⟨p, p1, ep⟩ := g.2.2.2.2.2.2.2.1
  unfold pxB sgB
  rw [es, ep]
  unfold sgW
  rw [eb, et, tb8 (by omega), ep]
  cases falB w i
  · rw [Bool.not_false, Bool.true_and, Bool.true_and]
    cases X i
    · rw [tff, Int32.add_zero, Bool.not_false, Bool.true_or, Bool.and_true]
    · rw [ttt, zadd, Bool.not_true, Bool.false_or, Bool.eq_iff_iff, Bool.and_eq_true, Bool.and_eq_true, decide_eq_true_iff, decide_eq_true_iff, decide_eq_true_iff, pos_sub (by omega) (by omega), pos_sub (by omega) (by omega), lt_sub (by omega) (by omega) (by omega)]
      omega
  · rfl
theorem pr_st {X : Nat → Bool} (g : Gd n m w) : sgS n m w e (orTo X 8) = 0 ↔ ∀ i, i < n → sgB n m w e 0 i = true → X i = true ∧ pxB n m w e i = false := by
  have h8 := g.1.2.1
  unfold sgS
  rw [orTo_0 (by omega)]
  constructor
  · intro q i hi x
    have := q i hi
    rw [pr_i g hi, x, Bool.true_and, Bool.or_eq_false_iff] at this
    exact ⟨by simpa using this.1, this.2⟩
  · intro q i hi
    rw [pr_i g hi]
    cases c : sgB n m w e 0 i
    · rfl
    · have ⟨a, b⟩ := q i hi c
      rw [a, b]; rfl
def prV (n m : Nat) (w : Row) (e : Int32) : Int32 := if anyTo (pxB n m w e) n then -1 else sgS n m w e 0
theorem c_props {h : Hp} (g : Gd n m w) (S : SV h n m w e) (h15 : h 100 15 = w 7) : F_X11_props_33 (sgS n m w e 0) FU 0 h = some (Except.ok (prV n m w e), h) := by
  have h8 := g.1.2.1
  have Q := loopV (S_X11_props_33 (sgS n m w e 0)) (fun _ _ => none) (fun q (s : Nat) => q (nI s) h) 8 (fun j s => s = j ∧ ∀ i, i < j → i < n → pxB n m w e i = false)
    (fun r => r = some (Except.ok (prV n m w e), h)) (by omega) (fun j s hj hs => ?_) (fun s hs => ?_) 0 ⟨rfl, fun i hi => absurd hi (Nat.not_lt_zero i)⟩
  · exact Q
  · obtain ⟨rfl, z⟩ := hs
    have s9 := (S s hj).2.2.2.1
    have tbs : tb (sgS n m w e 0) s = (decide (s < n) && sgB n m w e 0 s) := by
      unfold sgS; rw [orTo_tb _ _ (by omega) _ (by omega)]
    by_cases c : s < n ∧ sgB n m w e 0 s = true
    · have cb : shr (sgS n m w e 0) (nI s) &&& 1 = 1 := by rw [shr_tb (by omega), tbs, decide_eq_true c.1, c.2]; rfl
      have up : upB n w s = true := by
        rw [up_fal c.1]
        exact (Bool.and_eq_true_iff.mp c.2).1
      rw [up, ttt] at s9
      by_cases d : w 7 < sgW n m w e 0 s
      · refine Or.inr ⟨_, rfl, fun q => ?_⟩
        show S_X11_props_33 (sgS n m w e 0) q (nI s) h = _
        unfold S_X11_props_33 prV
        rw [show (8 : Int32) = nI 8 from rfl, if_pos ((nI_ltI (by omega) (by omega)).mpr hj), if_pos cb, gdT (nI_ix (by omega) (by omega)), nI_clamp (by omega), h15, s9, if_pos d, anyTo_t.mpr ⟨s, c.1, by unfold pxB; rw [c.2, decide_eq_true d]; rfl⟩, ttt]
      · refine Or.inl ⟨s + 1, ⟨rfl, fun i x y => ?_⟩, fun q => ?_⟩
        · by_cases f : i = s
          · rw [f]; unfold pxB; rw [decide_eq_false d, Bool.and_false]
          · exact z i (by omega) y
        · show S_X11_props_33 (sgS n m w e 0) q (nI s) h = q (nI (s + 1)) h
          unfold S_X11_props_33
          rw [show (8 : Int32) = nI 8 from rfl, if_pos ((nI_ltI (by omega) (by omega)).mpr hj), if_pos cb, gdT (nI_ix (by omega) (by omega)), nI_clamp (by omega), h15, s9, if_neg d, nI_1]
    · have cb : ¬ shr (sgS n m w e 0) (nI s) &&& 1 = 1 := by
        rw [shr_tb (by omega), tbs, Bool.and_eq_true, decide_eq_true_iff]
        exact c
      refine Or.inl ⟨s + 1, ⟨rfl, fun i x y => ?_⟩, fun q => ?_⟩
      · by_cases f : i = s
        · rw [f] at y ⊢
          unfold pxB
          rw [Bool.eq_false_iff.mpr (fun q => c ⟨y, q⟩), Bool.false_and]
        · exact z i (by omega) y
      · show S_X11_props_33 (sgS n m w e 0) q (nI s) h = q (nI (s + 1)) h
        unfold S_X11_props_33
        rw [show (8 : Int32) = nI 8 from rfl, if_pos ((nI_ltI (by omega) (by omega)).mpr hj), if_neg cb, nI_1]
  · obtain ⟨rfl, z⟩ := hs
    refine ⟨_, rfl, fun q => ?_⟩
    show S_X11_props_33 (sgS n m w e 0) q (nI 8) h = _
    unfold S_X11_props_33 prV
    rw [show (8 : Int32) = nI 8 from rfl, if_neg (by decide), (anyTo_f n).mpr (fun i hi => z i (by omega) hi), tff]
end PR
/-! numbers of sets -/
def bxN (x k : Nat) : Bool := x.testBit k
theorem bx_nI : ∀ x, x < 256 → nI x = orTo (bxN x) 8 ∧ stN (bxN x) 8 = x := by decide +kernel
theorem stN_mo {p q : Nat → Bool} : ∀ n, (∀ k, k < n → p k = true → q k = true) → stN p n ≤ stN q n
  | 0, _ => Nat.le_refl 0
  | n + 1, h => by
    have a := stN_mo n (fun k hk => h k (by omega))
    show stN p n + (if p n then 2 ^ n else 0) ≤ stN q n + (if q n then 2 ^ n else 0)
    cases c : p n
    · rw [tff]
      exact Nat.le_trans a (Nat.le_add_right _ _)
    · rw [h n (by omega) c, ttt]
      omega
theorem stN_lt {p : Nat → Bool} : ∀ n, stN p n < 2 ^ n
  | 0 => Nat.zero_lt_one
  | n + 1 => by
    have := stN_lt (p := p) n
    show stN p n + (if p n then 2 ^ n else 0) < 2 ^ (n + 1)
    rw [Nat.pow_succ]
    split <;> omega
theorem cnt_mo {p q : Nat → Bool} : ∀ n, (∀ k, k < n → p k = true → q k = true) → cnt p n ≤ cnt q n
  | 0, _ => Nat.le_refl 0
  | n + 1, h => by
    have a := cnt_mo n (fun k hk => h k (by omega))
    show cnt p n + (if p n then 1 else 0) ≤ cnt q n + (if q n then 1 else 0)
    cases c : p n
    · rw [tff]
      exact Nat.le_trans a (Nat.le_add_right _ _)
    · rw [h n (by omega) c, ttt]
      omega
theorem m_props {h : Hp} {n m : Nat} {e : Int32} (g : Gd n m (h 31)) (h21 : h 30 21 = 0) : ∃ h1, F_X12_props_29 e (orTo (upS (h 31)) n) FU (-1) 0 h = some (prV n m (h 31) e, h1) ∧ KM h h1 ∧ h1 30 0 = h 30 0 := by
  have h8 := g.1.2.1
  obtain ⟨sB, hsB⟩ : ∃ sB, (fun k => decide (k < n) && sgB n m (h 31) e 0 k) = sB := ⟨_, rfl⟩
  have eS : sgS n m (h 31) e 0 = orTo sB 8 := by rw [← hsB]; exact orTo_8 h8
  have sBt : ∀ k, sB k = true ↔ k < n ∧ sgB n m (h 31) e 0 k = true := fun k => by rw [← hsB, Bool.and_eq_true, decide_eq_true_iff]
  have aN := stN_lt (p := upB n (h 31)) 8
  have sN := stN_lt (p := sB) 8
  have hall : orTo (upS (h 31)) n = nI (stN (upB n (h 31)) 8) := by rw [← up_std h8, orTo_stN]
  have sa : stN sB 8 ≤ stN (upB n (h 31)) 8 := stN_mo 8 fun k hk x => by
    have ⟨a, b⟩ := (sBt k).mp x
    rw [up_fal a]
    exact (Bool.and_eq_true_iff.mp b).1
  rw [hall]
  -- the answer of a set
  have st : ∀ x, x < 256 → (sgS n m (h 31) e (nI x) = 0 ↔ (anyTo (pxB n m (h 31) e) n = false ∧ ∀ k, k < 8 → sB k = true → bxN x k = true)) := by
    intro x hx
    rw [(bx_nI x hx).1, pr_st g]
    constructor
    · intro q
      refine ⟨(anyTo_f n).mpr fun i hi => ?_, fun k _ y => (q k ((sBt k).mp y).1 ((sBt k).mp y).2).1⟩
      cases c : sgB n m (h 31) e 0 i
      · unfold pxB; rw [c]; rfl
      · exact (q i hi c).2
    · rintro ⟨q1, q2⟩ i hi c
      exact ⟨q2 i (by omega) ((sBt i).mpr ⟨hi, c⟩), (anyTo_f n).mp q1 i hi⟩
  have Q := loopW (S_X12_props_29 e (nI (stN (upB n (h 31)) 8))) (fun _ _ _ => none) (fun q (s : Nat × Hp) => q (if s.1 ≤ stN sB 8 then -1 else prV n m (h 31) e) (nI s.1) s.2) (stN (upB n (h 31)) 8 + 1) (fun j s => s.1 = j ∧ KM h s.2 ∧ s.2 30 0 = h 30 0)
    (fun r => ∃ h1, r = some (prV n m (h 31) e, h1) ∧ KM h h1 ∧ h1 30 0 = h 30 0) (by omega) (fun j s hj hs => ?_) (fun s hs => ?_) (0, h) ⟨rfl, KM_refl h, rfl⟩
  · rw [if_pos (Nat.zero_le _)] at Q
    exact Q
  · obtain ⟨x, u⟩ := s
    dsimp only at hs
    obtain ⟨hx, K, z⟩ := hs
    obtain rfl : x = j := hx
    have u31 : u 31 = h 31 := K.1 31 (by omega)
    have hx : x < 256 := by omega
    obtain ⟨v, e1, K1, z1⟩ := m_standsP (h := u) (n := n) (m := m) (e := e) (pp := nI x) (by rw [u31]; exact g.1) (by rw [K.2 21 (by decide) (by decide) (by decide)]; exact h21)
    rw [u31] at e1
    have skip : ¬ x = stN sB 8 ∨ prV n m (h 31) e = -1 → (if x ≤ stN sB 8 then (-1 : Int32) else prV n m (h 31) e) = (if x + 1 ≤ stN sB 8 then -1 else prV n m (h 31) e) := by
      intro q
      by_cases c : x ≤ stN sB 8
      · rw [if_pos c]
        by_cases d : x + 1 ≤ stN sB 8
        · rw [if_pos d]
        · rw [if_neg d]
          rcases q with q | q
          · exact absurd (by omega) q
          · rw [q]
      · rw [if_neg c, if_neg (by omega)]
    have lt : ¬ nI (stN (upB n (h 31)) 8) < nI x := fun q => by
      have := (nI_ltI (by omega) (by omega)).mp q
      omega
    -- what the set's trial leads to
    have go : (∀ q : Int32 → Int32 → Hp → Option (Int32 × Hp), F_X12_props_64 q e (nI (stN (upB n (h 31)) 8)) (if x ≤ stN sB 8 then -1 else prV n m (h 31) e) (nI x) u = q (if x + 1 ≤ stN sB 8 then -1 else prV n m (h 31) e) (nI (x + 1)) v) ∨ (stN sB 8 < x ∧ cnt sB 8 ≤ cnt (bxN x) 8 ∧ anyTo (pxB n m (h 31) e) n = false) := by
      by_cases c : sgS n m (h 31) e (nI x) = 0
      · have ⟨c1, c2⟩ := (st x hx).mp c
        have le : stN sB 8 ≤ x := by
          have := stN_mo 8 c2
          rw [(bx_nI x hx).2] at this
          exact this
        by_cases d : x = stN sB 8
        · refine Or.inl fun q => ?_
          have pv : prV n m (h 31) e = nI x := by
            unfold prV; rw [c1, tff, eS, orTo_stN, d]
          unfold F_X12_props_64
          rw [e1, obS, decide_eq_true c]
          dsimp only
          rw [ttt, nI_1, if_neg (show ¬ x + 1 ≤ stN sB 8 by omega), pv]
        · exact Or.inr ⟨by omega, cnt_mo 8 c2, c1⟩
      · refine Or.inl fun q => ?_
        unfold F_X12_props_64
        rw [e1, obS, decide_eq_false c]
        dsimp only
        rw [tff, nI_1, skip (Classical.or_iff_not_imp_left.mpr fun y => by
          have y' : x = stN sB 8 := Classical.not_not.mp y
          unfold prV
          cases d : anyTo (pxB n m (h 31) e) n
          · refine absurd ((st x hx).mpr ⟨d, fun k hk b => ?_⟩) c
            have := congrArg (fun i => tb i k) ((bx_nI x hx).1.symm.trans ((congrArg nI y').trans (orTo_stN sB).symm))
            rw [tb8 hk, tb8 hk, b] at this
            exact this
          · rfl)]
    rcases go with go | ⟨g1, g2, g3⟩
    · by_cases c : nI x &&& (nI (stN (upB n (h 31)) 8) ^^^ (-1)) = 0
      · by_cases d : (if x ≤ stN sB 8 then (-1 : Int32) else prV n m (h 31) e) = -1
        · refine ⟨(x + 1, v), ⟨rfl, KM_trans K K1, z1.trans z⟩, fun q => ?_⟩
          show S_X12_props_29 e (nI (stN (upB n (h 31)) 8)) q (if x ≤ stN sB 8 then -1 else prV n m (h 31) e) (nI x) u = q (if x + 1 ≤ stN sB 8 then -1 else prV n m (h 31) e) (nI (x + 1)) v
          unfold S_X12_props_29
          rw [if_neg lt, if_pos c, if_pos d, go]
        · by_cases f : f_J6_bitCount_0f7a4 (nI x) u < f_J6_bitCount_0f7a4 (if x ≤ stN sB 8 then (-1 : Int32) else prV n m (h 31) e) u
          · refine ⟨(x + 1, v), ⟨rfl, KM_trans K K1, z1.trans z⟩, fun q => ?_⟩
            show S_X12_props_29 e (nI (stN (upB n (h 31)) 8)) q (if x ≤ stN sB 8 then -1 else prV n m (h 31) e) (nI x) u = q (if x + 1 ≤ stN sB 8 then -1 else prV n m (h 31) e) (nI (x + 1)) v
            unfold S_X12_props_29
            rw [if_neg lt, if_pos c, if_neg d, if_pos f, go]
          · refine ⟨(x + 1, u), ⟨rfl, K, z⟩, fun q => ?_⟩
            show S_X12_props_29 e (nI (stN (upB n (h 31)) 8)) q (if x ≤ stN sB 8 then -1 else prV n m (h 31) e) (nI x) u = q (if x + 1 ≤ stN sB 8 then -1 else prV n m (h 31) e) (nI (x + 1)) u
            have ne : ¬ x = stN sB 8 := fun y => d (if_pos (by omega))
            unfold S_X12_props_29
            rw [if_neg lt, if_pos c, if_neg d, if_neg f, nI_1, skip (Or.inl ne)]
      · have ne : ¬ x = stN sB 8 := fun y => c (by
          rw [(bx_nI x hx).1, ← orTo_stN, orTo_dn (by omega)]
          refine or0_8.mpr fun k hk => ?_
          cases d : bxN x k
          · rfl
          · have t := congrArg (fun i => tb i k) ((bx_nI x hx).1.symm.trans ((congrArg nI y).trans (orTo_stN sB).symm))
            rw [tb8 hk, tb8 hk, d] at t
            have ⟨a, b⟩ := (sBt k).mp t.symm
            rw [up_fal a, (Bool.and_eq_true_iff.mp b).1]
            rfl)
        refine ⟨(x + 1, u), ⟨rfl, K, z⟩, fun q => ?_⟩
        show S_X12_props_29 e (nI (stN (upB n (h 31)) 8)) q (if x ≤ stN sB 8 then -1 else prV n m (h 31) e) (nI x) u = q (if x + 1 ≤ stN sB 8 then -1 else prV n m (h 31) e) (nI (x + 1)) u
        unfold S_X12_props_29
        rw [if_neg lt, if_neg c, nI_1, skip (Or.inl ne)]
    · refine ⟨(x + 1, u), ⟨rfl, K, z⟩, fun q => ?_⟩
      show S_X12_props_29 e (nI (stN (upB n (h 31)) 8)) q (if x ≤ stN sB 8 then -1 else prV n m (h 31) e) (nI x) u = q (if x + 1 ≤ stN sB 8 then -1 else prV n m (h 31) e) (nI (x + 1)) u
      have pv : prV n m (h 31) e = orTo sB 8 := by unfold prV; rw [g3, tff, eS]
      have n1 : ¬ orTo sB 8 = -1 := fun y => by
        have := congrArg (fun i => tb i 31) y
        rw [tb_8hi (by omega) (by omega), tb_m1 (by omega)] at this
        exact Bool.noConfusion this
      have nb : ¬ f_J6_bitCount_0f7a4 (nI x) u < f_J6_bitCount_0f7a4 (orTo sB 8) u := by
        rw [(bx_nI x hx).1, bcount8, bcount8]
        intro y
        have a1 := cnt_le (bxN x) 8
        have a2 := cnt_le sB 8
        have := (nI_ltI (by omega) (by omega)).mp y
        omega
      unfold S_X12_props_29
      rw [if_neg lt, if_neg (show ¬ x ≤ stN sB 8 by omega), if_neg (show ¬ x + 1 ≤ stN sB 8 by omega), pv, if_neg n1, if_neg nb, nI_1, ite_self]
  · obtain ⟨x, u⟩ := s
    dsimp only at hs
    obtain ⟨rfl, K, z⟩ := hs
    refine ⟨_, ⟨u, rfl, K, z⟩, fun q => ?_⟩
    show S_X12_props_29 e (nI (stN (upB n (h 31)) 8)) q (if stN (upB n (h 31)) 8 + 1 ≤ stN sB 8 then -1 else prV n m (h 31) e) (nI (stN (upB n (h 31)) 8 + 1)) u = _
    unfold S_X12_props_29
    rw [if_pos ((nI_ltI (by omega) (by omega)).mpr (by omega)), if_neg (by omega)]
theorem sp_22 {a : Nat → Int32} {h : Hp} (I : Inv h) : ∃ h' n, St_22 a h h' n ∧ n ≤ 1 ∧ Inv h' := by
  obtain ⟨⟨n, m, N⟩, _⟩ := id I
  have g := N.1
  have h8 := g.1.2.1
  rcases argI (a 1) (n := 7) (by omega) with ⟨e, he, e1⟩ | hx
  · obtain ⟨r, c1, S, _, f⟩ := c_measure (c := 100) (r := 500) (e := e) (by decide) (Or.inl (by decide)) (by decide) g N.2.1 N.2.2.2 he
    have h15 : r 100 15 = h 31 7 := by rw [f 100 (by omega) (by omega)]; exact N.2.1.2.2.2.2.2.2.2.1
    obtain ⟨h', k, s, l, J⟩ := qOk (c := f_X11_props (a 1)) (md := f_X12_props (a 1)) (v := prV n m (h 31) (nI e)) I ⟨r, by
        rw [e1]
        unfold f_X11_props
        rw [ckE_i he, obS, exOk, c1, obS, c_saggingSet g S, obS, c_props g S h15], KC_of f⟩ (fun q J qe => by
        have w := w30' qe
        obtain ⟨u, m1, K1, z1⟩ := m_props (h := up1 q 30 0 0) (n := n) (m := m) (e := nI e) (by rw [w]; exact g) (by rw [up1_at, upd_ob (by decide)]; exact J.2.2.2.2)
        rw [w] at m1
        refine ⟨u, ?_, by rw [z1, up1_same], KM_trans KM_0 K1⟩
        rw [e1]
        unfold f_X12_props
        rw [bnd_eq, noE_i he, tIf, obS]
        dsimp only
        rw [tff, std_eq (by rw [w]; exact g.1.1) h8, obS, w, m1])
    exact ⟨h', k, Or.inl s, l, J⟩
  · obtain ⟨h', k, s, l, J⟩ := qEr (c := f_X11_props (a 1)) (md := f_X12_props (a 1)) (E := "java/lang/IndexOutOfBoundsException") (t := 1) I ⟨h, by
        unfold f_X11_props
        rw [ckE_x hx, obS, exEr], KC_refl h⟩ (fun q _ qe => bE (by
        unfold f_X12_props
        rw [bnd_eq, noE_x hx, tIt, obS]
        rfl))
    exact ⟨h', k, Or.inr s, l, J⟩
