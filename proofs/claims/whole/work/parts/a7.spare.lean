/-! LAYER 4. spare -/
/-- nobody falls for want of p on the first evenings -/
def spB (n m : Nat) (w : Row) : Nat → Nat → Bool
  | 0, _ => true
  | e + 1, p => spB n m w e p && decide (ndV n m w (nI e) p = 0)
def spX (n m : Nat) (w : Row) (e j : Nat) : Int32 := orTo (fun p => if p < j then spB n m w (e + 1) p else spB n m w e p) m
theorem spX_0 {n m : Nat} {w : Row} {e : Nat} : spX n m w e 0 = orTo (spB n m w e) m := orTo_congr m fun p _ => if_neg (Nat.not_lt_zero p)
theorem spX_m {n m : Nat} {w : Row} {e : Nat} : spX n m w e m = orTo (spB n m w (e + 1)) m := orTo_congr m fun p hp => if_pos hp
theorem spX_s {n m : Nat} {w : Row} {e j : Nat} (h6 : m ≤ 6) (hj : j < m) : spX n m w e (j + 1) = if ndV n m w (nI e) j = 0 then spX n m w e j else spX n m w e j &&& (shl 1 (nI j) ^^^ (-1)) := by
  have key : ∀ p, p < m → (if p < j + 1 then spB n m w (e + 1) p else spB n m w e p) = if p = j then (spB n m w e j && decide (ndV n m w (nI e) j = 0)) else (if p < j then spB n m w (e + 1) p else spB n m w e p) := fun p hp => by
    by_cases c : p = j
    · rw [if_pos c, c, if_pos (by omega)]; rfl
    · rw [if_neg c]
      by_cases d : p < j
      · rw [if_pos d, if_pos (by omega)]
      · rw [if_neg d, if_neg (by omega)]
  unfold spX
  rw [orTo_congr m key]
  by_cases z : ndV n m w (nI e) j = 0
  · rw [if_pos z, decide_eq_true z, Bool.and_true]
    refine orTo_congr m fun p hp => ?_
    by_cases c : p = j
    · rw [if_pos c, c, if_neg (by omega)]
    · rw [if_neg c]
  · rw [if_neg z, decide_eq_false z, Bool.and_false]
    refine tb_ext fun k hk => ?_
    rw [tb_and, tb_not hk, tb_s1 (by omega) hk, orTo_tb _ _ (by omega) _ hk, orTo_tb _ _ (by omega) _ hk]
    by_cases c : k = j
    · rw [if_pos c, decide_eq_true c]
      exact (Bool.and_false _).trans (Bool.and_false _).symm
    · rw [if_neg c, decide_eq_false c]
      exact (Bool.and_true _).symm
theorem ones_m : ∀ m, m ≤ 6 → shl 1 (nI m) - 1 = orTo (fun _ => true) m := by decide +kernel
theorem c_spare {h : Hp} {n m : Nat} (N : NOW n m h) : ∃ h1, f_X11_spare h = some (orTo (spB n m (h 31) 7) m, h1) ∧ KC h h1 := by
  have g := N.1
  have h6 := g.1.2.2.2.1
  have cm : h 100 10 = nI m := N.2.1.2.2.2.1.2.1
  have Q := loopW S_X11_spare_14 (fun _ _ _ => none) (fun q (s : Nat × Hp) => q (orTo (spB n m (h 31) s.1) m) (nI s.1) s.2) 7 (fun j s => s.1 = j ∧ KC h s.2)
    (fun r => ∃ h1, r = some (orTo (spB n m (h 31) 7) m, h1) ∧ KC h h1) (by omega) (fun j s hj hs => ?_) (fun s hs => ?_) (0, h) ⟨rfl, KC_refl h⟩
  · unfold f_X11_spare
    rw [bnd_eq, cm, ones_m m h6]
    exact Q
  · obtain ⟨j', u⟩ := s
    dsimp only at hs
    obtain ⟨hj', K⟩ := hs
    obtain rfl : j' = j := hj'
    obtain ⟨u1, e1, K1, _⟩ := c_fallsNow (e := j') (NOW_KC N K) hj
    rw [KC_31 K] at e1
    have inner := loopQ (fun (c : Int32 → Int32 → Hp → Option (Int32 × Hp)) k => F_X11_spare_29 c (nI j') (fallW n m (nI j') 0 (h 31)).1 k) (fun c q => S_X11_spare_29 c (nI j') (fallW n m (nI j') 0 (h 31)).1 q) (fun c k => rfl) (fun q (s : Nat × Hp) => q (spX n m (h 31) j' s.1) (nI s.1) s.2) m
      (fun i s => s.1 = i ∧ KC h s.2) (fun r => ∃ h1, KC h h1 ∧ r = fun c => c (orTo (spB n m (h 31) (j' + 1)) m) (nI (j' + 1)) h1) (by omega) (fun i s hi hs => ?_) (fun s hs => ?_) (0, u1) ⟨rfl, KC_trans K K1⟩
    · obtain ⟨u', K', e'⟩ := inner
      refine ⟨(j' + 1, u'), ⟨rfl, K'⟩, fun q => ?_⟩
      show S_X11_spare_14 q (orTo (spB n m (h 31) j') m) (nI j') u = q (orTo (spB n m (h 31) (j' + 1)) m) (nI (j' + 1)) u'
      have t := congrFun e' q
      dsimp only at t
      rw [spX_0] at t
      unfold S_X11_spare_14
      rw [show (7 : Int32) = nI 7 from rfl, if_pos ((nI_ltI (by omega) (by omega)).mpr hj), e1, obS]
      exact t
    · obtain ⟨i', v⟩ := s
      dsimp only at hs
      obtain ⟨hi', Kv⟩ := hs
      obtain rfl : i' = i := hi'
      obtain ⟨v', e2, K2⟩ := c_fallsWithout (p := i') (e := j') (NOW_KC N Kv) hi hj
      rw [KC_31 Kv] at e2
      refine Or.inl ⟨(i' + 1, v'), ⟨rfl, KC_trans Kv K2⟩, fun c q => ?_⟩
      show S_X11_spare_29 c (nI j') (fallW n m (nI j') 0 (h 31)).1 q (spX n m (h 31) j' i') (nI i') v = q (spX n m (h 31) j' (i' + 1)) (nI (i' + 1)) v'
      have nd : (fallW n m (nI j') 0 (plW (h 31) i' (-1))).1 &&& ((fallW n m (nI j') 0 (h 31)).1 ^^^ (-1)) = ndV n m (h 31) (nI j') i' := rfl
      unfold S_X11_spare_29
      rw [show v 100 10 = nI m by rw [Kv 100 (by omega)]; exact cm, if_pos ((nI_ltI (by omega) (by omega)).mpr hi), e2, obS]
      dsimp only
      rw [nd, spX_s h6 hi]
      by_cases z : ndV n m (h 31) (nI j') i' = 0
      · rw [if_pos z, if_pos z, nI_1]
      · rw [if_neg z, if_neg z, bnd_eq, nI_1]
    · obtain ⟨i', v⟩ := s
      dsimp only at hs
      obtain ⟨hi', Kv⟩ := hs
      obtain rfl : m = i' := hi'.symm
      refine ⟨_, ⟨v, Kv, rfl⟩, fun c q => ?_⟩
      show S_X11_spare_29 c (nI j') (fallW n m (nI j') 0 (h 31)).1 q (spX n m (h 31) j' m) (nI m) v = c (orTo (spB n m (h 31) (j' + 1)) m) (nI (j' + 1)) v
      unfold S_X11_spare_29
      rw [show v 100 10 = nI m by rw [Kv 100 (by omega)]; exact cm, if_neg (fun z => absurd ((nI_ltI (by omega) (by omega)).mp z) (Nat.lt_irrefl m)), spX_m, nI_1]
  · obtain ⟨j', u⟩ := s
    dsimp only at hs
    obtain ⟨hj', K⟩ := hs
    obtain rfl : j' = 7 := hj'
    refine ⟨_, ⟨u, rfl, K⟩, fun q => ?_⟩
    show S_X11_spare_14 q (orTo (spB n m (h 31) 7) m) (nI 7) u = _
    unfold S_X11_spare_14
    rw [show (7 : Int32) = nI 7 from rfl, if_neg (by decide)]
