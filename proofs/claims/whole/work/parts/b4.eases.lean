/-! LAYER 4. eases -/
def seW (n m : Nat) (w : Row) (i o : Nat) : Int32 := (msW n m (wdW w i o) (w 4) n).2
def esP (n m : Nat) (w : Row) (i o : Nat) (s : Int32 × Int32) : Int32 × Int32 := if upB n w i && upB n w o then (if seW n m w i o < s.1 then (seW n m w i o, nI (8 * i + o)) else s) else s
def esI (n m : Nat) (w : Row) (i : Nat) (s : Int32 × Int32) (T : Nat) : Int32 × Int32 := fldN (fun t => esP n m w i (i + 1 + t)) s T
def esW (n m : Nat) (w : Row) (L : Int32) (N : Nat) : Int32 × Int32 := fldN (fun i s => esI n m w i s (7 - i)) (L, -1) N
theorem es_n {n m : Nat} {w : Row} {L : Int32} (h8 : n ≤ 8) : esW n m w L 8 = esW n m w L n :=
  fldN_ext 8 h8 fun k x c _ => by
    show fldN (fun t => esP n m w k (k + 1 + t)) x (7 - k) = x
    rw [fldN_ext (n := 0) (7 - k) (Nat.zero_le _) (fun t y _ _ => by unfold esP; rw [upB_hi c, Bool.false_and, tff])]
    rfl
theorem es_t {n m j : Nat} {w : Row} {s : Int32 × Int32} (h8 : n ≤ 8) : esI n m w j s (7 - j) = esI n m w j s (n - 1 - j) :=
  fldN_ext (7 - j) (by omega) fun t y c d => by unfold esP; rw [upB_hi (i := j + 1 + t) (by omega), Bool.and_false, tff]
theorem wd_ob {i o k : Nat} {w : Row} (hi : i < 8) (ho : o < 8) (hk : k < 10 ∨ 74 ≤ k) : wdW w i o k = w k := by unfold wdW; rw [upd_ob (by omega), upd_ob (by omega)]
theorem c_sagWed {h : Hp} {n m i o : Nat} (N : NOW n m h) (hi : i < n) (ho : o < n) (h1 : upB n (h 31) i = true) (h2 : upB n (h 31) o = true) (cc : i ≠ o) : ∃ h1, f_X11_sagWed (nI i) (nI o) h = some (seW n m (h 31) i o, h1) ∧ KC h h1 := by
  have h8 := N.1.1.2.1
  obtain ⟨e, he, ee⟩ := N.1.2.2.2.2.1
  obtain ⟨r, e1, K1, V, _, L, _⟩ := c_probe N
  obtain ⟨u, e2, V2, f2⟩ := c_marry V N.1 hi ho h1 h2 cc
  have gw := wd_Gd N.1 (show i < 8 by omega) (show o < 8 by omega) h1 h2 cc
  have L2 : LV 500 u (wdW (h 31) i o) := LV_congr (LV_fr L fun k x y => f2 k (by omega)) (fun k hk => wd_ob (by omega) (by omega) (by omega))
  obtain ⟨v, e3, S, _, f3⟩ := c_measure (c := 116) (r := 500) (e := e) (by decide) (Or.inl (by decide)) (by decide) gw V2 L2 (by omega)
  have V3 : CV0 116 v n m (wdW (h 31) i o) := CV0_fr V2 fun k x y => f3 k (by omega) (by omega)
  refine ⟨v, ?_, KC_trans K1 (fun k hk => by rw [f3 k (by omega) (by omega), f2 k (by omega)])⟩
  unfold f_X11_sagWed
  rw [e1, obS, e2, obS, V2.2.2.2.2.1, wd_ob (by omega) (by omega) (by omega), ee, e3, obS, V3.2.2.2.1.2.2, c_greatest h8 S, obS]
  unfold seW
  rw [ee]
theorem c_eases {h : Hp} {n m : Nat} {L : Int32} (N : NOW n m h) : ∃ h1, F_X11_eases_19 FU L (-1) 0 h = some ((esW n m (h 31) L n).2, h1) ∧ KC h h1 := by
  have h8 := N.1.1.2.1
  have Q := loopW S_X11_eases_19 (fun _ _ _ _ => none) (fun q (s : Nat × Hp) => q (esW n m (h 31) L s.1).1 (esW n m (h 31) L s.1).2 (nI s.1) s.2) 8 (fun j s => s.1 = j ∧ KC h s.2)
    (fun r => ∃ h1, r = some ((esW n m (h 31) L n).2, h1) ∧ KC h h1) (by omega) (fun j s hj hs => ?_) (fun s hs => ?_) (0, h) ⟨rfl, KC_refl h⟩
  · exact Q
  · obtain ⟨j', u⟩ := s
    dsimp only at hs
    obtain ⟨hj', K⟩ := hs
    obtain rfl : j' = j := hj'
    obtain ⟨X, hX⟩ : ∃ X, esW n m (h 31) L j' = X := ⟨_, rfl⟩
    have hX' : esW n m (h 31) L (j' + 1) = esI n m (h 31) j' X (7 - j') := by rw [← hX]; rfl
    have inner := loopQ (fun (c : Int32 → Int32 → Int32 → Hp → Option (Int32 × Hp)) k => F_X11_eases_30 c (nI j') k) (fun c q => S_X11_eases_30 c (nI j') q) (fun c k => rfl) (fun q (s : Nat × Hp) => q (esI n m (h 31) j' X s.1).1 (esI n m (h 31) j' X s.1).2 (nI (j' + 1 + s.1)) s.2) (7 - j')
      (fun i s => s.1 = i ∧ KC h s.2) (fun r => ∃ h1, KC h h1 ∧ r = fun c => c (esI n m (h 31) j' X (7 - j')).1 (esI n m (h 31) j' X (7 - j')).2 (nI (j' + 1)) h1) (by omega) (fun i s hi hs => ?_) (fun s hs => ?_) (0, u) ⟨rfl, K⟩
    · obtain ⟨u', K', e'⟩ := inner
      refine ⟨(j' + 1, u'), ⟨rfl, K'⟩, fun q => ?_⟩
      show S_X11_eases_19 q (esW n m (h 31) L j').1 (esW n m (h 31) L j').2 (nI j') u = q (esW n m (h 31) L (j' + 1)).1 (esW n m (h 31) L (j' + 1)).2 (nI (j' + 1)) u'
      have t := congrFun e' q
      dsimp only at t
      rw [hX', hX]
      unfold S_X11_eases_19
      rw [show (8 : Int32) = nI 8 from rfl, if_pos ((nI_ltI (by omega) (by omega)).mpr hj), nI_1]
      exact t
    · obtain ⟨i', v⟩ := s
      dsimp only at hs
      obtain ⟨hi', Kv⟩ := hs
      obtain rfl : i' = i := hi'
      have Nv := NOW_KC N Kv
      have v31 : v 31 = h 31 := KC_31 Kv
      obtain ⟨Y, hY⟩ : ∃ Y, esI n m (h 31) j' X i' = Y := ⟨_, rfl⟩
      have hY' : esI n m (h 31) j' X (i' + 1) = esP n m (h 31) j' (j' + 1 + i') Y := by rw [← hY]; rfl
      have e8 : (8 : Int32) * nI j' + nI (j' + 1 + i') = nI (8 * j' + (j' + 1 + i')) := by rw [show (8 : Int32) = nI 8 from rfl, zmul, zadd]
      have n71 : ∀ (c q : Int32 → Int32 → Int32 → Hp → Option (Int32 × Hp)), F_X11_eases_71 c q Y.1 Y.2 (nI j') (nI (j' + 1 + i')) Y.1 v = q Y.1 Y.2 (nI (j' + 1 + (i' + 1))) v := fun c q => by
        unfold F_X11_eases_71
        rw [if_neg Int32.lt_irrefl, nI_1]
        rfl
      by_cases c1 : upB n (h 31) j' = true
      · by_cases c2 : upB n (h 31) (j' + 1 + i') = true
        · obtain ⟨v', e2, K2⟩ := c_sagWed (i := j') (o := j' + 1 + i') Nv (upB_lt c1) (upB_lt c2) (by rw [v31]; exact c1) (by rw [v31]; exact c2) (by omega)
          rw [v31] at e2
          refine Or.inl ⟨(i' + 1, v'), ⟨rfl, KC_trans Kv K2⟩, fun c q => ?_⟩
          show S_X11_eases_30 c (nI j') q (esI n m (h 31) j' X i').1 (esI n m (h 31) j' X i').2 (nI (j' + 1 + i')) v = q (esI n m (h 31) j' X (i' + 1)).1 (esI n m (h 31) j' X (i' + 1)).2 (nI (j' + 1 + (i' + 1))) v'
          rw [hY', hY]
          unfold S_X11_eases_30 esP
          rw [if_pos (show nI (j' + 1 + i') < 8 from (nI_ltI (b := 8) (by omega) (by omega)).mpr (by omega)), c_isUp Nv.2.1 h8 (by omega), c_isUp Nv.2.1 h8 (by omega), v31, c1, c2, ttt, ttt, e2, obS]
          dsimp only
          rw [Bool.and_self, ttt]
          unfold F_X11_eases_71
          rw [e8, bnd_eq, nI_1]
          by_cases d : seW n m (h 31) j' (j' + 1 + i') < Y.1
          · rw [if_pos d, if_pos d]; rfl
          · rw [if_neg d, if_neg d]; rfl
        · have c2' : upB n (h 31) (j' + 1 + i') = false := Bool.eq_false_iff.mpr c2
          refine Or.inl ⟨(i' + 1, v), ⟨rfl, Kv⟩, fun c q => ?_⟩
          show S_X11_eases_30 c (nI j') q (esI n m (h 31) j' X i').1 (esI n m (h 31) j' X i').2 (nI (j' + 1 + i')) v = q (esI n m (h 31) j' X (i' + 1)).1 (esI n m (h 31) j' X (i' + 1)).2 (nI (j' + 1 + (i' + 1))) v
          rw [hY', hY]
          unfold S_X11_eases_30 esP
          rw [if_pos (show nI (j' + 1 + i') < 8 from (nI_ltI (b := 8) (by omega) (by omega)).mpr (by omega)), c_isUp Nv.2.1 h8 (by omega), c_isUp Nv.2.1 h8 (by omega), v31, c1, c2', ttt, tff, Bool.and_false, tff, n71]
      · have c1' : upB n (h 31) j' = false := Bool.eq_false_iff.mpr c1
        refine Or.inl ⟨(i' + 1, v), ⟨rfl, Kv⟩, fun c q => ?_⟩
        show S_X11_eases_30 c (nI j') q (esI n m (h 31) j' X i').1 (esI n m (h 31) j' X i').2 (nI (j' + 1 + i')) v = q (esI n m (h 31) j' X (i' + 1)).1 (esI n m (h 31) j' X (i' + 1)).2 (nI (j' + 1 + (i' + 1))) v
        rw [hY', hY]
        unfold S_X11_eases_30 esP
        rw [if_pos (show nI (j' + 1 + i') < 8 from (nI_ltI (b := 8) (by omega) (by omega)).mpr (by omega)), c_isUp Nv.2.1 h8 (by omega), v31, c1', tff, Bool.false_and, tff, n71]
    · obtain ⟨i', v⟩ := s
      dsimp only at hs
      obtain ⟨hi', Kv⟩ := hs
      subst hi'
      refine ⟨_, ⟨v, Kv, rfl⟩, fun c q => ?_⟩
      show S_X11_eases_30 c (nI j') q (esI n m (h 31) j' X (7 - j')).1 (esI n m (h 31) j' X (7 - j')).2 (nI (j' + 1 + (7 - j'))) v = c (esI n m (h 31) j' X (7 - j')).1 (esI n m (h 31) j' X (7 - j')).2 (nI (j' + 1)) v
      unfold S_X11_eases_30
      rw [show j' + 1 + (7 - j') = 8 by omega, if_neg (show ¬ nI 8 < 8 by decide), nI_1]
  · obtain ⟨j', u⟩ := s
    dsimp only at hs
    obtain ⟨hj', K⟩ := hs
    obtain rfl : j' = 8 := hj'
    refine ⟨_, ⟨u, rfl, K⟩, fun q => ?_⟩
    show S_X11_eases_19 q (esW n m (h 31) L 8).1 (esW n m (h 31) L 8).2 (nI 8) u = _
    unfold S_X11_eases_19
    rw [show (8 : Int32) = nI 8 from rfl, if_neg (by decide), es_n h8]
