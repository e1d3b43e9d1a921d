/-! LAYER 4. What stays in its bounds; the class's FALL -/
theorem bd_eq {w w' : Row} {k b : Nat} (e : w' k = w k) (h : bd w k b) : bd w' k b := by
  unfold bd at h ⊢; rw [e]; exact h
theorem tell_Gd {n m : Nat} {w : Row} {x1 x2 x3 x4 : Int32} (g : Gd n m w) : Gd n m (tellW x1 x2 x3 x4 w) := by
  have o : ∀ k, k ≠ 8 → (k < 132 ∨ 492 ≤ k) → tellW x1 x2 x3 x4 w k = w k := fun k a b => tell_ob a b
  obtain ⟨gn, g1, g2, g3, g4, g5, g6, g7, g9, g8⟩ := g
  have f8 := gn.2.1
  have f6 := gn.2.2.2.1
  refine ⟨GdN_congr (fun k hk => o k (by omega) (by omega)) gn, fun i hi => ?_, fun i j hi hj => ?_, fun p hp => ?_, ?_, ?_, ?_, ?_, ?_, ?_⟩
  · obtain ⟨a, b, c, d, e⟩ := g1 i hi
    exact ⟨bd_eq (o _ (by omega) (by omega)) a, bd_eq (o _ (by omega) (by omega)) b, bd_eq (o _ (by omega) (by omega)) c, bd_eq (o _ (by omega) (by omega)) d, bd_eq (o _ (by omega) (by omega)) e⟩
  · obtain ⟨a, b⟩ := g2 i j hi hj
    have u : ∀ i, i < 8 → upB n (tellW x1 x2 x3 x4 w) i = upB n w i := fun i hi => by unfold upB; rw [se_fal hi tell_SE]
    refine ⟨bd_eq (o _ (by omega) (by omega)) a, fun q => ?_⟩
    rw [u i hi, u j hj] at q
    rw [o _ (by omega) (by omega)]; exact b q
  · obtain ⟨a, b, c⟩ := g3 p hp
    refine ⟨?_, bd_eq (o _ (by omega) (by omega)) b, bd_eq (o _ (by omega) (by omega)) c⟩
    rw [o _ (by omega) (by omega)]
    rcases a with a | ⟨i, x, y, z⟩
    · exact Or.inl a
    · exact Or.inr ⟨i, x, by rw [se_fal (by omega) tell_SE]; exact y, z⟩
  · exact bd_eq (o _ (by omega) (by omega)) g4
  · exact bd_eq (o _ (by omega) (by omega)) g5
  · exact bd_eq (o _ (by omega) (by omega)) g6
  · exact bd_eq (o _ (by omega) (by omega)) g7
  · exact bd_eq (o _ (by omega) (by omega)) g9
  · obtain ⟨L, hL, e⟩ := g8
    refine ⟨min 60 (L + 1), by omega, ?_⟩
    rw [tell_8, e, nI_1, show (60 : Int32) = nI 60 from rfl, zmin (by omega) (by omega)]
theorem gone_Gd {n m i : Nat} {w : Row} (hi : i < n) (g : Gd n m w) : Gd n m (goneW i m w) := by
  obtain ⟨gn, g1, g2, g3, g4, g5, g6, g7, g9, g8⟩ := g
  have f8 := gn.2.1
  have f6 := gn.2.2.2.1
  have o : ∀ k, (k < 10 ∨ (74 ≤ k ∧ k < 114 ∧ k ≠ 74 + 5 * i + 4) ∨ (114 ≤ k ∧ k < 132 ∧ (k - 114) % 3 ≠ 0) ∨ 132 ≤ k) → goneW i m w k = w k := fun k h => gone_ob (by omega) f6 h
  refine ⟨GdN_congr (fun k hk => o k (by omega)) gn, fun j hj => ?_, fun a b ha hb => ?_, fun p hp => ?_, ?_, ?_, ?_, ?_, ?_, ?_⟩
  · obtain ⟨a, b, c, d, e⟩ := g1 j hj
    refine ⟨bd_eq (o _ (by omega)) a, bd_eq (o _ (by omega)) b, bd_eq (o _ (by omega)) c, bd_eq (o _ (by omega)) d, ?_⟩
    by_cases z : j = i
    · subst z
      refine ⟨1, by omega, ?_⟩
      have := gone_fal (i := j) (m := m) (j := j) (w := w) (by omega) (by omega) f6
      rw [decide_eq_true rfl] at this
      unfold falB at this
      simp only [Bool.true_or, decide_eq_true_eq] at this
      exact this
    · exact bd_eq (o _ (by omega)) e
  · obtain ⟨x, y⟩ := g2 a b ha hb
    have e := gone_pt (i := i) (m := m) (a := a) (o := b) (w := w) (by omega) ha hb
    unfold ptR at e
    rw [gone_up (by omega) ha f6, gone_up (by omega) hb f6]
    refine ⟨?_, fun q => ?_⟩
    · by_cases z : a = i ∨ b = i
      · rw [if_pos z] at e; exact ⟨0, by omega, e⟩
      · rw [if_neg z] at e; exact bd_eq e x
    · rw [e]
      by_cases z : a = i ∨ b = i
      · rw [if_pos z]
      · rw [if_neg z]
        rw [decide_eq_false (fun q => z (Or.inl q)), decide_eq_false (fun q => z (Or.inr q))] at q
        simp only [Bool.not_false, Bool.and_true] at q
        exact y q
  · obtain ⟨x, y, z⟩ := g3 p hp
    refine ⟨?_, bd_eq (o _ (by omega)) y, bd_eq (o _ (by omega)) z⟩
    have e := gone_at (i := i) (m := m) (p := p) (w := w) (by omega) hp
    unfold atR at e
    rw [e]
    by_cases q : w (114 + 3 * p) = nI i
    · rw [if_pos q]; exact Or.inl rfl
    · rw [if_neg q]
      rcases x with x | ⟨a, ha, fa, ea⟩
      · exact Or.inl x
      · refine Or.inr ⟨a, ha, ?_, ea⟩
        rw [gone_fal (by omega) (by omega) f6, fa, Bool.or_false]
        exact decide_eq_false fun r => q (by rw [ea, r])
  · exact bd_eq (o _ (by omega)) g4
  · exact bd_eq (o _ (by omega)) g5
  · exact bd_eq (o _ (by omega)) g6
  · exact bd_eq (o _ (by omega)) g7
  · exact bd_eq (o _ (by omega)) g9
  · exact bd_eq (o _ (by omega)) g8
theorem gone_congr {i m : Nat} {a b : Row} (hi : i < 8) (hm : m ≤ 6) (h : ∀ k, k < 132 → k ≠ 8 → a k = b k) : ∀ k, k < 132 → k ≠ 8 → goneW i m a k = goneW i m b k := by
  have u : ∀ (x y : Row) (j : Nat) (v : Int32), (∀ k, k < 132 → k ≠ 8 → x k = y k) → ∀ k, k < 132 → k ≠ 8 → upd x j v k = upd y j v k := by
    intro x y j v h k hk h8
    unfold upd
    split
    · rfl
    · exact h k hk h8
  have P : ∀ j, ∀ x y : Row, (∀ k, k < 132 → k ≠ 8 → x k = y k) → ∀ k, k < 132 → k ≠ 8 → goneP i x j k = goneP i y j k := by
    intro j x y h
    induction j with
    | zero => exact h
    | succ j ih => exact u _ _ _ _ (u _ _ _ _ ih)
  have Q : ∀ j, j ≤ 6 → ∀ x y : Row, (∀ k, k < 132 → k ≠ 8 → x k = y k) → ∀ k, k < 132 → k ≠ 8 → goneQ (nI i) x j k = goneQ (nI i) y j k := by
    intro j hj x y h
    induction j with
    | zero => exact h
    | succ j ih =>
      intro k hk h8
      have ih := ih (by omega)
      show (if goneQ (nI i) x j (114 + 3 * j) = nI i then upd (goneQ (nI i) x j) (114 + 3 * j) (-1) else goneQ (nI i) x j) k = (if goneQ (nI i) y j (114 + 3 * j) = nI i then upd (goneQ (nI i) y j) (114 + 3 * j) (-1) else goneQ (nI i) y j) k
      rw [ih (114 + 3 * j) (by omega) (by omega)]
      split
      · exact u _ _ _ _ ih k hk h8
      · exact ih k hk h8
  exact Q m hm _ _ (P 8 _ _ (u _ _ _ _ h))
theorem tell_congr {x1 x2 x3 x4 : Int32} {a b : Row} (h : ∀ k, (k = 4 ∨ k = 5 ∨ k = 8 ∨ 132 ≤ k) → a k = b k) {k : Nat} (hk : k = 8 ∨ 132 ≤ k) : tellW x1 x2 x3 x4 a k = tellW x1 x2 x3 x4 b k := by
  unfold tellW upd
  rw [h 4 (by omega), h 5 (by omega), h 8 (by omega)]
  have : shW a 354 k = shW b 354 k := by
    unfold shW
    split
    · exact h _ (by omega)
    · exact h _ (by omega)
  rw [this]
theorem gone_tell {i m : Nat} {w : Row} {x1 x2 x3 x4 : Int32} (hi : i < 8) (hm : m ≤ 6) : goneW i m (tellW x1 x2 x3 x4 w) = tellW x1 x2 x3 x4 (goneW i m w) := by
  funext k
  by_cases z : k = 8 ∨ 132 ≤ k
  · rw [gone_ob hi hm (by omega)]
    refine (tell_congr (fun k hk => ?_) z).symm
    exact gone_ob hi hm (by omega)
  · rw [tell_ob (w := goneW i m w) (by omega) (by omega)]
    exact gone_congr hi hm (fun k a b => tell_ob b (by omega)) k (by omega) (by omega)
def bothF (n m : Nat) (w : Row) (e pp t : Int32) (i : Nat) (v : Row) : Row := if sgB n m w e pp i then goneW i m (tellW (nI i) t (sgW n m w e pp i) 0 v) else v
theorem both_rd {n m : Nat} {w : Row} {e pp t : Int32} (hm : m ≤ 6) : ∀ j, j ≤ 8 → fldN (bothF n m w e pp t) w j = fldN (gnF n m w e pp) (fldN (tlF n m w e pp t) w j) j := by
  have C : ∀ i j v, i < 8 → tlF n m w e pp t j (gnF n m w e pp i v) = gnF n m w e pp i (tlF n m w e pp t j v) := by
    intro i j v hi
    rw [tlF, gnF, gnF, tlF]
    cases sgB n m w e pp j
    · rw [tff, tff]
    · rw [ttt, ttt]
      cases sgB n m w e pp i
      · rw [tff, tff]
      · rw [ttt, ttt, gone_tell hi hm]
  have D : ∀ j i v, i ≤ 8 → tlF n m w e pp t j (fldN (gnF n m w e pp) v i) = fldN (gnF n m w e pp) (tlF n m w e pp t j v) i := by
    intro j i v
    induction i with
    | zero => intro _; rfl
    | succ i ih =>
      intro hi
      rw [fldN_s, fldN_s, C i j _ (by omega), ih (by omega)]
  intro j
  induction j with
  | zero => intro _; rfl
  | succ j ih =>
    intro hj
    rw [fldN_s, fldN_s, fldN_s, ih (by omega), ← D j j _ (by omega)]
    rw [bothF, gnF, tlF]
    cases sgB n m w e pp j
    · rw [tff, tff, tff]
    · rw [ttt, ttt, ttt]
theorem rd_both {n m : Nat} {w : Row} {e pp t : Int32} (h8 : n ≤ 8) (hm : m ≤ 6) : fldN (bothF n m w e pp t) w n = rdW n m w e pp t := both_rd hm n h8
theorem both_Gd {n m : Nat} {w : Row} {e pp t : Int32} (g : Gd n m w) {j : Nat} (hj : j ≤ n) : Gd n m (fldN (bothF n m w e pp t) w j) :=
  fldN_ind (fun _ (v : Row) => Gd n m v) g j fun i v hi h => by
    rw [bothF]
    split
    · exact gone_Gd (by omega) (tell_Gd h)
    · exact h
theorem rd_Gd {n m : Nat} {w : Row} {e pp t : Int32} (g : Gd n m w) : Gd n m (rdW n m w e pp t) := by
  rw [← rd_both g.1.2.1 g.1.2.2.2.1]
  exact both_Gd g (Nat.le_refl n)
theorem CV0_tell {c : Nat} {h h' : Hp} {n m : Nat} {w : Row} {x1 x2 x3 x4 : Int32} (h6 : m ≤ 6) (H : CV0 c h n m w) (f : ∀ k, c ≤ k → k ≤ c + 8 → h' k = h k) : CV0 c h' n m (tellW x1 x2 x3 x4 w) := by
  have o : ∀ k, k ≠ 8 → k < 132 → tellW x1 x2 x3 x4 w k = w k := fun k a b => tell_ob a (by omega)
  have H' := CV0_fr H f
  obtain ⟨a1, a2, a3, a4, a5⟩ := H'
  refine ⟨fun i hi => ?_, fun k hk => ?_, fun p hp => ?_, ⟨a4.1, a4.2.1, ?_⟩, ?_⟩
  · unfold wtR fmR ivR agR
    rw [o _ (by omega) (by omega), o _ (by omega) (by omega), o _ (by omega) (by omega), o _ (by omega) (by omega)]
    exact a1 i hi
  · rw [o _ (by omega) (by omega)]; exact a2 k hk
  · unfold atR hdR cmR
    rw [o _ (by omega) (by omega), o _ (by omega) (by omega), o _ (by omega) (by omega)]
    exact a3 p hp
  · rw [a4.2.2]
    exact orTo_congr 8 fun i hi => by unfold upB; rw [se_fal hi tell_SE]
  · rw [o 4 (by omega) (by omega), o 5 (by omega) (by omega), o 6 (by omega) (by omega), o 7 (by omega) (by omega), o 2 (by omega) (by omega), o 9 (by omega) (by omega)]
    exact a5
theorem c_fell {c : Nat} {h : Hp} {n m : Nat} {w : Row} {E : Int32} {t : Int32} (hc : 100 ≤ c) (g : Gd n m w) (H : CV0 c h n m w) (W : LW c h) (S : SV h n m w E) (ht : h 4 1 = t) :
    ∃ h', f_X3_fell c (sgS n m w E 0) E h = some h' ∧ CV0 c h' n m (rdW n m w E 0 t) ∧ LW c h' ∧ (LG c h w → E = w 4 → LG c h' (rdW n m w E 0 t)) ∧ ∀ k, (k < c ∨ c + 10 < k) → h' k = h k := by
  have h8 := g.1.2.1
  have h6 := g.1.2.2.2.1
  have tbj : ∀ j, j < 8 → tb (sgS n m w E 0) j = (decide (j < n) && sgB n m w E 0 j) := fun j hj => by
    unfold sgS; rw [orTo_tb _ _ (by omega) _ (by omega)]
  have V45 : ∀ j, j ≤ n → fldN (bothF n m w E 0 t) w j 4 = w 4 ∧ fldN (bothF n m w E 0 t) w j 5 = w 5 := fun j hj =>
    fldN_ind (fun _ (v : Row) => v 4 = w 4 ∧ v 5 = w 5) ⟨rfl, rfl⟩ j fun i v hi q => by
      rw [bothF]
      split
      · rw [gone_ob (by omega) h6 (by omega), gone_ob (by omega) h6 (by omega), tell_ob (by omega) (by omega), tell_ob (by omega) (by omega)]; exact q
      · exact q
  have Q := loopW (S_X3_fell_3 c (sgS n m w E 0) E) (fun _ _ => none) (fun q (s : Nat × Hp) => q (nI s.1) s.2) 8
    (fun j s => s.1 = j ∧ CV0 c s.2 n m (fldN (bothF n m w E 0 t) w (min j n)) ∧ LW c s.2 ∧ (LG c h w → E = w 4 → LG c s.2 (fldN (bothF n m w E 0 t) w (min j n))) ∧ ∀ k, (k < c ∨ c + 10 < k) → s.2 k = h k)
    (fun r => ∃ h', r = some h' ∧ CV0 c h' n m (rdW n m w E 0 t) ∧ LW c h' ∧ (LG c h w → E = w 4 → LG c h' (rdW n m w E 0 t)) ∧ ∀ k, (k < c ∨ c + 10 < k) → h' k = h k) (by omega) (fun j s hj hs => ?_) (fun s hs => ?_) (0, h) ⟨rfl, by rw [Nat.zero_min]; exact H, W, fun q _ => by rw [Nat.zero_min]; exact q, fun _ _ => rfl⟩
  · exact Q
  · obtain ⟨j', u⟩ := s
    dsimp only at hs
    obtain ⟨hj', a, b, d, f⟩ := hs
    obtain rfl : j' = j := hj'
    have skip : fldN (bothF n m w E 0 t) w (min (j' + 1) n) = fldN (bothF n m w E 0 t) w (min j' n) → (∀ q, S_X3_fell_3 c (sgS n m w E 0) E q (nI j') u = q (nI (j' + 1)) u) →
        ∃ s' : Nat × Hp, (s'.1 = j' + 1 ∧ CV0 c s'.2 n m (fldN (bothF n m w E 0 t) w (min (j' + 1) n)) ∧ LW c s'.2 ∧ (LG c h w → E = w 4 → LG c s'.2 (fldN (bothF n m w E 0 t) w (min (j' + 1) n))) ∧ ∀ k, (k < c ∨ c + 10 < k) → s'.2 k = h k) ∧ ∀ q, S_X3_fell_3 c (sgS n m w E 0) E q (nI j') u = q (nI s'.1) s'.2 := by
      intro e hq
      exact ⟨(j' + 1, u), ⟨rfl, by rw [e]; exact a, b, by rw [e]; exact d, f⟩, hq⟩
    have noq : tb (sgS n m w E 0) j' = false → ∀ q, S_X3_fell_3 c (sgS n m w E 0) E q (nI j') u = q (nI (j' + 1)) u := by
      intro z q
      unfold S_X3_fell_3
      simp (disch := omega) only [reduceIte, ↓zbn, zgd, zcl, zlt, zeq, zn0, zp0, ze0, zem, zsuc, zob, ztl, zfl, ztle, zfle, zte, zfe, zft, toB0, toB1, i10, i01, zl8, shr_tb, z]
    by_cases hn : j' < n
    · cases hb : sgB n m w E 0 j'
      · refine skip ?_ (noq (by rw [tbj j' hj, hb, Bool.and_false]))
        rw [show min (j' + 1) n = j' + 1 from by omega, show min j' n = j' from by omega, fldN_s, bothF, hb, tff]
      · rw [show min j' n = j' from by omega] at a d
        have gj := both_Gd (e := E) (pp := 0) (t := t) g (show j' ≤ n by omega)
        have e9 : u 9 j' = sgW n m w E 0 j' := by
          rw [f 9 (by omega), (S j' hj).2.2.2.1]
          have : upB n w j' = true := by
            unfold upB; unfold sgB at hb
            rw [decide_eq_true hn]
            cases z : falB w j'
            · rfl
            · rw [z] at hb; cases hb
          rw [this, ttt]
        have e4 : u 4 1 = t := by rw [f 4 (by omega)]; exact ht
        obtain ⟨u1, x1, x2, x3, x4⟩ := c_add (c := c) (x1 := u c 13) (x2 := E) (x3 := nI j') (x4 := t) (x5 := sgW n m w E 0 j') (x6 := 0) b
        have H1 : CV0 c u1 n m (tellW (nI j') t (sgW n m w E 0 j') 0 (fldN (bothF n m w E 0 t) w j')) := CV0_tell h6 a fun k p q => x4 k (by omega) (by omega)
        obtain ⟨u2, y1, y2, y3⟩ := c_takeDown H1 h8 h6 hn
        have V : fldN (bothF n m w E 0 t) w (j' + 1) = goneW j' m (tellW (nI j') t (sgW n m w E 0 j') 0 (fldN (bothF n m w E 0 t) w j')) := by
          rw [fldN_s, bothF, hb, ttt]
        have m1 : min (j' + 1) n = j' + 1 := by omega
        refine ⟨(j' + 1, u2), ⟨rfl, by rw [m1, V]; exact y2, ?_, fun q1 q2 => ?_, fun k hk => ?_⟩, fun q => ?_⟩
        · obtain ⟨L, l1, l2⟩ := x2
          exact ⟨L, l1, by show u2 (c + 9) 1 = _; rw [y3 _ (by omega) (by omega) (by omega)]; exact l2⟩
        · rw [m1, V, gone_tell (by omega) h6]
          have l1 := x3 _ (d q1 q2) (by rw [a.2.2.2.2.2.1]) (by rw [(V45 j' (by omega)).1]; exact q2)
          have l2 : LG c u2 (tellW (nI j') t (sgW n m w E 0 j') 0 (fldN (bothF n m w E 0 t) w j')) := LG_fr l1 fun k p q => y3 k (by omega) (by omega) (by omega)
          obtain ⟨L, z1, z2, z3, z4⟩ := l2
          refine ⟨L, z1, ?_, z3, fun k f hk hf => ?_⟩
          · rw [← gone_tell (by omega) h6, gone_ob (by omega) h6 (by omega)]; exact z2
          · rw [← gone_tell (by omega) h6, gone_ob (by omega) h6 (by omega)]; exact z4 k f hk hf
        · show u2 k = h k
          rw [y3 k (by omega) (by omega) (by omega), x4 k (by omega) (by omega), f k hk]
        · show S_X3_fell_3 c (sgS n m w E 0) E q (nI j') u = q (nI (j' + 1)) u2
          unfold S_X3_fell_3
          have tt : tb (sgS n m w E 0) j' = true := by rw [tbj j' hj, hb, decide_eq_true hn]; rfl
          simp (disch := omega) only [reduceIte, ↓zbn, zgd, zcl, zlt, zeq, zn0, zp0, ze0, zem, zsuc, zob, ztl, zfl, ztle, zfle, zte, zfe, zft, toB0, toB1, i10, i01, zl8, shr_tb, tt, e9, e4, x1, y1, eq_self]
    · refine skip ?_ (noq (by rw [tbj j' hj, decide_eq_false hn, Bool.false_and]))
      rw [show min (j' + 1) n = min j' n from by omega]
  · obtain ⟨j', u⟩ := s
    dsimp only at hs
    obtain ⟨hj', a, b, d, f⟩ := hs
    obtain rfl : j' = 8 := hj'
    rw [show min 8 n = n from by omega, rd_both h8 h6] at a d
    refine ⟨_, ⟨u, rfl, a, b, d, f⟩, fun q => ?_⟩
    show S_X3_fell_3 c (sgS n m w E 0) E q (nI 8) u = _
    unfold S_X3_fell_3
    simp (disch := omega) only [reduceIte, ↓zbn, zgd, zcl, zlt, zeq, zn0, zp0, ze0, zem, zsuc, zob, ztl, zfl, ztle, zfle, zte, zfe, zft, toB0, toB1, i10, i01, zl8]
theorem fl_Gd {n m : Nat} {e pp : Int32} : ∀ (k t : Nat) (w : Row), Gd n m w → Gd n m (flS n m e pp k t w).2.2
  | 0, _, _, g => g
  | k + 1, t, w, g => by
    rw [flS]
    by_cases c : sgS n m w e pp = 0
    · rw [if_pos c]; exact g
    · rw [if_neg c]; exact fl_Gd k (t + 1) _ (rd_Gd g)
theorem c_fall {c r : Nat} {h : Hp} {n m e : Nat} {w : Row} (hc : 100 ≤ c) (hcr : c + 10 < r ∨ r + 10 < c) (hr : 500 ≤ r) (g : Gd n m w) (H : CV0 c h n m w) (W : LW c h) (L : LV r h w) (he : e < 7) :
    ∃ h', f_X3_fall c r (nI e) h = some ((fallW n m (nI e) 0 w).1, h') ∧ CV0 c h' n m (fallW n m (nI e) 0 w).2.2 ∧ LW c h' ∧ (LG c h w → nI e = w 4 → LG c h' (fallW n m (nI e) 0 w).2.2) ∧ h' 4 1 = nI (fallW n m (nI e) 0 w).2.1 ∧
      SV h' n m (fallW n m (nI e) 0 w).2.2 (nI e) ∧ ∀ k, (k < c ∨ c + 10 < k) → (k < 4 ∨ 14 < k) → k ≠ r + 7 → h' k = h k := by
  have h8 := g.1.2.1
  have h6 := g.1.2.2.2.1
  have K := loopV (S_X3_fall_11 c r (nI e)) (fun _ _ _ => none) (fun q (s : (Nat × Int32) × (Hp × Row)) => q s.1.2 (nI s.1.1) s.2.1) 9
    (fun j s => s.1.1 = j ∧ s.1.2 ||| (flS n m (nI e) 0 (9 - j) j s.2.2).1 = (fallW n m (nI e) 0 w).1 ∧ (flS n m (nI e) 0 (9 - j) j s.2.2).2 = (fallW n m (nI e) 0 w).2 ∧ cnt (fun i => !falB s.2.2 i) n + j ≤ 8 ∧
      Gd n m s.2.2 ∧ CV0 c s.2.1 n m s.2.2 ∧ LW c s.2.1 ∧ (LG c h w → nI e = w 4 → LG c s.2.1 s.2.2 ∧ s.2.2 4 = w 4) ∧ s.2.1 4 1 = nI j ∧ (∀ k, (k = 3 ∨ 492 ≤ k) → s.2.2 k = w k) ∧ ∀ k, (k < c ∨ c + 10 < k) → (k < 4 ∨ 14 < k) → k ≠ r + 7 → s.2.1 k = h k)
    (fun x => ∃ h', x = some ((fallW n m (nI e) 0 w).1, h') ∧ CV0 c h' n m (fallW n m (nI e) 0 w).2.2 ∧ LW c h' ∧ (LG c h w → nI e = w 4 → LG c h' (fallW n m (nI e) 0 w).2.2) ∧ h' 4 1 = nI (fallW n m (nI e) 0 w).2.1 ∧
      SV h' n m (fallW n m (nI e) 0 w).2.2 (nI e) ∧ ∀ k, (k < c ∨ c + 10 < k) → (k < 4 ∨ 14 < k) → k ≠ r + 7 → h' k = h k) (by omega) (fun j s hj hs => ?_) (fun s hs => ?_) ((0, 0), (up1 h 4 1 0, w)) ?_
  · unfold f_X3_fall
    rw [bnd_eq]
    exact K
  · obtain ⟨⟨j', acc⟩, ⟨u, v⟩⟩ := s
    dsimp only at hs
    obtain ⟨hj', e1, e2, ec, gv, Hu, Wu, Lu, u4, hv, fu⟩ := hs
    obtain rfl : j' = j := hj'
    have LVu : LV r u v := LV_congr (LV_fr L fun k a b => fu k (by omega) (by omega) (by omega)) hv
    obtain ⟨u1, m1, m2, m3, m4⟩ := c_measure hc hcr hr gv Hu LVu he
    have H1 : CV0 c u1 n m v := CV0_fr Hu fun k a b => m4 k (by omega) (by omega)
    have W1 : LW c u1 := by
      obtain ⟨L', a, b⟩ := Wu
      exact ⟨L', a, by show u1 (c + 9) 1 = _; rw [m4 (c + 9) (by omega) (by omega)]; exact b⟩
    have u14 : u1 4 1 = nI j' := by rw [m4 4 (by omega) (by omega)]; exact u4
    have ss := c_saggingSet gv m2
    have e1' : acc ||| (flS n m (nI e) 0 (9 - j') j' v).1 = (fallW n m (nI e) 0 w).1 := e1
    have e2' : (flS n m (nI e) 0 (9 - j') j' v).2 = (fallW n m (nI e) 0 w).2 := e2
    rw [show 9 - j' = (8 - j') + 1 from by omega, flS] at e1' e2'
    have pre : ∀ q, S_X3_fall_11 c r (nI e) q acc (nI j') u = if sgS n m v (nI e) 0 = 0 then some (acc, u1) else
        Option.bind (f_X3_fell c (sgS n m v (nI e) 0) (nI e) (up1 u1 4 1 (nI (j' + 1)))) fun r_11 => q (acc ||| sgS n m v (nI e) 0) (nI (j' + 1)) r_11 := by
      intro q
      unfold S_X3_fall_11
      simp (disch := omega) only [reduceIte, ↓zbn, zgd, zcl, zlt, zeq, zn0, zp0, ze0, zem, zsuc, zob, ztl, zfl, ztle, zfle, zte, zfe, zft, toB0, toB1, i10, i01, zg8, m1, ss, u14]
    by_cases z : sgS n m v (nI e) 0 = 0
    · rw [if_pos z] at e1' e2'
      have e0 : (fallW n m (nI e) 0 w).1 = acc := by rw [← e1', Int32.or_zero]
      have ev : (fallW n m (nI e) 0 w).2.2 = v := by rw [← e2']
      have et : (fallW n m (nI e) 0 w).2.1 = j' := by rw [← e2']
      refine Or.inr ⟨some (acc, u1), ⟨u1, by rw [e0], by rw [ev]; exact H1, W1, fun a b => ?_, by rw [et]; exact u14, by rw [ev]; exact m2, fun k a b d => ?_⟩, fun q => ?_⟩
      · rw [ev]
        exact LG_fr (Lu a b).1 fun k x y => m4 k (by omega) (by omega)
      · rw [m4 k (by omega) d]; exact fu k a b d
      · show S_X3_fall_11 c r (nI e) q acc (nI j') u = _
        rw [pre q, if_pos z]
    · rw [if_neg z] at e1' e2'
      obtain ⟨u2, x1, x2, x3, x4, x5⟩ := c_fell (c := c) (h := up1 u1 4 1 (nI (j' + 1))) (t := nI (j' + 1)) hc gv (CV0_fr H1 fun k a b => up1_ob (by omega)) (by
          obtain ⟨L', a, b⟩ := W1
          exact ⟨L', a, by rw [up1_ob (by omega)]; exact b⟩) (fun i hi => by
          rw [up1_ob (by decide), up1_ob (by decide), up1_ob (by decide), up1_ob (by decide), up1_ob (by decide)]; exact m2 i hi) up1_same
      have rc := rd_cnt (t := nI (j' + 1)) h8 h6 z
      have ec' : cnt (fun i => !falB v i) n + j' ≤ 8 := ec
      refine Or.inl ⟨((j' + 1, acc ||| sgS n m v (nI e) 0), (u2, rdW n m v (nI e) 0 (nI (j' + 1)))), ⟨rfl, ?_, ?_, ?_, rd_Gd gv, x2, x3, fun a b => ?_, ?_, fun k hk => ?_, fun k a b d => ?_⟩, fun q => ?_⟩
      · show (acc ||| sgS n m v (nI e) 0) ||| (flS n m (nI e) 0 (9 - (j' + 1)) (j' + 1) _).1 = _
        rw [Int32.or_assoc, show 9 - (j' + 1) = 8 - j' from by omega]; exact e1'
      · show (flS n m (nI e) 0 (9 - (j' + 1)) (j' + 1) _).2 = _
        rw [show 9 - (j' + 1) = 8 - j' from by omega]; exact e2'
      · show cnt (fun i => !falB (rdW n m v (nI e) 0 (nI (j' + 1))) i) n + (j' + 1) ≤ 8
        omega
      · obtain ⟨l1, l2⟩ := Lu a b
        refine ⟨x4 (LG_fr (LG_fr l1 fun k x y => m4 k (by omega) (by omega)) fun k x y => up1_ob (by omega)) (by rw [b]; exact l2.symm), ?_⟩
        show rdW n m v (nI e) 0 (nI (j' + 1)) 4 = w 4
        rw [rd_ob h8 h6 (by omega)]; exact l2
      · show u2 4 1 = _
        rw [x5 4 (by omega), up1_same]
      · show rdW n m v (nI e) 0 (nI (j' + 1)) k = w k
        rw [rd_ob h8 h6 (by omega)]; exact hv k hk
      · show u2 k = h k
        rw [x5 k a, up1_ob (by omega), m4 k (by omega) d]; exact fu k a b d
      · show S_X3_fall_11 c r (nI e) q acc (nI j') u = q (acc ||| sgS n m v (nI e) 0) (nI (j' + 1)) u2
        rw [pre q, if_neg z, x1, obS]
  · obtain ⟨⟨j', acc⟩, ⟨u, v⟩⟩ := s
    dsimp only at hs
    obtain ⟨hj', e1, e2, ec, _⟩ := hs
    have ec' : cnt (fun i => !falB v i) n + 9 ≤ 8 := ec
    omega
  · refine ⟨rfl, Int32.zero_or, rfl, ?_, g, CV0_fr H fun k a b => up1_ob (by omega), ?_, fun a _ => ⟨LG_fr a fun k x y => up1_ob (by omega), rfl⟩, (by show (up1 h 4 1 0) 4 1 = 0; exact up1_same), fun _ _ => rfl, fun k a b d => up1_ob (by omega)⟩
    · have := cnt_le (fun i => !falB w i) n
      show cnt (fun i => !falB w i) n + 0 ≤ 8
      omega
    · obtain ⟨L', a, b⟩ := W
      exact ⟨L', a, by show (up1 h 4 1 0) (c + 9) 1 = _; rw [up1_ob (by omega)]; exact b⟩
