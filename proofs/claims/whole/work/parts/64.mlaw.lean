/-! LAYER 4. The model: lines of the law, sums, who SAGS -/
theorem run_ty {F : Nat → Int32} {cd : Nat → Nat} {nm : Nat → Int32} {b : Nat} {v : Row} : ∀ j, (∀ i, i < j → cd (b + i) ≤ 15) → tyOk cd b j →
    ∃ s, tyR cd b j = some s ∧ s.length ≤ 20 ∧ (runM F cd nm b v j).1 = s.length ∧ ∀ v', (runM F cd nm b v' j).1 = s.length ∧ ∀ k, k < s.length → (runM F cd nm b v' j).2 k = (runM F cd nm b v j).2 k := by
  intro j
  induction j with
  | zero => intro _ _; exact ⟨[], rfl, by decide, rfl, fun v' => ⟨rfl, fun k hk => absurd hk (Nat.not_lt_zero k)⟩⟩
  | succ j ih =>
    intro hc ht
    obtain ⟨s, hs, hl, ht1, hv⟩ := ih (fun i hi => hc i (by omega)) (fun i hi => ht i (by omega))
    obtain ⟨s', hs', hl'⟩ := ht (j + 1) (Nat.le_refl _)
    have hb : tyS (cd (b + j)) s = some s' := by
      have e : tyR cd b (j + 1) = Option.bind (tyR cd b j) (tyS (cd (b + j))) := rfl
      rw [hs, hs'] at e; exact e.symm
    obtain ⟨ok, len⟩ := tyS_ok (hc j (by omega)) hb hl
    obtain ⟨o1, o2, o3, o4⟩ := ok
    have E : ∀ v0, runM F cd nm b v0 (j + 1) = opM F (cd (b + j)) (nm (b + j)) (runM F cd nm b v0 j) := fun _ => rfl
    refine ⟨s', hs', hl', ?_, fun v' => ?_⟩
    · rw [E]; unfold opM; rw [ht1, len]
      split
      · rfl
      · split <;> rfl
    · obtain ⟨ht2, hv2⟩ := hv v'
      rw [E, E]; unfold opM; rw [ht1, ht2, len]
      by_cases c9 : cd (b + j) ≤ 9
      · simp only [c9, if_true]
        refine ⟨trivial, fun k hk => ?_⟩
        unfold upd
        by_cases d : k = s.length
        · rw [if_pos d, if_pos d]
        · rw [if_neg d, if_neg d]; exact hv2 k (by omega)
      · simp only [c9, if_false]
        by_cases c13 : cd (b + j) = 13
        · obtain ⟨t1, _⟩ := o3 c13
          simp only [c13, if_true]
          refine ⟨trivial, fun k hk => ?_⟩
          unfold upd
          rw [hv2 (s.length - 1) (by omega)]
          by_cases d : k = s.length - 1
          · rw [if_pos d, if_pos d]
          · rw [if_neg d, if_neg d]; exact hv2 k (by omega)
        · obtain ⟨t1, _⟩ := o4 (by omega) c13
          simp only [c13, if_false]
          refine ⟨trivial, fun k hk => ?_⟩
          unfold upd
          rw [hv2 (s.length - 1) (by omega), hv2 (s.length - 2) (by omega)]
          by_cases d : k = s.length - 2
          · rw [if_pos d, if_pos d]
          · rw [if_neg d, if_neg d]; exact hv2 k (by omega)
theorem fc_eq {h : Hp} {n m i k : Nat} (hl : laid n h) (hi : i < 8) (hk : k < 9) : factM h n m i k = fcW n m (h 31) (h 30 20) i k := by
  rcases k with _ | _ | _ | _ | _ | _ | _ | _ | _ | k
  · rfl
  · rfl
  · rfl
  · rfl
  · rfl
  · exact hl i hi
  · rfl
  · rfl
  · rfl
  · omega
theorem laid_40 {h : Hp} {n : Nat} {v : Row} (hl : laid n h) : laid n (upA h 40 v) := by
  intro i hi; rw [upA_ob (by decide), upA_ob (by decide)]; exact hl i hi
theorem hs_push {h : Hp} {i l e E t : Nat} {x : Int32} {v : Row} (q : Int32 → Int32 → Hp → Option (Bool × Hp)) (hl12 : l < 12)
    (hE : h 31 (493 + 4 * l + 3) = nI E) (hE4 : E ≤ 400) (he : e < E) (hx : h 31 (541 + 2 * e + 1) = x) {c : Nat} (hc : h 31 (541 + 2 * e) = nI c) (c9 : c ≤ 9) (t4 : t < 400) {y : Int32} (ef : f_X12_factOf (nI c) x (nI i) (upA h 40 v) = some y) :
    S_X12_holdsLine_22 (nI i) (nI (493 + 4 * l)) q (nI t) (nI e) (upA h 40 v) = q (nI (t + 1)) (nI (e + 1)) (upA h 40 (upd v t y)) := by
  have e0 : nI (493 + 4 * l) + 3 = nI (493 + 4 * l + 3) := by rw [li3, nI_add]
  have e1 : (541 : Int32) + 2 * nI e = nI (541 + 2 * e) := by
    rw [show (541 : Int32) = nI 541 from by decide, show (2 : Int32) = nI 2 from by decide, pk_mul, nI_add]
  unfold S_X12_holdsLine_22
  simp (disch := omega) only [reduceIte, ↓zbn, zgd, zcl, zlt, zeq, zn0, zp0, ze0, zem, zsuc, zob, ztl, zfl, ztle, zfle, zte, zfe, zft, toB0, toB1, i10, i01, e0, e1, upA_ob, hE, hc, hx, zg9, zq13, zq10, zq11, zq12, zq14, zprd, zprs, up1_upA, upA_at, s11, ite_self, ef, zob]
theorem hs_not {h : Hp} {i l e E t : Nat} {x : Int32} {v : Row} (q : Int32 → Int32 → Hp → Option (Bool × Hp)) (hl12 : l < 12)
    (hE : h 31 (493 + 4 * l + 3) = nI E) (hE4 : E ≤ 400) (he : e < E) (hx : h 31 (541 + 2 * e + 1) = x) (hc : h 31 (541 + 2 * e) = nI 13) (t1 : 1 ≤ t) (t4 : t ≤ 400) :
    S_X12_holdsLine_22 (nI i) (nI (493 + 4 * l)) q (nI t) (nI e) (upA h 40 v) = q (nI t) (nI (e + 1)) (upA h 40 (upd v (t - 1) (1 - v (t - 1)))) := by
  have e0 : nI (493 + 4 * l) + 3 = nI (493 + 4 * l + 3) := by rw [li3, nI_add]
  have e1 : (541 : Int32) + 2 * nI e = nI (541 + 2 * e) := by
    rw [show (541 : Int32) = nI 541 from by decide, show (2 : Int32) = nI 2 from by decide, pk_mul, nI_add]
  unfold S_X12_holdsLine_22
  simp (disch := omega) only [reduceIte, ↓zbn, zgd, zcl, zlt, zeq, zn0, zp0, ze0, zem, zsuc, zob, ztl, zfl, ztle, zfle, zte, zfe, zft, toB0, toB1, i10, i01, e0, e1, upA_ob, hE, hc, hx, zg9, zq13, zq10, zq11, zq12, zq14, zprd, zprs, up1_upA, upA_at, s11, ite_self]
theorem hs_j10 {h : Hp} {i l e E t : Nat} {x : Int32} {v : Row} (q : Int32 → Int32 → Hp → Option (Bool × Hp)) (hl12 : l < 12)
    (hE : h 31 (493 + 4 * l + 3) = nI E) (hE4 : E ≤ 400) (he : e < E) (hx : h 31 (541 + 2 * e + 1) = x) (hc : h 31 (541 + 2 * e) = nI 10) (t1 : 2 ≤ t) (t4 : t ≤ 400) :
    S_X12_holdsLine_22 (nI i) (nI (493 + 4 * l)) q (nI t) (nI e) (upA h 40 v) = q (nI (t - 1)) (nI (e + 1)) (upA h 40 (upd v (t - 2) (v (t - 2) + v (t - 1)))) := by
  have e0 : nI (493 + 4 * l) + 3 = nI (493 + 4 * l + 3) := by rw [li3, nI_add]
  have e1 : (541 : Int32) + 2 * nI e = nI (541 + 2 * e) := by
    rw [show (541 : Int32) = nI 541 from by decide, show (2 : Int32) = nI 2 from by decide, pk_mul, nI_add]
  unfold S_X12_holdsLine_22
  unfold F_X12_holdsLine_222 F_X12_holdsLine_256
  simp (disch := omega) only [reduceIte, ↓zbn, zgd, zcl, zlt, zeq, zn0, zp0, ze0, zem, zsuc, zob, ztl, zfl, ztle, zfle, zte, zfe, zft, toB0, toB1, i10, i01, e0, e1, upA_ob, hE, hc, hx, zg9, zq13, zq10, zq11, zq12, zq14, zprd, zprs, up1_upA, upA_at, s11, ite_self]
theorem hs_j11 {h : Hp} {i l e E t : Nat} {x : Int32} {v : Row} (q : Int32 → Int32 → Hp → Option (Bool × Hp)) (hl12 : l < 12)
    (hE : h 31 (493 + 4 * l + 3) = nI E) (hE4 : E ≤ 400) (he : e < E) (hx : h 31 (541 + 2 * e + 1) = x) (hc : h 31 (541 + 2 * e) = nI 11) (t1 : 2 ≤ t) (t4 : t ≤ 400) :
    S_X12_holdsLine_22 (nI i) (nI (493 + 4 * l)) q (nI t) (nI e) (upA h 40 v) = q (nI (t - 1)) (nI (e + 1)) (upA h 40 (upd v (t - 2) (bI (decide (v (t - 2) < v (t - 1)))))) := by
  have e0 : nI (493 + 4 * l) + 3 = nI (493 + 4 * l + 3) := by rw [li3, nI_add]
  have e1 : (541 : Int32) + 2 * nI e = nI (541 + 2 * e) := by
    rw [show (541 : Int32) = nI 541 from by decide, show (2 : Int32) = nI 2 from by decide, pk_mul, nI_add]
  unfold S_X12_holdsLine_22
  unfold F_X12_holdsLine_222 F_X12_holdsLine_256
  simp (disch := omega) only [reduceIte, ↓zbn, zgd, zcl, zlt, zeq, zn0, zp0, ze0, zem, zsuc, zob, ztl, zfl, ztle, zfle, zte, zfe, zft, toB0, toB1, i10, i01, e0, e1, upA_ob, hE, hc, hx, zg9, zq13, zq10, zq11, zq12, zq14, zprd, zprs, up1_upA, upA_at, s11, ite_self]
  by_cases d : v (t - 2) < v (t - 1)
  · simp only [d, tT, tF, i10, decide_true, bI, ttt]
  · simp only [d, tF, decide_false, bI, tff]
theorem hs_j12 {h : Hp} {i l e E t : Nat} {x : Int32} {v : Row} (q : Int32 → Int32 → Hp → Option (Bool × Hp)) (hl12 : l < 12)
    (hE : h 31 (493 + 4 * l + 3) = nI E) (hE4 : E ≤ 400) (he : e < E) (hx : h 31 (541 + 2 * e + 1) = x) (hc : h 31 (541 + 2 * e) = nI 12) (t1 : 2 ≤ t) (t4 : t ≤ 400) :
    S_X12_holdsLine_22 (nI i) (nI (493 + 4 * l)) q (nI t) (nI e) (upA h 40 v) = q (nI (t - 1)) (nI (e + 1)) (upA h 40 (upd v (t - 2) (bI (decide (v (t - 1) < v (t - 2)))))) := by
  have e0 : nI (493 + 4 * l) + 3 = nI (493 + 4 * l + 3) := by rw [li3, nI_add]
  have e1 : (541 : Int32) + 2 * nI e = nI (541 + 2 * e) := by
    rw [show (541 : Int32) = nI 541 from by decide, show (2 : Int32) = nI 2 from by decide, pk_mul, nI_add]
  unfold S_X12_holdsLine_22
  unfold F_X12_holdsLine_222 F_X12_holdsLine_256
  simp (disch := omega) only [reduceIte, ↓zbn, zgd, zcl, zlt, zeq, zn0, zp0, ze0, zem, zsuc, zob, ztl, zfl, ztle, zfle, zte, zfe, zft, toB0, toB1, i10, i01, e0, e1, upA_ob, hE, hc, hx, zg9, zq13, zq10, zq11, zq12, zq14, zprd, zprs, up1_upA, upA_at, s11, ite_self]
  by_cases d : v (t - 1) < v (t - 2)
  · simp only [d, tT, tF, i10, decide_true, bI, ttt]
  · simp only [d, tF, decide_false, bI, tff]
theorem hs_j14 {h : Hp} {i l e E t : Nat} {x : Int32} {v : Row} (q : Int32 → Int32 → Hp → Option (Bool × Hp)) (hl12 : l < 12)
    (hE : h 31 (493 + 4 * l + 3) = nI E) (hE4 : E ≤ 400) (he : e < E) (hx : h 31 (541 + 2 * e + 1) = x) (hc : h 31 (541 + 2 * e) = nI 14) (t1 : 2 ≤ t) (t4 : t ≤ 400) :
    S_X12_holdsLine_22 (nI i) (nI (493 + 4 * l)) q (nI t) (nI e) (upA h 40 v) = q (nI (t - 1)) (nI (e + 1)) (upA h 40 (upd v (t - 2) (bI (decide (v (t - 2) + v (t - 1) = 2))))) := by
  have e0 : nI (493 + 4 * l) + 3 = nI (493 + 4 * l + 3) := by rw [li3, nI_add]
  have e1 : (541 : Int32) + 2 * nI e = nI (541 + 2 * e) := by
    rw [show (541 : Int32) = nI 541 from by decide, show (2 : Int32) = nI 2 from by decide, pk_mul, nI_add]
  unfold S_X12_holdsLine_22
  unfold F_X12_holdsLine_222 F_X12_holdsLine_256
  simp (disch := omega) only [reduceIte, ↓zbn, zgd, zcl, zlt, zeq, zn0, zp0, ze0, zem, zsuc, zob, ztl, zfl, ztle, zfle, zte, zfe, zft, toB0, toB1, i10, i01, e0, e1, upA_ob, hE, hc, hx, zg9, zq13, zq10, zq11, zq12, zq14, zprd, zprs, up1_upA, upA_at, s11, ite_self]
  by_cases d : v (t - 2) + v (t - 1) = 2
  · simp only [d, tT, tF, i10, decide_true, bI, ttt]
  · simp only [d, tF, decide_false, bI, tff]
theorem hs_j15 {h : Hp} {i l e E t : Nat} {x : Int32} {v : Row} (q : Int32 → Int32 → Hp → Option (Bool × Hp)) (hl12 : l < 12)
    (hE : h 31 (493 + 4 * l + 3) = nI E) (hE4 : E ≤ 400) (he : e < E) (hx : h 31 (541 + 2 * e + 1) = x) (hc : h 31 (541 + 2 * e) = nI 15) (t1 : 2 ≤ t) (t4 : t ≤ 400) :
    S_X12_holdsLine_22 (nI i) (nI (493 + 4 * l)) q (nI t) (nI e) (upA h 40 v) = q (nI (t - 1)) (nI (e + 1)) (upA h 40 (upd v (t - 2) (bI (decide (0 < v (t - 2) + v (t - 1)))))) := by
  have e0 : nI (493 + 4 * l) + 3 = nI (493 + 4 * l + 3) := by rw [li3, nI_add]
  have e1 : (541 : Int32) + 2 * nI e = nI (541 + 2 * e) := by
    rw [show (541 : Int32) = nI 541 from by decide, show (2 : Int32) = nI 2 from by decide, pk_mul, nI_add]
  unfold S_X12_holdsLine_22
  unfold F_X12_holdsLine_222 F_X12_holdsLine_256
  simp (disch := omega) only [reduceIte, ↓zbn, zgd, zcl, zlt, zeq, zn0, zp0, ze0, zem, zsuc, zob, ztl, zfl, ztle, zfle, zte, zfe, zft, toB0, toB1, i10, i01, e0, e1, upA_ob, hE, hc, hx, zg9, zq13, zq10, zq11, zq12, zq14, zprd, zprs, up1_upA, upA_at, s11, ite_self]
  by_cases d : 0 < v (t - 2) + v (t - 1)
  · simp only [d, tT, tF, i10, decide_true, bI, ttt]
  · simp only [d, tF, decide_false, bI, tff]
theorem holds_step {h : Hp} {n m i l e E c t : Nat} {x : Int32} {v : Row} (q : Int32 → Int32 → Hp → Option (Bool × Hp)) (hl : laid n h) (hn : h 31 0 = nI n) (h8 : n ≤ 8) (hm : h 31 1 = nI m) (h6 : m ≤ 6) (hi : i < 8) (hl12 : l < 12)
    (hE : h 31 (493 + 4 * l + 3) = nI E) (hE4 : E ≤ 400) (he : e < E) (hc : h 31 (541 + 2 * e) = nI c) (hx : h 31 (541 + 2 * e + 1) = x) (ok : okM c t) :
    S_X12_holdsLine_22 (nI i) (nI (493 + 4 * l)) q (nI t) (nI e) (upA h 40 v) = q (nI (opM (fcW n m (h 31) (h 30 20) i) c x (t, v)).1) (nI (e + 1)) (upA h 40 (opM (fcW n m (h 31) (h 30 20) i) c x (t, v)).2) := by
  obtain ⟨o1, o2, o3, o4⟩ := ok
  unfold opM
  by_cases c9 : c ≤ 9
  · have t4 := o2 c9
    have ef : f_X12_factOf (nI c) x (nI i) (upA h 40 v) = some (if c = 9 then x else fcW n m (h 31) (h 30 20) i c) := by
      by_cases d : c = 9
      · rw [if_pos d, d]; exact m_factOf9
      · rw [if_neg d, m_factOf (n := n) (m := m) (by rw [upA_ob (by decide)]; exact hn) h8 (by rw [upA_ob (by decide)]; exact hm) h6 hi (by omega), fc_eq (laid_40 hl) hi (by omega), upA_ob (by decide), upA_ob (by decide)]
    rw [if_pos c9]
    exact hs_push q hl12 hE hE4 he hx hc c9 t4 ef
  · rw [if_neg c9]
    by_cases c13 : c = 13
    · obtain ⟨t1, t4⟩ := o3 c13
      subst c13
      exact hs_not q hl12 hE hE4 he hx hc t1 t4
    · obtain ⟨t1, t4⟩ := o4 (by omega) c13
      have k : c = 10 ∨ c = 11 ∨ c = 12 ∨ c = 14 ∨ c = 15 := by omega
      rcases k with rfl | rfl | rfl | rfl | rfl
      · exact hs_j10 q hl12 hE hE4 he hx hc t1 t4
      · exact hs_j11 q hl12 hE hE4 he hx hc t1 t4
      · exact hs_j12 q hl12 hE hE4 he hx hc t1 t4
      · exact hs_j14 q hl12 hE hE4 he hx hc t1 t4
      · exact hs_j15 q hl12 hE hE4 he hx hc t1 t4
theorem bd_cl {w : Row} {k b : Nat} (h : bd w k b) (hb : b < 2 ^ 31) : w k = nI (w k).toNatClampNeg ∧ (w k).toNatClampNeg ≤ b := by
  obtain ⟨a, ha, e⟩ := h
  rw [e, nI_clamp (by omega)]; exact ⟨rfl, ha⟩
theorem m_holdsLine {h : Hp} {n m i l : Nat} (hl : laid n h) (hn : h 31 0 = nI n) (h8 : n ≤ 8) (hm : h 31 1 = nI m) (h6 : m ≤ 6) (hi : i < 8) (hl12 : l < 12) (ok : lnOk (h 31) l) :
    ∃ v, f_X12_holdsLine (nI l) (nI i) h = some (hlW (fcW n m (h 31) (h 30 20) i) (h 31) l, upA h 40 v) := by
  obtain ⟨_, _, hf, ht, hle, hcd, hty, _⟩ := ok
  obtain ⟨ef, lf⟩ := bd_cl hf (by decide)
  obtain ⟨et, lt⟩ := bd_cl ht (by decide)
  have hk : (493 : Int32) + 4 * nI l = nI (493 + 4 * l) := by
    rw [show (493 : Int32) = nI 493 from by decide, li4, pk_mul, nI_add]
  have e2 : nI (493 + 4 * l) + 2 = nI (493 + 4 * l + 2) := nI_add _ 2
  have e3 : nI (493 + 4 * l) + 3 = nI (493 + 4 * l + 3) := nI_add _ 3
  have hc15 : ∀ i, i < toW (h 31) l - fromW (h 31) l → cdW (h 31) (fromW (h 31) l + i) ≤ 15 := fun i hi => (bd_cl (hcd (fromW (h 31) l + i) (by omega) (by omega)) (by decide)).2
  have R := fun j (hj : j ≤ toW (h 31) l - fromW (h 31) l) => run_ty (F := fcW n m (h 31) (h 30 20) i) (nm := nmW (h 31)) (v := z0) j (fun i hi => hc15 i (by omega)) (fun i hi => hty i (by omega))
  refine ⟨(runM (fcW n m (h 31) (h 30 20) i) (cdW (h 31)) (nmW (h 31)) (fromW (h 31) l) (h 40) (toW (h 31) l - fromW (h 31) l)).2, ?_⟩
  have H := loop0 (S_X12_holdsLine_22 (nI i) (nI (493 + 4 * l))) (fun _ _ _ => none) (fun j q => q (nI (runM (fcW n m (h 31) (h 30 20) i) (cdW (h 31)) (nmW (h 31)) (fromW (h 31) l) (h 40) j).1) (nI (fromW (h 31) l + j)) (upA h 40 (runM (fcW n m (h 31) (h 30 20) i) (cdW (h 31)) (nmW (h 31)) (fromW (h 31) l) (h 40) j).2))
    (toW (h 31) l - fromW (h 31) l) (some (hlW (fcW n m (h 31) (h 30 20) i) (h 31) l, upA h 40 (runM (fcW n m (h 31) (h 30 20) i) (cdW (h 31)) (nmW (h 31)) (fromW (h 31) l) (h 40) (toW (h 31) l - fromW (h 31) l)).2)) (by unfold toW; omega) (fun j hj q => ?_) (fun q => ?_)
  · unfold f_X12_holdsLine
    rw [show upA h 40 (runM (fcW n m (h 31) (h 30 20) i) (cdW (h 31)) (nmW (h 31)) (fromW (h 31) l) (h 40) 0).2 = h from upA_self] at H
    simp (disch := omega) only [hk, ↓zbn, e2, zgd, zcl]
    rw [ef]
    exact H
  · obtain ⟨s, hs, hsl, h1, hv⟩ := R j (by omega)
    obtain ⟨s', hs', hl'⟩ := hty (j + 1) (by omega)
    have hb : tyS (cdW (h 31) (fromW (h 31) l + j)) s = some s' := by
      have e : tyR (cdW (h 31)) (fromW (h 31) l) (j + 1) = Option.bind (tyR (cdW (h 31)) (fromW (h 31) l) j) (tyS (cdW (h 31) (fromW (h 31) l + j))) := rfl
      rw [hs, hs'] at e; exact e.symm
    have ok := (tyS_ok (hc15 j hj) hb hsl).1
    have hcj := (bd_cl (hcd (fromW (h 31) l + j) (by omega) (by omega)) (by decide)).1
    have St := holds_step (h := h) (n := n) (m := m) (i := i) (l := l) (e := fromW (h 31) l + j) (E := toW (h 31) l) (c := cdW (h 31) (fromW (h 31) l + j)) (t := s.length) (x := nmW (h 31) (fromW (h 31) l + j)) (v := (runM (fcW n m (h 31) (h 30 20) i) (cdW (h 31)) (nmW (h 31)) (fromW (h 31) l) (h 40) j).2) q hl hn h8 hm h6 hi hl12 et lt (by omega) hcj rfl ok
    show S_X12_holdsLine_22 (nI i) (nI (493 + 4 * l)) q (nI (runM (fcW n m (h 31) (h 30 20) i) (cdW (h 31)) (nmW (h 31)) (fromW (h 31) l) (h 40) j).1) _ _ = _
    have e1 := (hv (h 40)).1
    rw [e1, St, ← e1]
    rfl
  · obtain ⟨s, hs, hsl, h1, hv⟩ := R _ (Nat.le_refl _)
    obtain ⟨h2, hv2⟩ := hv (h 40)
    show S_X12_holdsLine_22 (nI i) (nI (493 + 4 * l)) q (nI (runM (fcW n m (h 31) (h 30 20) i) (cdW (h 31)) (nmW (h 31)) (fromW (h 31) l) (h 40) (toW (h 31) l - fromW (h 31) l)).1) _ _ = _
    unfold hlW runW
    rw [h1, h2]
    unfold S_X12_holdsLine_22
    rw [e3]
    have et' : h 31 (493 + 4 * l + 3) = nI (toW (h 31) l) := et
    have lt' : toW (h 31) l ≤ 400 := lt
    have ee : fromW (h 31) l + (toW (h 31) l - fromW (h 31) l) = toW (h 31) l := by omega
    rw [ee]
    simp (disch := omega) only [zgd, zcl, upA_ob, upA_at, et', zlt, if_neg, ze0]
    by_cases c : s.length = 0
    · simp only [c, if_true, decide_true, Bool.true_or]
    · rw [if_neg c, hv2 0 (by omega), decide_eq_false c, Bool.false_or]
      by_cases d : (runM (fcW n m (h 31) (h 30 20) i) (cdW (h 31)) (nmW (h 31)) (fromW (h 31) l) z0 (toW (h 31) l - fromW (h 31) l)).2 0 = 1
      · rw [if_pos d, decide_eq_true d]
      · rw [if_neg d, decide_eq_false d]
theorem m_sumOf {h : Hp} {n m i : Nat} {k : Int32} (hl : laid n h) (g : GdN n m (h 31)) (hi : i < 8) :
    ∃ v, f_X12_sumOf k (nI i) h = some (smW n m (h 31) (h 30 20) k i, upA h 40 v) := by
  obtain ⟨hn, h8, hm, h6, g3, gl⟩ := g
  have Q := loopW (S_X12_sumOf_5 k (nI i)) (fun _ _ _ => none) (fun q (s : Nat × Row) => q (sumTo (smF (fcW n m (h 31) (h 30 20) i) (h 31) k) s.1) (nI s.1) (upA h 40 s.2)) (lnW (h 31)) (fun j s => s.1 = j) (fun r => ∃ v, r = some (smW n m (h 31) (h 30 20) k i, upA h 40 v)) (by
      unfold lnW; split
      · have := (bd_cl (gl ‹_›).1 (by decide)).2; omega
      · omega) (fun j s hj hs => ?_) (fun s hs => ?_) (0, h 40) rfl
  · obtain ⟨v, e⟩ := Q
    refine ⟨v, ?_⟩
    rw [show upA h 40 ((0, h 40) : Nat × Row).2 = h from upA_self] at e
    exact e
  · obtain ⟨j', v⟩ := s
    obtain rfl : j' = j := hs
    have h3 : h 31 3 = 1 := by
      by_cases c : h 31 3 = 1
      · exact c
      · unfold lnW at hj; rw [if_neg c] at hj; omega
    unfold lnW at hj
    rw [if_pos h3] at hj
    obtain ⟨b12, lok⟩ := gl h3
    obtain ⟨eL, lL⟩ := bd_cl b12 (by decide)
    have ok := lok j' hj
    have hk : (493 : Int32) + 4 * nI j' = nI (493 + 4 * j') := by
      rw [show (493 : Int32) = nI 493 from by decide, li4, pk_mul, nI_add]
    have ln : (nI j' < h 31 492) = True := by
      rw [eL, zlt (by omega) (by omega)]; exact eq_true hj
    obtain ⟨v', hv'⟩ := m_holdsLine (h := upA h 40 v) (n := n) (m := m) (i := i) (l := j') (laid_40 hl) (by rw [upA_ob (by decide)]; exact hn) h8 (by rw [upA_ob (by decide)]; exact hm) h6 hi (by omega) (by rw [upA_ob (by decide)]; exact ok)
    rw [upA_ob (by decide), upA_ob (by decide), upA_upA] at hv'
    by_cases ck : h 31 (493 + 4 * j') = k
    · refine ⟨(j' + 1, v'), rfl, fun q => ?_⟩
      show S_X12_sumOf_5 k (nI i) q (sumTo (smF (fcW n m (h 31) (h 30 20) i) (h 31) k) j') (nI j') (upA h 40 v) = q (sumTo (smF (fcW n m (h 31) (h 30 20) i) (h 31) k) j' + smF (fcW n m (h 31) (h 30 20) i) (h 31) k j') (nI (j' + 1)) (upA h 40 v')
      unfold S_X12_sumOf_5 smF
      simp (disch := omega) only [upA_ob, h3, if_true, ln, hk, zgd, zcl, ck, hv', zob, nI_1, show ∀ a, nI a + 1 = nI (a + 1) from nI_1, ↓zbn]
      cases hlW (fcW n m (h 31) (h 30 20) i) (h 31) j'
      · simp only [tff, tT, Int32.add_zero]
      · simp only [ttt, tT]
    · refine ⟨(j' + 1, v), rfl, fun q => ?_⟩
      show S_X12_sumOf_5 k (nI i) q (sumTo (smF (fcW n m (h 31) (h 30 20) i) (h 31) k) j') (nI j') (upA h 40 v) = q (sumTo (smF (fcW n m (h 31) (h 30 20) i) (h 31) k) j' + smF (fcW n m (h 31) (h 30 20) i) (h 31) k j') (nI (j' + 1)) (upA h 40 v)
      unfold S_X12_sumOf_5 smF
      simp (disch := omega) only [upA_ob, h3, if_true, ln, hk, zgd, zcl, ck, if_false, Int32.add_zero, show ∀ a, nI a + 1 = nI (a + 1) from nI_1]
  · obtain ⟨j', v⟩ := s
    obtain rfl : j' = lnW (h 31) := hs
    refine ⟨_, ⟨v, rfl⟩, fun q => ?_⟩
    show S_X12_sumOf_5 k (nI i) q (sumTo (smF (fcW n m (h 31) (h 30 20) i) (h 31) k) (lnW (h 31))) (nI (lnW (h 31))) (upA h 40 v) = _
    unfold S_X12_sumOf_5 smW
    rw [upA_ob (by decide)]
    by_cases h3 : h 31 3 = 1
    · have eL := (bd_cl (gl h3).1 (by decide)).1
      have : ¬ nI (lnW (h 31)) < h 31 492 := by
        unfold lnW; rw [if_pos h3, ← eL]; exact Int32.lt_irrefl
      rw [if_pos h3, if_neg this]
    · rw [if_neg h3]
theorem upA_30 {h : Hp} {v : Row} : upA h 40 v 30 = h 30 := upA_ob (by decide)
theorem upA_31 {h : Hp} {v : Row} : upA h 40 v 31 = h 31 := upA_ob (by decide)
theorem m_standsBy {h : Hp} {n m i : Nat} (hl : laid n h) (g : GdN n m (h 31)) (hi : i < 8) :
    ∃ v, f_X12_standsBy (nI i) h = some (stW n m (h 31) (h 30 20) i + (if tb (h 30 21) i then h 31 7 else 0), upA h 40 v) := by
  obtain ⟨v1, e1⟩ := m_sumOf (k := 0) hl g hi
  obtain ⟨v2, e2⟩ := m_sumOf (h := upA h 40 v1) (n := n) (m := m) (k := 1) (laid_40 hl) (by rw [upA_31]; exact g) hi
  rw [upA_31, upA_30, upA_upA] at e2
  refine ⟨v2, ?_⟩
  obtain ⟨hn, h8, hm, h6, _⟩ := g
  unfold f_X12_standsBy F_X12_standsBy_61
  rw [m_of1 hi, obS, m_of2 hi, obS, m_holdOf hm h6, obS, e1, obS, e2, obS, bnd_eq, m_has, hasB_tb (by omega)]
  simp only [upA_30, upA_31]
  show _ = some (imax 0 (h 31 (74 + 5 * i + 1) + h 31 (74 + 5 * i + 2) + hpW m (h 31) (h 30 20) i + smW n m (h 31) (h 30 20) 0 i - smW n m (h 31) (h 30 20) 1 i) + _, _)
  cases tb (h 30 21) i <;> rfl
theorem m_sagsNow {h : Hp} {n m i : Nat} (hl : laid n h) (g : GdN n m (h 31)) (hi : i < 8) :
    ∃ v, f_X12_sagsNow (nI i) h = some (sgW n m (h 31) (h 30 20) (h 30 21) i, upA h 40 v) := by
  obtain ⟨v, e⟩ := m_standsBy hl g hi
  refine ⟨v, ?_⟩
  unfold f_X12_sagsNow
  rw [m_bearsNow g.1 g.2.1 hi, obS, e, obS, hl i hi]
  rfl
theorem m_thoseS8 {h : Hp} {n m : Nat} (hl : laid n h) (g : GdN n m (h 31)) :
    ∃ v, F_X12_thoseSagging_8 FU 0 0 h = some (sgS n m (h 31) (h 30 20) (h 30 21), upA h 40 v) := by
  have hn := g.1
  have h8 := g.2.1
  have Q := loopW S_X12_thoseSagging_8 (fun _ _ _ => none) (fun q (s : Nat × Row) => q (orTo (sgB n m (h 31) (h 30 20) (h 30 21)) s.1) (nI s.1) (upA h 40 s.2)) n (fun j s => s.1 = j) (fun r => ∃ v, r = some (sgS n m (h 31) (h 30 20) (h 30 21), upA h 40 v)) (by omega) (fun j s hj hs => ?_) (fun s hs => ?_) (0, h 40) rfl
  · obtain ⟨v, e⟩ := Q
    refine ⟨v, ?_⟩
    rw [show upA h 40 ((0, h 40) : Nat × Row).2 = h from upA_self] at e
    exact e
  · obtain ⟨j', v⟩ := s
    obtain rfl : j' = j := hs
    obtain ⟨v', e⟩ := m_sagsNow (h := upA h 40 v) (n := n) (m := m) (i := j') (laid_40 hl) (by rw [upA_31]; exact g) (by omega)
    rw [upA_31, upA_30, upA_upA] at e
    by_cases cf : falB (h 31) j'
    · refine ⟨(j' + 1, v), rfl, fun q => ?_⟩
      show S_X12_thoseSagging_8 q (orTo (sgB n m (h 31) (h 30 20) (h 30 21)) j') (nI j') (upA h 40 v) = q (orTo (sgB n m (h 31) (h 30 20) (h 30 21)) (j' + 1)) (nI (j' + 1)) (upA h 40 v)
      have hs : sgB n m (h 31) (h 30 20) (h 30 21) j' = false := by unfold sgB; rw [cf]; rfl
      unfold S_X12_thoseSagging_8 F_X12_thoseSagging_40
      rw [m_houses, upA_31, itP hn hj (by omega), m_isFallen (by omega), upA_31, obS, orTo_succ, hs, nI_1]
      show (if falB (h 31) j' = true then _ else _) = _
      rw [cf]; rfl
    · refine ⟨(j' + 1, v'), rfl, fun q => ?_⟩
      show S_X12_thoseSagging_8 q (orTo (sgB n m (h 31) (h 30 20) (h 30 21)) j') (nI j') (upA h 40 v) = q (orTo (sgB n m (h 31) (h 30 20) (h 30 21)) (j' + 1)) (nI (j' + 1)) (upA h 40 v')
      have cf' : falB (h 31) j' = false := by simpa using cf
      have hs : sgB n m (h 31) (h 30 20) (h 30 21) j' = decide (0 < sgW n m (h 31) (h 30 20) (h 30 21) j') := by unfold sgB; rw [cf']; rfl
      unfold S_X12_thoseSagging_8 F_X12_thoseSagging_40
      rw [m_houses, upA_31, itP hn hj (by omega), m_isFallen (by omega), upA_31, obS, orTo_succ, hs, nI_1]
      show (if falB (h 31) j' = true then _ else _) = _
      rw [cf', tff, e, obS]
      by_cases d : 0 < sgW n m (h 31) (h 30 20) (h 30 21) j'
      · rw [if_pos d, decide_eq_true d]; rfl
      · rw [if_neg d, decide_eq_false d]; rfl
  · obtain ⟨j', v⟩ := s
    obtain rfl : j' = n := hs
    refine ⟨_, ⟨v, rfl⟩, fun q => ?_⟩
    show S_X12_thoseSagging_8 q _ (nI j') (upA h 40 v) = _
    unfold S_X12_thoseSagging_8
    rw [m_houses, upA_31, itN hn (by omega)]
    rfl
theorem ES_40 {h : Hp} {v : Row} : ES h (upA h 40 v) := fun _ _ _ c => upA_ob c
theorem m_thoseSagging {h : Hp} {n m : Nat} (g : GdN n m (h 31)) :
    ∃ h', f_X12_thoseSagging h = some (sgS n m (h 31) (h 30 20) (h 30 21), h') ∧ ES h h' ∧ laid n h' := by
  obtain ⟨h1, e1, f1, l1⟩ := m_laysE g.1 g.2.1
  have w : h1 31 = h 31 := f1 31 (by decide) (by decide) (by decide)
  have w2 : h1 30 = h 30 := f1 30 (by decide) (by decide) (by decide)
  obtain ⟨v, e⟩ := m_thoseS8 (h := h1) (n := n) (m := m) l1 (by rw [w]; exact g)
  rw [w, w2] at e
  refine ⟨upA h1 40 v, ?_, ES_trans f1 ES_40, laid_40 l1⟩
  unfold f_X12_thoseSagging
  rw [e1, obS, e]
