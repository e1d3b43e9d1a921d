/-! LAYER 4. there, twins, log, led -/
def thS (m : Nat) (w : Row) (e : Nat) (p : Nat) : Bool := decide (p < m) && (!decide (atR w p = -1) && tb (cmR w p) e)
theorem m_there_x {g : Hp} {x : Int32} (hx : x < 0 ∨ nI 7 ≤ x) : ∃ b h', f_X12_there x g = some (b, h') ∧ h' 30 0 = 1 ∧ KM g h' := by
  refine ⟨0, up1 (up1 g 30 0 0) 30 0 1, ?_, up1_same, KM_trans KM_0 KM_0⟩
  unfold f_X12_there
  rw [bnd_eq, noE_x hx, tIt, obS]; rfl
theorem sp_40 {a : Nat → Int32} {h : Hp} (I : Inv h) : ∃ h' n, St_40 a h h' n ∧ n ≤ 1 ∧ Inv h' := by
  obtain ⟨⟨n, m, N⟩, _⟩ := id I
  have h8 := N.1.1.2.1
  have h6 := N.1.1.2.2.2.1
  have H := N.2.1
  rcases argI (a 1) (n := 7) (by omega) with ⟨e, he, e1⟩ | hx
  · obtain ⟨h', k, s, l, J⟩ := qOk (c := f_X11_there (a 1)) (md := f_X12_there (a 1)) (v := orTo (thS m (h 31) e) m) I ⟨h, by
        rw [e1]
        unfold f_X11_there
        rw [ckE_i he, obS, exOk]
        have Q := loop0 (S_X11_there_8 (nI e)) (fun _ _ _ => none) (fun j q => q (orTo (thS m (h 31) e) j) (nI j) h) 6 (some (Except.ok (orTo (thS m (h 31) e) m), h)) (by omega) (fun j hj q => ?_) (fun q => ?_)
        · exact Q
        · show S_X11_there_8 (nI e) q (orTo (thS m (h 31) e) j) (nI j) h = q (orTo (thS m (h 31) e) j ||| (if thS m (h 31) e j = true then shl 1 (nI j) else 0)) (nI (j + 1)) h
          unfold S_X11_there_8 thS
          rw [c_placeOf H h6 (by omega), obS, c_isThere H h6 (by omega) he, obS]
          by_cases z : j < m
          · rw [if_pos z, decide_eq_true z, Bool.true_and, Bool.true_and]
            by_cases y : atR (h 31) j = -1
            · rw [if_pos y, decide_eq_true y, show (!true && tb (cmR (h 31) j) e) = false from rfl, tff, Int32.or_zero]
              simp (disch := omega) only [reduceIte, ↓zbn, zgd, zcl, zlt, zeq, zn0, zp0, ze0, zem, zsuc, zob, ztl, zfl, ztle, zfle, zte, zfe, zft, toB0, toB1, i10, i01, zl6]
            · rw [if_neg y, decide_eq_false y, show (!false && tb (cmR (h 31) j) e) = tb (cmR (h 31) j) e from rfl]
              cases tb (cmR (h 31) j) e
              · rw [tff, tff, Int32.or_zero]
                simp (disch := omega) only [reduceIte, ↓zbn, zgd, zcl, zlt, zeq, zn0, zp0, ze0, zem, zsuc, zob, ztl, zfl, ztle, zfle, zte, zfe, zft, toB0, toB1, i10, i01, zl6]
              · rw [ttt, ttt]
                simp (disch := omega) only [reduceIte, ↓zbn, zgd, zcl, zlt, zeq, zn0, zp0, ze0, zem, zsuc, zob, ztl, zfl, ztle, zfle, zte, zfe, zft, toB0, toB1, i10, i01, zl6]
          · rw [if_neg z, decide_eq_false z, Bool.false_and, Bool.false_and, tff, tff, Int32.or_zero, if_pos (rfl : (-1 : Int32) = -1)]
            simp (disch := omega) only [reduceIte, ↓zbn, zgd, zcl, zlt, zeq, zn0, zp0, ze0, zem, zsuc, zob, ztl, zfl, ztle, zfle, zte, zfe, zft, toB0, toB1, i10, i01, zl6]
        · show S_X11_there_8 (nI e) q (orTo (thS m (h 31) e) 6) (nI 6) h = _
          unfold S_X11_there_8
          simp (disch := omega) only [reduceIte, ↓zbn, zgd, zcl, zlt, zeq, zn0, zp0, ze0, zem, zsuc, zob, ztl, zfl, ztle, zfle, zte, zfe, zft, toB0, toB1, i10, i01, zl6]
          congr 3
          refine orTo_eq (by omega) (by omega) fun k hk => ?_
          unfold thS
          by_cases z : k < m
          · rw [decide_eq_true z, decide_eq_true (show k < 6 by omega)]
          · rw [decide_eq_false z, Bool.false_and, Bool.and_false, Bool.false_and], KC_refl h⟩ (fun g _ eg => by
        have G := (NOWg N eg).1
        have w1 : (up1 g 30 0 0) 31 = h 31 := by rw [up1_ob (by decide), eg 31 (by decide) (by decide)]
        have gm : (h 31) 1 = nI m := N.1.1.2.2.1
        refine ⟨up1 g 30 0 0, ?_, up1_same, KM_0⟩
        rw [e1]
        unfold f_X12_there
        rw [bnd_eq, noE_i he, tIf, obS]
        dsimp only
        rw [tff]
        have Q := loop0 (S_X12_there_23 (nI e)) (fun _ _ _ => none) (fun j q => q (orTo (thS m (h 31) e) j) (nI j) (up1 g 30 0 0)) m (some (orTo (thS m (h 31) e) m, up1 g 30 0 0)) (by omega) (fun j hj q => ?_) (fun q => ?_)
        · exact Q
        · show S_X12_there_23 (nI e) q (orTo (thS m (h 31) e) j) (nI j) (up1 g 30 0 0) = q (orTo (thS m (h 31) e) j ||| (if thS m (h 31) e j = true then shl 1 (nI j) else 0)) (nI (j + 1)) (up1 g 30 0 0)
          unfold S_X12_there_23 F_X12_there_62 thS
          rw [m_people, w1, itP gm hj (by omega), m_ofPerson0 (by omega), obS, show (2 : Int32) = nI 2 from rfl, m_ofPerson (by omega) (by omega), obS, w1, m_has, hasB_tb (by omega), decide_eq_true hj, Bool.true_and]
          show (if atR (h 31) j = -1 then _ else if tb (cmR (h 31) j) e = true then _ else _) = _
          by_cases y : atR (h 31) j = -1
          · rw [if_pos y, decide_eq_true y, show (!true && tb (cmR (h 31) j) e) = false from rfl, tff, bnd_eq, nI_1]
          · rw [if_neg y, decide_eq_false y, show (!false && tb (cmR (h 31) j) e) = tb (cmR (h 31) j) e from rfl]
            cases tb (cmR (h 31) j) e
            · rw [tff, tff, bnd_eq, nI_1]
            · rw [ttt, ttt, bnd_eq, nI_1]
        · show S_X12_there_23 (nI e) q (orTo (thS m (h 31) e) m) (nI m) (up1 g 30 0 0) = _
          unfold S_X12_there_23
          rw [m_people, w1, itN gm (by omega)])
    exact ⟨h', k, Or.inl s, l, J⟩
  · obtain ⟨h', k, s, l, J⟩ := qEr (c := f_X11_there (a 1)) (md := f_X12_there (a 1)) I ⟨h, by unfold f_X11_there; rw [ckE_x hx, obS, exEr], KC_refl h⟩ (fun g _ e => m_there_x hx)
    exact ⟨h', k, Or.inr s, l, J⟩
/-! twins -/
def twB (n : Nat) (w : Row) (i o : Nat) : Bool := (upB n w i && upB n w o) && (decide (wtR w i = wtR w o) && decide (fmR w i = fmR w o))
def twN (n : Nat) (w : Row) (i o : Nat) : Nat := if twB n w i o then 1 else 0
theorem tw_sym (n : Nat) (w : Row) (i o : Nat) : twN n w i o = twN n w o i := by
  have : twB n w i o = twB n w o i := by
    unfold twB
    rw [Bool.and_comm (upB n w i), show decide (wtR w i = wtR w o) = decide (wtR w o = wtR w i) from decide_eq_decide.mpr ⟨Eq.symm, Eq.symm⟩, show decide (fmR w i = fmR w o) = decide (fmR w o = fmR w i) from decide_eq_decide.mpr ⟨Eq.symm, Eq.symm⟩]
  unfold twN; rw [this]
theorem tw_sum {G : Nat → Nat → Nat} (s : ∀ i o, G i o = G o i) : sumN (fun i => sumN (fun t => G i (i + 1 + t)) (7 - i)) 8 = sumN (fun i => sumN (fun o => G i o) i) 8 := by
  simp only [sumN, Nat.reduceAdd, Nat.reduceSub]
  simp only [s 1 0, s 2 0, s 3 0, s 4 0, s 5 0, s 6 0, s 7 0, s 2 1, s 3 1, s 4 1, s 5 1, s 6 1, s 7 1, s 3 2, s 4 2, s 5 2, s 6 2, s 7 2, s 4 3, s 5 3, s 6 3, s 7 3, s 5 4, s 6 4, s 7 4, s 6 5, s 7 5, s 7 6]
  omega
theorem tw_z {n : Nat} {w : Row} {i o : Nat} (h : n ≤ i ∨ n ≤ o) : twN n w i o = 0 := by
  have : twB n w i o = false := by
    unfold twB
    rcases h with h | h
    · rw [upB_hi h, Bool.false_and, Bool.false_and]
    · rw [upB_hi h, Bool.and_false, Bool.false_and]
  unfold twN; rw [this]; rfl
theorem sp_41 {a : Nat → Int32} {h : Hp} (I : Inv h) : ∃ h' n, St_41 a h h' n ∧ n ≤ 1 ∧ Inv h' := by
  obtain ⟨⟨n, m, N⟩, _⟩ := id I
  have g := N.1
  have h8 := g.1.2.1
  have H := N.2.1
  obtain ⟨G, hG⟩ : ∃ G : Nat → Nat → Nat, G = twN n (h 31) := ⟨_, rfl⟩
  have G1 : ∀ i o, G i o ≤ 1 := fun i o => by rw [hG]; unfold twN; split <;> omega
  obtain ⟨C, hC⟩ : ∃ C : Nat → Nat, C = fun i => sumN (fun t => G i (i + 1 + t)) (7 - i) := ⟨_, rfl⟩
  obtain ⟨M, hM⟩ : ∃ M : Nat → Nat, M = fun i => sumN (fun o => G i o) i := ⟨_, rfl⟩
  have tot : sumN C 8 = sumN M n := by
    rw [hC, hM, tw_sum (G := G) (by rw [hG]; exact tw_sym n (h 31))]
    exact sumN_ext 8 h8 fun k hk _ => by
      have : sumN (fun o => G k o) k = sumN (fun _ => 0) k := sumN_congr k fun j hj => by rw [hG]; exact tw_z (Or.inl hk)
      rw [this]
      exact (sumN_0 k).mpr fun _ _ => rfl
  refine qPu (c := f_X11_twins) (md := f_X12_twins) (v := nI (sumN M n)) I ?_ ?_
  · have Q := loop0 (S_X11_twins_4 h) (fun _ _ => none) (fun j q => q (nI (sumN C j)) (nI j)) 8 (some (nI (sumN M n))) (by omega) (fun j hj q => ?_) (fun q => ?_)
    · exact Q
    · show S_X11_twins_4 h q (nI (sumN C j)) (nI j) = q (nI (sumN C j + C j)) (nI (j + 1))
      unfold S_X11_twins_4
      rw [show (8 : Int32) = nI 8 from rfl, if_pos ((nI_ltI (by omega) (by omega)).mpr hj), nI_1]
      have Cj : C j = sumN (fun t => G j (j + 1 + t)) (7 - j) := by rw [hC]
      have Q2 := loop0 (S_X11_twins_14 q h (nI j)) (fun _ _ => none) (fun t k => k (nI (sumN C j + sumN (fun t => G j (j + 1 + t)) t)) (nI (j + 1 + t))) (7 - j) (q (nI (sumN C j + C j)) (nI (j + 1))) (by omega) (fun t ht k => ?_) (fun k => ?_)
      · exact Q2
      · show S_X11_twins_14 q h (nI j) k (nI (sumN C j + sumN (fun t => G j (j + 1 + t)) t)) (nI (j + 1 + t)) = k (nI (sumN C j + (sumN (fun t => G j (j + 1 + t)) t + G j (j + 1 + t)))) (nI (j + 1 + t + 1))
        have a1 : h 101 j = wtR (h 31) j := (H.1 j hj).1
        have a2 : h 102 j = fmR (h 31) j := (H.1 j hj).2.1
        have b1 : h 101 (j + 1 + t) = wtR (h 31) (j + 1 + t) := (H.1 _ (by omega)).1
        have b2 : h 102 (j + 1 + t) = fmR (h 31) (j + 1 + t) := (H.1 _ (by omega)).2.1
        have eG : G j (j + 1 + t) = if twB n (h 31) j (j + 1 + t) then 1 else 0 := by rw [hG]; rfl
        rw [eG]
        unfold S_X11_twins_14 twB
        rw [c_isUp H h8 (by omega), c_isUp H h8 (by omega)]
        cases upB n (h 31) j
        · rw [Bool.false_and, Bool.false_and, tff, tff]
          simp (disch := omega) only [reduceIte, ↓zbn, zgd, zcl, zlt, zeq, zn0, zp0, ze0, zem, zsuc, zob, ztl, zfl, ztle, zfle, zte, zfe, zft, toB0, toB1, i10, i01, zl8, Nat.add_zero]
        · rw [Bool.true_and, ttt]
          cases upB n (h 31) (j + 1 + t)
          · rw [Bool.false_and, tff, tff]
            simp (disch := omega) only [reduceIte, ↓zbn, zgd, zcl, zlt, zeq, zn0, zp0, ze0, zem, zsuc, zob, ztl, zfl, ztle, zfle, zte, zfe, zft, toB0, toB1, i10, i01, zl8, Nat.add_zero]
          · rw [Bool.true_and, ttt]
            by_cases z : wtR (h 31) j = wtR (h 31) (j + 1 + t)
            · rw [decide_eq_true z, Bool.true_and]
              by_cases y : fmR (h 31) j = fmR (h 31) (j + 1 + t)
              · rw [decide_eq_true y, ttt]
                simp (disch := omega) only [reduceIte, ↓zbn, zgd, zcl, zlt, zeq, zn0, zp0, ze0, zem, zsuc, zob, ztl, zfl, ztle, zfle, zte, zfe, zft, toB0, toB1, i10, i01, zl8, a1, a2, b1, b2, z, y, if_true]
                rw [Nat.add_assoc (sumN C j)]
              · rw [decide_eq_false y, tff]
                simp (disch := omega) only [reduceIte, ↓zbn, zgd, zcl, zlt, zeq, zn0, zp0, ze0, zem, zsuc, zob, ztl, zfl, ztle, zfle, zte, zfe, zft, toB0, toB1, i10, i01, zl8, a1, a2, b1, b2, z, y, if_true, if_false, Nat.add_zero]
            · rw [decide_eq_false z, Bool.false_and, tff]
              simp (disch := omega) only [reduceIte, ↓zbn, zgd, zcl, zlt, zeq, zn0, zp0, ze0, zem, zsuc, zob, ztl, zfl, ztle, zfle, zte, zfe, zft, toB0, toB1, i10, i01, zl8, a1, a2, b1, b2, z, if_false, Nat.add_zero]
      · show S_X11_twins_14 q h (nI j) k (nI (sumN C j + sumN (fun t => G j (j + 1 + t)) (7 - j))) (nI (j + 1 + (7 - j))) = _
        unfold S_X11_twins_14
        rw [← Cj, show j + 1 + (7 - j) = 8 by omega]
        simp (disch := omega) only [reduceIte, ↓zbn, zgd, zcl, zlt, zeq, zn0, zp0, ze0, zem, zsuc, zob, ztl, zfl, ztle, zfle, zte, zfe, zft, toB0, toB1, i10, i01, zl8]
    · show S_X11_twins_4 h q (nI (sumN C 8)) (nI 8) = _
      unfold S_X11_twins_4
      rw [tot]
      simp (disch := omega) only [reduceIte, ↓zbn, zgd, zcl, zlt, zeq, zn0, zp0, ze0, zem, zsuc, zob, ztl, zfl, ztle, zfle, zte, zfe, zft, toB0, toB1, i10, i01, zl8]
  · have w1 : (up1 h 30 0 0) 31 = h 31 := up1_ob (by decide)
    refine ⟨up1 h 30 0 0, ?_, KM_0⟩
    have Q := loop0 S_X12_twins_9 (fun _ _ _ => none) (fun j q => q (nI (sumN M j)) (nI j) (up1 h 30 0 0)) n (some (nI (sumN M n), up1 h 30 0 0)) (by omega) (fun j hj q => ?_) (fun q => ?_)
    · exact Q
    · show S_X12_twins_9 q (nI (sumN M j)) (nI j) (up1 h 30 0 0) = q (nI (sumN M j + M j)) (nI (j + 1)) (up1 h 30 0 0)
      unfold S_X12_twins_9
      rw [m_houses, w1, itP g.1.1 hj (by omega)]
      have Mj : M j = sumN (fun o => G j o) j := by rw [hM]
      have Q2 := loop0 (S_X12_twins_19 q (nI j)) (fun _ _ _ => none) (fun o k => k (nI (sumN M j + sumN (fun o => G j o) o)) (nI o) (up1 h 30 0 0)) j (q (nI (sumN M j + M j)) (nI (j + 1)) (up1 h 30 0 0)) (by omega) (fun o ho k => ?_) (fun k => ?_)
      · exact Q2
      · show S_X12_twins_19 q (nI j) k (nI (sumN M j + sumN (fun o => G j o) o)) (nI o) (up1 h 30 0 0) = k (nI (sumN M j + (sumN (fun o => G j o) o + G j o))) (nI (o + 1)) (up1 h 30 0 0)
        have eG : G j o = if twB n (h 31) j o then 1 else 0 := by rw [hG]; rfl
        have m0 : ∀ i, i < 8 → f_X12_of (nI i) 0 (up1 h 30 0 0) = some (up1 h 30 0 0 31 (74 + 5 * i + 0)) := fun i hi => m_of (w := 0) hi (by omega)
        have m1 : ∀ i, i < 8 → f_X12_of (nI i) 1 (up1 h 30 0 0) = some (up1 h 30 0 0 31 (74 + 5 * i + 1)) := fun i hi => m_of (w := 1) hi (by omega)
        rw [eG]
        unfold S_X12_twins_19 F_X12_twins_76 twB
        rw [if_pos ((nI_ltI (by omega) (by omega)).mpr ho), m_isF (by omega), m_isF (by omega), m0 j (by omega), m0 o (by omega), m1 j (by omega), m1 o (by omega), obS, obS, obS, obS, obS, obS, w1, up_fal hj, up_fal (show o < n by omega)]
        cases falB (h 31) j
        · rw [tff, show (!false) = true from rfl, Bool.true_and]
          cases falB (h 31) o
          · rw [tff, show (!false) = true from rfl, Bool.true_and]
            show (if wtR (h 31) j = wtR (h 31) o then if fmR (h 31) j = fmR (h 31) o then _ else _ else _) = _
            by_cases z : wtR (h 31) j = wtR (h 31) o
            · rw [if_pos z, decide_eq_true z, Bool.true_and]
              by_cases y : fmR (h 31) j = fmR (h 31) o
              · rw [if_pos y, decide_eq_true y, ttt, nI_1, nI_1, Nat.add_assoc]
              · rw [if_neg y, decide_eq_false y, tff, nI_1, Int32.add_zero]; rfl
            · rw [if_neg z, decide_eq_false z, Bool.false_and, tff, nI_1, Int32.add_zero]; rfl
          · rw [ttt, show (!true) = false from rfl, Bool.false_and, tff, nI_1, Int32.add_zero]; rfl
        · rw [ttt, show (!true) = false from rfl, Bool.false_and, Bool.false_and, tff, nI_1, Int32.add_zero]; rfl
      · show S_X12_twins_19 q (nI j) k (nI (sumN M j + sumN (fun o => G j o) j)) (nI j) (up1 h 30 0 0) = _
        unfold S_X12_twins_19
        rw [if_neg (fun z => absurd ((nI_ltI (by omega) (by omega)).mp z) (Nat.lt_irrefl j)), nI_1, ← Mj]
    · show S_X12_twins_9 q (nI (sumN M n)) (nI n) (up1 h 30 0 0) = _
      unfold S_X12_twins_9
      rw [m_houses, w1, itN g.1.1 (by omega)]
