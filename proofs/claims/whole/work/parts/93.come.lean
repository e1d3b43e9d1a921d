/-! LAYER 4. come, lean, wed -/
theorem upd_id {w : Row} {k : Nat} : upd w k (w k) = w := funext fun j => by
  by_cases c : j = k
  · rw [c, upd_at]
  · rw [upd_ob c]
theorem tb_127 : ∀ k, k < 32 → tb 127 k = decide (k < 7) := by decide +kernel
theorem tb_nI {a k : Nat} (hk : k < 32) : tb (nI a) k = a.testBit k := by
  show (BitVec.ofNat 32 a).getLsbD k = _
  rw [BitVec.getLsbD_ofNat, decide_eq_true hk, Bool.true_and]
theorem bd127 {x : Int32} (h : ∀ k, 7 ≤ k → k < 32 → tb x k = false) : ∃ a, a ≤ 127 ∧ x = nI a := by
  obtain ⟨k, hk, e⟩ := pk_andE x (m := 127) 7 (by decide)
  refine ⟨k, by omega, ?_⟩
  rw [← e]
  refine tb_ext fun j hj => ?_
  rw [tb_and, tb_127 j hj]
  by_cases c : j < 7
  · rw [decide_eq_true c, Bool.and_true]
  · rw [decide_eq_false c, Bool.and_false, h j (by omega) hj]
theorem tb_hi7 {a k : Nat} (ha : a ≤ 127) (hk : 7 ≤ k) (h32 : k < 32) : tb (nI a) k = false := by
  rw [tb_nI h32]
  exact Nat.testBit_lt_two_pow (Nat.lt_of_lt_of_le (show a < 2 ^ 7 by omega) (Nat.pow_le_pow_right (by omega) hk))
def cmX (cm : Int32) (e : Nat) (y : Int32) : Int32 := (cm &&& (shl 1 (nI e) ^^^ (-1))) ||| (if y = 0 then 0 else shl 1 (nI e))
theorem cmX_tb {cm : Int32} {e k : Nat} {y : Int32} (he : e < 7) (hk : k < 32) : tb (cmX cm e y) k = if k = e then decide (¬ y = 0) else tb cm k := by
  unfold cmX
  rw [tb_or, tb_and, tb_not hk, tb_s1 (by omega) hk]
  by_cases z : y = 0
  · rw [if_pos z, tb_0, Bool.or_false]
    by_cases c : k = e
    · rw [decide_eq_true c, if_pos c, decide_eq_false (fun q => q z)]; exact Bool.and_false _
    · rw [decide_eq_false c, if_neg c]; exact Bool.and_true _
  · rw [if_neg z, tb_s1 (by omega) hk]
    by_cases c : k = e
    · rw [decide_eq_true c, if_pos c, decide_eq_true z]; exact Bool.or_true _
    · rw [decide_eq_false c, if_neg c, Bool.or_false]; exact Bool.and_true _
theorem sp_14 {a : Nat → Int32} {h : Hp} (I : Inv h) : ∃ h' n, St_14 a h h' n ∧ n ≤ 1 ∧ Inv h' := by
  obtain ⟨⟨n, m, N⟩, _, _, _, h21⟩ := id I
  have g := N.1
  have h8 := g.1.2.1
  have h6 := g.1.2.2.2.1
  have H := N.2.1
  have cm := H.2.2.2.1.2.1
  obtain ⟨y, hy, y01⟩ : ∃ y, nz (a 3) = y ∧ (y = 0 ∨ y = 1) := ⟨_, rfl, by unfold nz; split <;> simp⟩
  have bad : ((a 1 < 0 ∨ nI m ≤ a 1) ∨ (∃ p, p < m ∧ a 1 = nI p) ∧ (a 2 < 0 ∨ nI 7 ≤ a 2)) → ∃ h' n, St_14 a h h' n ∧ n ≤ 1 ∧ Inv h' := by
    intro hx
    obtain ⟨h', k, s, l, J⟩ := qErB (c := f_X11_come (a 1) (a 2) (nz (a 3))) (md := f_X12_come (a 1) (a 2) (nz (a 3))) (E := "java/lang/IndexOutOfBoundsException") (t := 1) I ⟨h, by
        unfold f_X11_come
        rcases hx with q | ⟨⟨p, hp, e⟩, q⟩
        · rw [ckP_x cm h6 q, obS, exEr]
        · rw [e, ckP_i cm h6 hp, obS, exOk, ckE_x q, obS, exEr], KC_refl h⟩ (fun q _ qe => bEB (by
        have fin : F_X12_come_26 (a 1) (a 2) (nz (a 3)) 1 (up1 q 30 0 0) = some (false, up1 (up1 q 30 0 0) 30 0 1) := by
          unfold F_X12_come_26; rw [tI1, obS]; rfl
        unfold f_X12_come
        rw [bnd_eq]
        rcases hx with z | ⟨_, z⟩
        · rw [noP_x (by rw [w30' qe]; exact g.1.2.2.1) h6 z, ttt, fin]
        · rw [noE_x (x := a 2) z, ttt, fin, ite_self]))
    exact ⟨h', k, Or.inr s, l, J⟩
  rcases argI (a 1) (n := m) (by omega) with ⟨p, hp, e1⟩ | hx
  · rcases argI (a 2) (n := 7) (by omega) with ⟨e, he, e2⟩ | hx
    · obtain ⟨c0, hc0, ec0⟩ := (g.2.2.2.1 p hp).2.2
      have ec : cmR (h 31) p = nI c0 := ec0
      have xb : ∃ a, a ≤ 127 ∧ cmX (cmR (h 31) p) e y = nI a := bd127 fun k hk h32 => by
        rw [cmX_tb he h32, if_neg (by omega), ec, tb_hi7 hc0 hk h32]
      obtain ⟨v, hv⟩ : ∃ v, (if b2i (tb (cmR (h 31) p) e) = y then false else true) = v := ⟨_, rfl⟩
      obtain ⟨r, er, ro, K⟩ := qActCore I (Gd_1 (k := 114 + 3 * p + 2) (x := cmX (cmR (h 31) p) e y) g (by omega) (by omega) (by omega) (fun _ _ _ => by omega) (fun _ _ _ _ _ => by omega) (fun _ _ _ => by omega) (fun _ _ _ => xb)) (fun k hk => upd_ob (by omega))
      have rV : CV0 100 r n m (h 31) := CV0_fr H fun k x y => ro k (by omega) (by omega)
      have rG : LG 100 r (h 31) := LG_fr N.2.2.1 fun k x y => ro k (by omega) (by omega)
      have hc : ∃ h1, f_X11_come (a 1) (a 2) (nz (a 3)) h = some (Except.ok v, h1) ∧ KC1 r h1 ∧ CV0 100 h1 n m (upd (h 31) (114 + 3 * p + 2) (cmX (cmR (h 31) p) e y)) ∧ LG 100 h1 (upd (h 31) (114 + 3 * p + 2) (cmX (cmR (h 31) p) e y)) := by
        have inm : f_X11_come (a 1) (a 2) (nz (a 3)) h = Option.bind (if b2i (tb (cmR (h 31) p) e) = y then F_X1_setDay_15 100 (nI p) (nI e) 0 r else F_X1_setDay_15 100 (nI p) (nI e) 1 r) fun r_15 => some (Except.ok r_15.1, r_15.2) := by
          unfold f_X11_come f_X1_setDay
          rw [e1, e2, hy, ckP_i cm h6 hp, obS, exOk, ckE_i he, obS, exOk, er, obS, c_isThere rV h6 (by omega) he, obS, decide_eq_true hp, Bool.true_and]
        rw [inm]
        by_cases z : b2i (tb (cmR (h 31) p) e) = y
        · rw [if_pos z] at hv ⊢
          have same : cmX (cmR (h 31) p) e y = cmR (h 31) p := tb_ext fun k hk => by
            rw [cmX_tb he hk]
            by_cases q : k = e
            · rw [if_pos q, ← z, q]
              cases tb (cmR (h 31) p) e <;> decide
            · rw [if_neg q]
          have eid : upd (h 31) (114 + 3 * p + 2) (cmX (cmR (h 31) p) e y) = h 31 := by rw [same]; exact upd_id
          refine ⟨r, ?_, fun k hk => rfl, by rw [eid]; exact rV, by rw [eid]; exact rG⟩
          unfold F_X1_setDay_15
          rw [if_pos rfl, toB0, obS, obS, ← hv]
        · rw [if_neg z] at hv ⊢
          have fl : r 108 p ^^^ shl 1 (nI e) = cmX (cmR (h 31) p) e y := tb_ext fun k hk => by
            have r8 : r 108 p = cmR (h 31) p := (rV.2.2.1 p hp).2.2
            rw [r8, cmX_tb he hk, tb_xor, tb_s1 (by omega) hk]
            by_cases q : k = e
            · rw [if_pos q, decide_eq_true q, q]
              revert z
              rcases y01 with rfl | rfl <;> cases tb (cmR (h 31) p) e <;> simp <;> decide
            · rw [if_neg q, decide_eq_false q, Bool.xor_false]
          refine ⟨up1 r 108 p (cmX (cmR (h 31) p) e y), ?_, fun k hk => up1_ob (by omega), CV0_cm rV h6 hp up1_at (fun k hk => up1_ob hk), LG_cg (fun k hk => upd_ob (by omega)) (LG_fr rG fun k x y => up1_ob (by omega))⟩
          unfold F_X1_setDay_15
          rw [if_neg (by decide), c_isPerson rV.2.2.2.1.2.1 h6 (by omega), decide_eq_true hp, ttt, gdT (nI_ix (by omega) (by omega)), gdT (nI_ix (by omega) (by omega)), nI_clamp (by omega), fl, bnd_eq, toB1, obS, obS, ← hv]
      obtain ⟨h1, c1, k1, V1, L1⟩ := hc
      obtain ⟨r', er', r'31, r'50, r'30, r'0, K2⟩ := K h1 k1 V1 L1 (up1 h1 50 0 (b2i v)) (fun k hk => up1_ob hk)
      have w30 : (up1 (up1 h1 50 0 (b2i v)) 30 0 0) 31 = h 31 := by rw [up1_ob (by decide), up1_ob (by decide), k1 31 (by omega), ro 31 (by decide) (by omega)]
      have km : KM1 r' (up1 r' 31 (114 + 3 * p + 2) (cmX (cmR (h 31) p) e y)) := KM1_31
      refine ⟨up1 r' 31 (114 + 3 * p + 2) (cmX (cmR (h 31) p) e y), 0, Or.inl ⟨v, h1, v, c1, ?_, by show (up1 r' 31 _ _) 30 0 = 0; rw [km.2 0 (by decide) (by decide)]; exact r'0, by rw [km.1 50 (by omega), r'50, up1_same], rfl⟩, by omega, K2 _ km (by rw [up1_at, r'31])⟩
      unfold f_X12_come F_X12_come_26
      rw [bnd_eq, e1, e2, hy, noP_i (by rw [w30]; exact g.1.2.2.1) h6 hp, tff, noE_i he, tff, tI0, obS]
      dsimp only
      rw [tff, er', obS, show f_X12_ofPerson (nI p) 2 r' = some (cmR (h 31) p) by rw [← r'31]; exact m_ofPerson2 (by omega), obS, m_has, hasB_tb (by omega), bnd_eq, obS, show f_X12_personAt (nI p) 2 r' = nI (114 + 3 * p + 2) from m_personAtI (w := 2)]
      unfold F_X12_come_83
      unfold cmX
      by_cases z : y = 0
      · rw [if_pos z, if_pos z, gdT (nI_ix (by omega) (by omega)), nI_clamp (by omega), bnd_eq, ← hv]; split <;> rfl
      · rw [if_neg z, if_neg z, gdT (nI_ix (by omega) (by omega)), nI_clamp (by omega), bnd_eq, ← hv]; split <;> rfl
    · exact bad (Or.inr ⟨⟨p, hp, e1⟩, hx⟩)
  · exact bad (Or.inl hx)
/-! two houses -/
theorem mN_bad {x1 x2 y : Int32} {q : Hp} {n : Nat} (hn : q 31 0 = nI n) (h8 : n ≤ 8) (hx : (x1 < 0 ∨ nI n ≤ x1) ∨ (x2 < 0 ∨ nI n ≤ x2)) : f_X12_noTwo x1 x2 y q = some (true, up1 (up1 q 30 0 0) 30 0 1) := by
  have w : (up1 q 30 0 0) 31 0 = nI n := by rw [up1_ob (by decide)]; exact hn
  have fin : F_X12_noTwo_27 x1 x2 y 1 (up1 q 30 0 0) = some (true, up1 (up1 q 30 0 0) 30 0 1) := by
    unfold F_X12_noTwo_27; rw [tI1, obS]; rfl
  unfold f_X12_noTwo
  rw [bnd_eq]
  rcases hx with z | z
  · rw [noH_x w h8 z, ttt, fin]
  · rw [noH_x (x := x2) w h8 z, ttt, fin, ite_self]
theorem mN_in {i o n : Nat} {y : Int32} {q : Hp} (hn : q 31 0 = nI n) (h8 : n ≤ 8) (hi : i < n) (ho : o < n) : f_X12_noTwo (nI i) (nI o) y q = F_X12_noTwo_49 (nI i) (nI o) (if i = o ∨ y = 0 then 1 else 0) (up1 q 30 0 0) := by
  have w : (up1 q 30 0 0) 31 0 = nI n := by rw [up1_ob (by decide)]; exact hn
  unfold f_X12_noTwo F_X12_noTwo_27
  rw [bnd_eq, noH_i w h8 hi, tff, noH_i w h8 ho, tff, tI0, obS]
  dsimp only
  rw [tff]
  by_cases c : i = o
  · rw [if_pos (by rw [c]), if_pos (Or.inl c)]
  · rw [if_neg (by rw [nI_eq (by omega) (by omega)]; exact c)]
    by_cases d : y = 0
    · rw [if_pos d, if_pos (Or.inr d)]
    · rw [if_neg d, if_neg (fun q => q.elim c d)]
theorem mN_arg {i o n : Nat} {y : Int32} {q : Hp} (hn : q 31 0 = nI n) (h8 : n ≤ 8) (hi : i < n) (ho : o < n) (hy : i = o ∨ y = 0) : f_X12_noTwo (nI i) (nI o) y q = some (true, up1 (up1 q 30 0 0) 30 0 2) := by
  rw [mN_in hn h8 hi ho, if_pos hy]
  unfold F_X12_noTwo_49; rw [tI1, obS]; rfl
theorem mN_fal {i o n : Nat} {y : Int32} {q : Hp} (hn : q 31 0 = nI n) (h8 : n ≤ 8) (hi : i < n) (ho : o < n) (hy : ¬ (i = o ∨ y = 0)) (hf : falB (q 31) i = true ∨ falB (q 31) o = true) : f_X12_noTwo (nI i) (nI o) y q = some (true, up1 (up1 q 30 0 0) 30 0 3) := by
  have w : (up1 q 30 0 0) 31 = q 31 := up1_ob (by decide)
  have fin : F_X12_noTwo_78 1 (up1 q 30 0 0) = some (true, up1 (up1 q 30 0 0) 30 0 3) := by
    unfold F_X12_noTwo_78; rw [tI1, obS]; rfl
  rw [mN_in hn h8 hi ho, if_neg hy]
  unfold F_X12_noTwo_49
  rw [tI0, obS]
  dsimp only
  rw [tff, m_isF (by omega), obS, m_isF (by omega), obS, w, fin]
  rcases hf with z | z
  · rw [z, ttt]
  · rw [z, ttt, ite_self]
theorem mN_ok {i o n : Nat} {y : Int32} {q : Hp} (hn : q 31 0 = nI n) (h8 : n ≤ 8) (hi : i < n) (ho : o < n) (hy : ¬ (i = o ∨ y = 0)) (h1 : falB (q 31) i = false) (h2 : falB (q 31) o = false) : f_X12_noTwo (nI i) (nI o) y q = some (false, up1 q 30 0 0) := by
  have w : (up1 q 30 0 0) 31 = q 31 := up1_ob (by decide)
  rw [mN_in hn h8 hi ho, if_neg hy]
  unfold F_X12_noTwo_49 F_X12_noTwo_78
  rw [tI0, obS]
  dsimp only
  rw [tff, m_isF (by omega), obS, m_isF (by omega), obS, w, h1, tff, h2, tff, tI0, obS]
  rfl
theorem c2_bad {x1 x2 : Int32} {h : Hp} {n : Nat} (cn : h 100 9 = nI n) (h8 : n ≤ 8) (hx : (x1 < 0 ∨ nI n ≤ x1) ∨ (∃ i, i < n ∧ x1 = nI i) ∧ (x2 < 0 ∨ nI n ≤ x2)) : f_X11_checkTwoHouses x1 x2 h = some (Except.error "java/lang/IndexOutOfBoundsException", h) := by
  unfold f_X11_checkTwoHouses
  rcases hx with z | ⟨⟨i, hi, e⟩, z⟩
  · rw [ckH_x cn h8 z, obS, exEr]
  · rw [e, ckH_i cn h8 hi, obS, exOk, ckH_x cn h8 z, obS, exEr]
theorem c2_in {i o n : Nat} {h : Hp} (cn : h 100 9 = nI n) (h8 : n ≤ 8) (hi : i < n) (ho : o < n) : f_X11_checkTwoHouses (nI i) (nI o) h = if i = o then some (Except.error "java/lang/IllegalArgumentException", h) else some (Except.ok (), h) := by
  unfold f_X11_checkTwoHouses
  rw [ckH_i cn h8 hi, obS, exOk, ckH_i cn h8 ho, obS, exOk]
  by_cases c : i = o
  · rw [if_pos c, if_pos (by rw [c])]
  · rw [if_neg c, if_neg (by rw [nI_eq (by omega) (by omega)]; exact c)]
theorem c_setPart {c n m i o : Nat} {h : Hp} {w : Row} {x : Int32} (H : CV0 c h n m w) (h8 : n ≤ 8) (hi : i < n) (ho : o < n) : f_X1_setPart c (nI i) (nI o) x h = some (up1 h (c + 5) (8 * i + o) x) := by
  unfold f_X1_setPart
  rw [c_isHouse H.2.2.2.1.1 h8 (by omega), c_isHouse H.2.2.2.1.1 h8 (by omega), decide_eq_true hi, decide_eq_true ho, ttt, ttt, ix64, gdT (nI_ix (by omega) (by omega)), nI_clamp (by omega), bnd_eq]
