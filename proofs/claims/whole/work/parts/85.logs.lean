/-! LAYER 4. log, led, fault -/
theorem LG_in {h : Hp} {w : Row} {c : Nat} (l : LG c h w) : ∃ L, L ≤ 60 ∧ w 8 = nI L ∧ h (c + 9) 1 = nI L ∧ (∀ k f, k < L → f < 6 → f_X6_cell (c + 9) (nI k) (nI f) h = some (w (132 + 6 * k + f))) := by
  obtain ⟨L, l1, l2, l3, l4⟩ := l
  refine ⟨L, l1, l2, l3, fun k f hk hf => ?_⟩
  unfold f_X6_cell
  rw [l3]
  simp (disch := omega) only [reduceIte, ↓zbn, zgd, zcl, zlt, zeq, zn0, zp0, ze0, zem, zsuc, zob, ztl, zfl, ztle, zfle, zte, zfe, zft, toB0, toB1, i10, i01, zl1, zg1, zq1, zl2, zg2, zq2, zl3, zg3, zq3, zl4, zg4, zq4, zl5, zg5, zq5, zl6, zg6, zq6, zl7, zg7, zq7, zl8, zg8, zq8, zl9, zg9, zq9, zl10, zg10, zq10, zl11, zg11, zq11, zl12, zg12, zq12, zl13, zg13, zq13, zl14, zg14, zq14, zl15, zg15, zq15, zl16, zg16, zq16, zl20, zg20, zq20, zl32, zg32, zq32, zl40, zg40, zq40, zl48, zg48, zq48, zl49, zg49, zq49, zl57, zg57, zq57, zl59, zg59, zq59, zl60, zg60, zq60, zl64, zg64, zq64, zl65, zg65, zq65, zl66, zg66, zq66, zl70, zg70, zq70, zl97, zg97, zq97, zl99, zg99, zq99, zl100, zg100, zq100, zl122, zg122, zq122, zl126, zg126, zq126, zl256, zg256, zq256, zl257, zg257, zq257, zl360, zg360, zq360, zl400, zg400, zq400, zl492, zg492, zq492, zl520, zg520, zq520, zl849, zg849, zq849, zl999, zg999, zq999, zl1341, zg1341, zq1341, zl1792, zg1792, zq1792, zl5412, zg5412, zq5412, show (6 : Int32) = nI 6 from rfl, show (360 : Int32) = nI 360 from rfl, zprs, zsub, zmul, zadd]
  rw [← l4 k f hk hf, show 6 * (L - 1 - k) + f = (L - 1 - k) * 6 + f by omega]
theorem cell_x {h : Hp} {w : Row} {c L : Nat} {x y : Int32} (hL : L ≤ 60) (l3 : h (c + 9) 1 = nI L) (hx : x < 0 ∨ nI L ≤ x) : f_X6_cell (c + 9) x y h = some (-1) := by
  unfold f_X6_cell
  rw [l3]
  rcases hx with q | q
  · rw [if_pos q]
  · by_cases z : x < 0
    · rw [if_pos z]
    · rw [if_neg z, if_neg (Int32.not_lt.mpr q)]
theorem m_ofLog {h : Hp} {k f : Nat} (hk : k < 60) (hf : f < 6) : f_X12_ofLog (nI k) (nI f) h = some (h 31 (132 + 6 * k + f)) := by
  unfold f_X12_ofLog
  rw [show (132 : Int32) = nI 132 from rfl, show (6 : Int32) = nI 6 from rfl, zmul, zadd, zadd, gdT (nI_ix (by omega) (by omega)), nI_clamp (by omega)]
theorem in5 {f : Nat} {h : Hp} (hf : f < 6) : f_X12_in (nI f) 0 5 h = true := in_ok (a := 0) (b := 5) (by omega) (by omega) (by omega)
theorem in5x {x : Int32} {h : Hp} (hx : x < 0 ∨ nI 6 ≤ x) : f_X12_in x 0 5 h = false := by
  rcases hx with q | q
  · exact in_lo q
  · exact in_hi (le_hi (b := 5) (by omega) q)
theorem inL {L : Nat} {x : Int32} {h : Hp} (hL : L ≤ 60) (hx : x < 0 ∨ nI L ≤ x) : f_X12_in x 0 (nI L - 1) h = false := by
  rcases hx with q | q
  · exact in_lo q
  · rcases L with _ | L
    · exact in_hi (Int32.lt_of_lt_of_le (by decide) q)
    · rw [zprs (by omega)]
      exact in_hi (le_hi (by omega) q)
theorem sp_48 {a : Nat → Int32} {h : Hp} (I : Inv h) : ∃ h' n, St_48 a h h' n ∧ n ≤ 1 ∧ Inv h' := by
  obtain ⟨⟨n, m, N⟩, _⟩ := id I
  obtain ⟨L, l1, l2, l3, l4⟩ := LG_in N.2.2.1
  have Lw : ∀ g : Hp, (∀ k, 27 ≤ k → k ≤ 46 → g k = h k) → (up1 g 30 0 0) 31 8 = nI L := fun g e => by rw [up1_ob (by decide), e 31 (by decide) (by decide)]; exact l2
  rcases argI (a 2) (n := 6) (by omega) with ⟨f, hf, e2⟩ | hx
  · have ins : f_X11_log (a 1) (a 2) h = Option.bind (f_X6_cell 109 (a 1) (nI f) h) fun r => some (Except.ok r, h) := by
      rw [e2]; unfold f_X11_log
      simp (disch := omega) only [reduceIte, ↓zbn, zgd, zcl, zlt, zeq, zn0, zp0, ze0, zem, zsuc, zob, ztl, zfl, ztle, zfle, zte, zfe, zft, toB0, toB1, i10, i01, show (6 : Int32) = nI 6 from rfl]
    have inm : ∀ g : Hp, f_X12_log (a 1) (a 2) g = (if f_X12_in (a 1) 0 ((up1 g 30 0 0) 31 8 - 1) (up1 g 30 0 0) = true then Option.bind (f_X12_ofLog (a 1) (nI f) (up1 g 30 0 0)) (fun r => some (r, up1 g 30 0 0)) else some (-1, up1 g 30 0 0)) := fun g => by
      rw [e2]; unfold f_X12_log F_X12_log_20
      rw [bnd_eq, in5 hf, ttt, tI0, obS]
      dsimp only
      rw [tff]
    rcases argI (a 1) (n := L) (by omega) with ⟨k, hk, e1⟩ | hx
    · obtain ⟨h', j, s, l, J⟩ := qOk (c := f_X11_log (a 1) (a 2)) (md := f_X12_log (a 1) (a 2)) (v := h 31 (132 + 6 * k + f)) I ⟨h, by rw [ins, e1, l4 k f hk hf, obS], KC_refl h⟩ (fun g _ e => by
        refine ⟨up1 g 30 0 0, ?_, up1_same, KM_0⟩
        rw [inm, Lw g e, e1, zprs (by omega), show (0 : Int32) = nI 0 from rfl, in_ok (by omega) (by omega) (by omega), ttt, m_ofLog (by omega) hf, obS, up1_ob (by decide), e 31 (by decide) (by decide)])
      exact ⟨h', j, Or.inl s, l, J⟩
    · obtain ⟨h', j, s, l, J⟩ := qOk (c := f_X11_log (a 1) (a 2)) (md := f_X12_log (a 1) (a 2)) (v := -1) I ⟨h, by rw [ins, cell_x (c := 100) (w := h 31) l1 l3 hx, obS], KC_refl h⟩ (fun g _ e => by
        refine ⟨up1 g 30 0 0, ?_, up1_same, KM_0⟩
        rw [inm, Lw g e, inL l1 hx, tff])
      exact ⟨h', j, Or.inl s, l, J⟩
  · obtain ⟨h', k, s, l, J⟩ := qEr (c := f_X11_log (a 1) (a 2)) (md := f_X12_log (a 1) (a 2)) (E := "java/util/NoSuchElementException") (t := 1) I ⟨h, by
        unfold f_X11_log F_X11_log_10
        rcases hx with q | q
        · rw [if_pos q]
        · rw [show ((6 : Int32) = nI 6) from rfl, if_neg (Int32.not_lt.mpr q)]; split <;> rfl, KC_refl h⟩ (fun g _ e => by
        refine ⟨0, up1 (up1 g 30 0 0) 30 0 1, ?_, up1_same, KM_trans KM_0 KM_0⟩
        unfold f_X12_log F_X12_log_20
        rw [bnd_eq, in5x hx, tff, tI1, obS]; rfl)
    exact ⟨h', k, Or.inr s, l, J⟩
theorem sp_4 {a : Nat → Int32} {h : Hp} (I : Inv h) : ∃ h' n, St_4 a h h' n ∧ n ≤ 1 ∧ Inv h' := by
  obtain ⟨_, ⟨L, t1, t2, t3, t4, t5⟩, _⟩ := id I
  refine ⟨up1 h 30 0 0, 0, ⟨?_, rfl⟩, by omega, Inv_KM I KM_0⟩
  unfold f_X12_fault f_X11_fault
  rw [bnd_eq, up1_at, upd_ob (by decide), t5]
/-! led -/
def ldF (w : Row) (x : Int32) (k : Nat) : Bool := decide (w (132 + 6 * k + 2) = x)
/-- the newest of t rows from the oldest on -/
def ldV (w : Row) (x : Int32) (L : Nat) : Nat → Int32
  | 0 => -1
  | t + 1 => if ldF w x (L - (t + 1)) then w (132 + 6 * (L - (t + 1))) else ldV w x L t
theorem sp_47 {a : Nat → Int32} {h : Hp} (I : Inv h) : ∃ h' n, St_47 a h h' n ∧ n ≤ 1 ∧ Inv h' := by
  obtain ⟨⟨n, m, N⟩, _⟩ := id I
  have h8 := N.1.1.2.1
  have cn := N.2.1.2.2.2.1.1
  obtain ⟨L, l1, l2, l3, l4⟩ := LG_in N.2.2.1
  rcases argI (a 1) (n := n) (by omega) with ⟨i, hi, e1⟩ | hx
  · obtain ⟨x, hxx⟩ : ∃ x, nI i = x := ⟨_, rfl⟩
    obtain ⟨y, hy⟩ : ∃ y, nz (a 2) = y := ⟨_, rfl⟩
    obtain ⟨h', k, s, l, J⟩ := qOk (c := f_X11_led (a 1) (nz (a 2))) (md := f_X12_led (a 1) (nz (a 2))) (v := if y = 0 then nI (cnt (ldF (h 31) x) L) else ldV (h 31) x L L) I ⟨h, by
        unfold f_X11_led
        rw [e1, ckH_i cn h8 hi, obS, exOk, hy, hxx]
        have Q := loopV (S_X11_led_10 x y) (fun _ _ _ => none) (fun q (s : Nat) => q (nI (cnt (ldF (h 31) x) s)) (nI s) h) L (fun j s => s = j ∧ (y = 0 ∨ (cnt (ldF (h 31) x) j = 0 ∧ ldV (h 31) x L L = ldV (h 31) x L (L - j)))) (fun r => r = some (Except.ok (if y = 0 then nI (cnt (ldF (h 31) x) L) else ldV (h 31) x L L), h)) (by omega) (fun j s hj hs => ?_) (fun s hs => ?_) 0 ⟨rfl, Or.inr ⟨rfl, rfl⟩⟩
        · exact Q
        · obtain ⟨rfl, hs⟩ := hs
          have c2 : f_X6_cell 109 (nI s) 2 h = some (h 31 (132 + 6 * s + 2)) := l4 s 2 hj (by omega)
          have c0 : f_X6_cell 109 (nI s) 0 h = some (h 31 (132 + 6 * s + 0)) := l4 s 0 hj (by omega)
          have e9 : h 109 1 = nI L := l3
          have lv : ldV (h 31) x L (L - s) = if ldF (h 31) x s then h 31 (132 + 6 * s) else ldV (h 31) x L (L - (s + 1)) := by
            rw [show L - s = L - (s + 1) + 1 by omega]
            show (if ldF (h 31) x (L - (L - (s + 1) + 1)) then _ else _) = _
            rw [show L - (L - (s + 1) + 1) = s by omega]
          by_cases z : h 31 (132 + 6 * s + 2) = x
          · have zt : ldF (h 31) x s = true := decide_eq_true z
            by_cases y0 : y = 0
            · refine Or.inl ⟨s + 1, ⟨rfl, Or.inl y0⟩, fun q => ?_⟩
              show S_X11_led_10 x y q (nI (cnt (ldF (h 31) x) s)) (nI s) h = q (nI (cnt (ldF (h 31) x) s + (if ldF (h 31) x s then 1 else 0))) (nI (s + 1)) h
              unfold S_X11_led_10
              rw [e9, if_pos ((nI_ltI (by omega) (by omega)).mpr hj), c2, obS, if_pos z, if_pos y0, zt, ttt, nI_1, nI_1]
            · refine Or.inr ⟨_, rfl, fun q => ?_⟩
              show S_X11_led_10 x y q (nI (cnt (ldF (h 31) x) s)) (nI s) h = _
              unfold S_X11_led_10
              rw [e9, if_pos ((nI_ltI (by omega) (by omega)).mpr hj), c2, obS, if_pos z, if_neg y0, c0, obS, if_neg y0]
              rcases hs with hs | ⟨hs, hv⟩
              · exact absurd hs y0
              · rw [hv, lv, zt, ttt]; rfl
          · have zt : ldF (h 31) x s = false := decide_eq_false z
            refine Or.inl ⟨s + 1, ⟨rfl, ?_⟩, fun q => ?_⟩
            · rcases hs with hs | ⟨hs, hv⟩
              · exact Or.inl hs
              · refine Or.inr ⟨?_, ?_⟩
                · show cnt (ldF (h 31) x) s + (if ldF (h 31) x s then 1 else 0) = 0
                  rw [hs, zt, tff]
                · rw [hv, lv, zt, tff]
            · show S_X11_led_10 x y q (nI (cnt (ldF (h 31) x) s)) (nI s) h = q (nI (cnt (ldF (h 31) x) s + (if ldF (h 31) x s then 1 else 0))) (nI (s + 1)) h
              unfold S_X11_led_10
              rw [e9, if_pos ((nI_ltI (by omega) (by omega)).mpr hj), c2, obS, if_neg z, zt, tff, nI_1]; rfl
        · obtain ⟨rfl, hs⟩ := hs
          have e9 : h 109 1 = nI s := l3
          refine ⟨_, rfl, fun q => ?_⟩
          show S_X11_led_10 x y q (nI (cnt (ldF (h 31) x) s)) (nI s) h = _
          unfold S_X11_led_10
          rw [e9, if_neg (fun z => absurd ((nI_ltI (by omega) (by omega)).mp z) (Nat.lt_irrefl s))]
          by_cases y0 : y = 0
          · rw [if_pos y0, if_pos y0]
          · rw [if_neg y0, if_neg y0]
            rcases hs with hs | ⟨hs, hv⟩
            · exact absurd hs y0
            · rw [hv, Nat.sub_self]; rfl, KC_refl h⟩ (fun g _ eg => by
        have w1 : (up1 g 30 0 0) 31 = h 31 := by rw [up1_ob (by decide), eg 31 (by decide) (by decide)]
        refine ⟨up1 g 30 0 0, ?_, up1_same, KM_0⟩
        have G := (NOWg N eg).1
        unfold f_X12_led
        rw [e1, bnd_eq, noH_i (by rw [up1_ob (by decide)]; exact G.1) h8 hi, tIf, obS]
        dsimp only
        rw [tff, bnd_eq, hy, hxx, w1, l2]
        have cl : ∀ t, t ≤ L → cnt (ldF (h 31) x) (L - t) ≤ cnt (ldF (h 31) x) L := fun t ht => cnt_mono (by omega)
        have Q := loop0 (S_X12_led_36 x y) (fun _ _ _ _ => none) (fun t q => q (nI (cnt (ldF (h 31) x) L - cnt (ldF (h 31) x) (L - t))) (ldV (h 31) x L t) (nI (L - t) - 1) (up1 g 30 0 0)) L (some (if y = 0 then nI (cnt (ldF (h 31) x) L) else ldV (h 31) x L L, up1 g 30 0 0)) (by omega) (fun t ht q => ?_) (fun q => ?_)
        · rw [Nat.sub_zero, Nat.sub_self] at Q
          exact Q
        · show S_X12_led_36 x y q (nI (cnt (ldF (h 31) x) L - cnt (ldF (h 31) x) (L - t))) (ldV (h 31) x L t) (nI (L - t) - 1) (up1 g 30 0 0) = q (nI (cnt (ldF (h 31) x) L - cnt (ldF (h 31) x) (L - (t + 1)))) (if ldF (h 31) x (L - (t + 1)) then h 31 (132 + 6 * (L - (t + 1))) else ldV (h 31) x L t) (nI (L - (t + 1)) - 1) (up1 g 30 0 0)
          have cs : cnt (ldF (h 31) x) (L - t) = cnt (ldF (h 31) x) (L - (t + 1)) + (if ldF (h 31) x (L - (t + 1)) then 1 else 0) := by
            rw [show L - t = L - (t + 1) + 1 by omega]; rfl
          have c1 := cl t (by omega)
          have ep : nI (L - t) - 1 = nI (L - (t + 1)) := by rw [zprs (by omega), show L - t - 1 = L - (t + 1) by omega]
          have ep2 : nI (L - (t + 1)) + -1 = nI (L - (t + 1)) - 1 := by rw [Int32.sub_eq_add_neg]
          have m2 : f_X12_ofLog (nI (L - (t + 1))) 2 (up1 g 30 0 0) = some (up1 g 30 0 0 31 (132 + 6 * (L - (t + 1)) + 2)) := m_ofLog (f := 2) (by omega) (by omega)
          have m0 : f_X12_ofLog (nI (L - (t + 1))) 0 (up1 g 30 0 0) = some (up1 g 30 0 0 31 (132 + 6 * (L - (t + 1)) + 0)) := m_ofLog (f := 0) (by omega) (by omega)
          unfold S_X12_led_36
          rw [ep, ep2, if_neg (nI_pos (by omega)), m2, m0, obS, w1]
          by_cases z : h 31 (132 + 6 * (L - (t + 1)) + 2) = x
          · have zt : ldF (h 31) x (L - (t + 1)) = true := decide_eq_true z
            rw [zt, ttt] at cs
            rw [if_pos z, obS, zt, ttt, nI_1, show cnt (ldF (h 31) x) L - cnt (ldF (h 31) x) (L - t) + 1 = cnt (ldF (h 31) x) L - cnt (ldF (h 31) x) (L - (t + 1)) by omega]; rfl
          · have zt : ldF (h 31) x (L - (t + 1)) = false := decide_eq_false z
            rw [zt, tff] at cs
            rw [if_neg z, zt, tff, cs]
            rfl
        · show S_X12_led_36 x y q (nI (cnt (ldF (h 31) x) L - cnt (ldF (h 31) x) (L - L))) (ldV (h 31) x L L) (nI (L - L) - 1) (up1 g 30 0 0) = _
          unfold S_X12_led_36
          rw [Nat.sub_self, show cnt (ldF (h 31) x) 0 = 0 from rfl, Nat.sub_zero, if_pos (show nI 0 - 1 < 0 by decide)]
          by_cases y0 : y = 0
          · rw [if_pos y0, if_pos y0]
          · rw [if_neg y0, if_neg y0])
    exact ⟨h', k, Or.inl s, l, J⟩
  · obtain ⟨h', k, s, l, J⟩ := qEr (c := f_X11_led (a 1) (nz (a 2))) (md := f_X12_led (a 1) (nz (a 2))) (E := "java/lang/IndexOutOfBoundsException") (t := 1) I ⟨h, by unfold f_X11_led; rw [ckH_x cn h8 hx, obS, exEr], KC_refl h⟩ (fun g _ e => by
        have G := (NOWg N e).1
        refine ⟨0, up1 (up1 g 30 0 0) 30 0 1, ?_, up1_same, KM_trans KM_0 KM_0⟩
        unfold f_X12_led
        rw [bnd_eq, noH_x (by rw [up1_ob (by decide)]; exact G.1) h8 hx, tIt, obS]; rfl)
    exact ⟨h', k, Or.inr s, l, J⟩
