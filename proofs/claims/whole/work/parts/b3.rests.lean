/-! LAYER 4. rests -/
/-- what a person of that HOLD has by its own choice and the other one's -/
def gnV (hd : Int32) (x y : Nat) : Int32 := if x = 1 then (if y = 1 then -3 else 2) else (if y = 0 then 3 else hd / 10 - 4)
def rsB (a b : Int32) (k : Nat) : Bool := !decide (gnV a (k / 2) (k % 2) < gnV a (1 - k / 2) (k % 2)) && !decide (gnV b (k % 2) (k / 2) < gnV b (1 - k % 2) (k / 2))
theorem c_gain {h : Hp} {n m p x y : Nat} {w : Row} (H : CV0 100 h n m w) (h6 : m ≤ 6) (hp : p < m) (hx : x ≤ 1) (hy : y ≤ 1) : f_X11_gain (nI p) (nI x) (nI y) h = some (gnV (hdR w p) x y) := by
  have e : f_X1_holdOf 100 (nI p) h = some (hdR w p) := by rw [c_holdOf H h6 (by omega), if_pos hp]
  have x2 : x = 0 ∨ x = 1 := by omega
  have y2 : y = 0 ∨ y = 1 := by omega
  unfold f_X11_gain gnV
  rw [e, obS]
  rcases x2 with rfl | rfl <;> rcases y2 with rfl | rfl <;> rfl
theorem m_personHas {h : Hp} {p x y : Nat} (hp : p < 6) (hx : x ≤ 1) (hy : y ≤ 1) : f_X12_personHas (nI p) (nI x) (nI y) h = some (gnV (hdR (h 31) p) x y) := by
  have x2 : x = 0 ∨ x = 1 := by omega
  have y2 : y = 0 ∨ y = 1 := by omega
  unfold f_X12_personHas gnV
  rw [m_ofPerson1 hp, obS]
  rcases x2 with rfl | rfl <;> rcases y2 with rfl | rfl <;> rfl
theorem rs_ix : ∀ j, j < 4 → 1 - shr (nI j) 1 = nI (1 - j / 2) ∧ shr (nI j) 1 = nI (j / 2) ∧ nI j &&& 1 = nI (j % 2) ∧ 1 - (nI j &&& 1) = nI (1 - j % 2) := by decide +kernel
theorem rs_or {a b : Int32} {j : Nat} : orTo (rsB a b) (j + 1) = if gnV a (j / 2) (j % 2) < gnV a (1 - j / 2) (j % 2) then orTo (rsB a b) j else if gnV b (j % 2) (j / 2) < gnV b (1 - j % 2) (j / 2) then orTo (rsB a b) j else orTo (rsB a b) j ||| shl 1 (nI j) := by
  rw [orTo_succ]
  unfold rsB
  by_cases c : gnV a (j / 2) (j % 2) < gnV a (1 - j / 2) (j % 2)
  · rw [if_pos c, decide_eq_true c]
    exact Int32.or_zero
  · rw [if_neg c, decide_eq_false c]
    by_cases d : gnV b (j % 2) (j / 2) < gnV b (1 - j % 2) (j / 2)
    · rw [if_pos d, decide_eq_true d]
      exact Int32.or_zero
    · rw [if_neg d, decide_eq_false d]
      rfl
theorem c_rests {h : Hp} {n m p o : Nat} {w : Row} (H : CV0 100 h n m w) (h6 : m ≤ 6) (hp : p < m) (ho : o < m) : F_X11_rests_11 (nI p) (nI o) FU 0 0 h = some (Except.ok (orTo (rsB (hdR w p) (hdR w o)) 4), h) := by
  have Q := loop0 (S_X11_rests_11 (nI p) (nI o)) (fun _ _ _ => none) (fun j q => q (orTo (rsB (hdR w p) (hdR w o)) j) (nI j) h) 4 (some (Except.ok (orTo (rsB (hdR w p) (hdR w o)) 4), h)) (by omega) (fun j hj q => ?_) (fun q => ?_)
  · exact Q
  · show S_X11_rests_11 (nI p) (nI o) q (orTo (rsB (hdR w p) (hdR w o)) j) (nI j) h = q (orTo (rsB (hdR w p) (hdR w o)) (j + 1)) (nI (j + 1)) h
    have c := rs_ix j hj
    unfold S_X11_rests_11
    rw [show (4 : Int32) = nI 4 from rfl, if_pos ((nI_ltI (by omega) (by omega)).mpr hj), c.1, c.2.2.2, c.2.1, c.2.2.1, c_gain H h6 hp (by omega) (by omega), obS, c_gain H h6 hp (by omega) (by omega), obS, c_gain H h6 ho (by omega) (by omega), obS, c_gain H h6 ho (by omega) (by omega), obS, bnd_eq, nI_1, rs_or]
    by_cases d : gnV (hdR w p) (j / 2) (j % 2) < gnV (hdR w p) (1 - j / 2) (j % 2)
    · rw [if_pos d, if_pos d]
    · rw [if_neg d, if_neg d]
      by_cases e : gnV (hdR w o) (j % 2) (j / 2) < gnV (hdR w o) (1 - j % 2) (j / 2)
      · rw [if_pos e, if_pos e]
      · rw [if_neg e, if_neg e]
  · show S_X11_rests_11 (nI p) (nI o) q (orTo (rsB (hdR w p) (hdR w o)) 4) (nI 4) h = _
    unfold S_X11_rests_11
    rw [show (4 : Int32) = nI 4 from rfl, if_neg (by decide)]
theorem m_rests {h : Hp} {p o : Nat} (hp : p < 6) (ho : o < 6) : F_X12_rests_59 (nI p) (nI o) FU 0 0 h = some (orTo (rsB (hdR (h 31) p) (hdR (h 31) o)) 4, h) := by
  have Q := loop0 (S_X12_rests_59 (nI p) (nI o)) (fun _ _ _ => none) (fun j q => q (orTo (rsB (hdR (h 31) p) (hdR (h 31) o)) (2 * j)) (nI j) h) 2 (some (orTo (rsB (hdR (h 31) p) (hdR (h 31) o)) 4, h)) (by omega) (fun j hj q => ?_) (fun q => ?_)
  · exact Q
  · show S_X12_rests_59 (nI p) (nI o) q (orTo (rsB (hdR (h 31) p) (hdR (h 31) o)) (2 * j)) (nI j) h = q (orTo (rsB (hdR (h 31) p) (hdR (h 31) o)) (2 * (j + 1))) (nI (j + 1)) h
    have Q2 := loop0 (S_X12_rests_68 q (nI p) (nI o) (nI j)) (fun _ _ _ => none) (fun i r => r (orTo (rsB (hdR (h 31) p) (hdR (h 31) o)) (2 * j + i)) (nI i) h) 2 (q (orTo (rsB (hdR (h 31) p) (hdR (h 31) o)) (2 * (j + 1))) (nI (j + 1)) h) (by omega) (fun i hi r => ?_) (fun r => ?_)
    · unfold S_X12_rests_59
      rw [show (2 : Int32) = nI 2 from rfl, if_pos ((nI_ltI (by omega) (by omega)).mpr hj)]
      exact Q2
    · show S_X12_rests_68 q (nI p) (nI o) (nI j) r (orTo (rsB (hdR (h 31) p) (hdR (h 31) o)) (2 * j + i)) (nI i) h = r (orTo (rsB (hdR (h 31) p) (hdR (h 31) o)) (2 * j + i + 1)) (nI (i + 1)) h
      have e1 : 1 - nI j = nI (1 - j) := zsub (a := 1) (by omega)
      have e2 : 1 - nI i = nI (1 - i) := zsub (a := 1) (by omega)
      have e3 : (2 : Int32) * nI j + nI i = nI (2 * j + i) := by rw [show (2 : Int32) = nI 2 from rfl, zmul, zadd]
      unfold S_X12_rests_68 F_X12_rests_134
      rw [e1, e2, e3, if_pos (show nI i < 2 from (nI_ltI (b := 2) (by omega) (by omega)).mpr hi), m_personHas hp (by omega) (by omega), obS, m_personHas hp (by omega) (by omega), obS, m_personHas ho (by omega) (by omega), obS, m_personHas ho (by omega) (by omega), obS, bnd_eq, bnd_eq, nI_1, rs_or, show (2 * j + i) / 2 = j by omega, show (2 * j + i) % 2 = i by omega, Int32.or_zero]
      by_cases d : gnV (hdR (h 31) p) j i < gnV (hdR (h 31) p) (1 - j) i
      · rw [if_pos d, if_pos d]
      · rw [if_neg d, if_neg d]
        by_cases e : gnV (hdR (h 31) o) i j < gnV (hdR (h 31) o) (1 - i) j
        · rw [if_pos e, if_pos e]
        · rw [if_neg e, if_neg e]
    · show S_X12_rests_68 q (nI p) (nI o) (nI j) r (orTo (rsB (hdR (h 31) p) (hdR (h 31) o)) (2 * j + 2)) (nI 2) h = _
      unfold S_X12_rests_68
      rw [show (2 : Int32) = nI 2 from rfl, if_neg (by decide), nI_1]
      rfl
  · show S_X12_rests_59 (nI p) (nI o) q (orTo (rsB (hdR (h 31) p) (hdR (h 31) o)) 4) (nI 2) h = _
    unfold S_X12_rests_59
    rw [show (2 : Int32) = nI 2 from rfl, if_neg (by decide)]
theorem sp_36 {a : Nat → Int32} {h : Hp} (I : Inv h) : ∃ h' n, St_36 a h h' n ∧ n ≤ 1 ∧ Inv h' := by
  obtain ⟨⟨n, m, N⟩, _⟩ := id I
  have g := N.1
  have h6 := g.1.2.2.2.1
  have H := N.2.1
  have cm := H.2.2.2.1.2.1
  have bad : ((a 1 < 0 ∨ nI m ≤ a 1) ∨ (∃ p, p < m ∧ a 1 = nI p) ∧ (a 2 < 0 ∨ nI m ≤ a 2)) → ∃ h' n, St_36 a h h' n ∧ n ≤ 1 ∧ Inv h' := by
    intro hx
    obtain ⟨h', k, s, l, J⟩ := qEr (c := f_X11_rests (a 1) (a 2)) (md := f_X12_rests (a 1) (a 2)) (E := "java/lang/IndexOutOfBoundsException") (t := 1) I ⟨h, by
        unfold f_X11_rests
        rw [p2_bad cm h6 hx, obS, exEr], KC_refl h⟩ (fun q _ qe => bE (by
        have fin : F_X12_rests_27 (a 1) (a 2) 1 (up1 q 30 0 0) = some (0, up1 (up1 q 30 0 0) 30 0 1) := by
          unfold F_X12_rests_27; rw [tI1, obS]; rfl
        unfold f_X12_rests
        rw [bnd_eq]
        rcases hx with z | ⟨_, z⟩
        · rw [noP_x (by rw [w30' qe]; exact g.1.2.2.1) h6 z, ttt, fin]
        · rw [noP_x (x := a 2) (by rw [w30' qe]; exact g.1.2.2.1) h6 z, ttt, fin, ite_self]))
    exact ⟨h', k, Or.inr (Or.inl s), l, J⟩
  rcases argI (a 1) (n := m) (by omega) with ⟨p, hp, e1⟩ | hx
  · rcases argI (a 2) (n := m) (by omega) with ⟨o, ho, e2⟩ | hx
    · have inm : ∀ q, q 31 = h 31 → f_X12_rests (a 1) (a 2) q = if p = o then F_X12_rests_45 (nI p) (nI o) 1 (up1 q 30 0 0) else F_X12_rests_45 (nI p) (nI o) 0 (up1 q 30 0 0) := fun q qe => by
        have qq : (up1 q 30 0 0) 31 = h 31 := by rw [up1_ob (by decide), qe]
        unfold f_X12_rests F_X12_rests_27
        rw [bnd_eq, e1, e2, noP_i (by rw [qq]; exact g.1.2.2.1) h6 hp, tff, noP_i (by rw [qq]; exact g.1.2.2.1) h6 ho, tff, tI0, obS]
        dsimp only
        rw [tff]
        by_cases c : p = o
        · rw [if_pos (by rw [c]), if_pos c]
        · rw [if_neg (by rw [nI_eq (by omega) (by omega)]; exact c), if_neg c]
      by_cases c : p = o
      · obtain ⟨h', k, s, l, J⟩ := qEr (c := f_X11_rests (a 1) (a 2)) (md := f_X12_rests (a 1) (a 2)) (E := "java/lang/IllegalArgumentException") (t := 2) I ⟨h, by
          unfold f_X11_rests
          rw [e1, e2, p2_in cm h6 hp ho, if_pos c, obS, exEr], KC_refl h⟩ (fun q _ qe => bE (by
          rw [inm q (qe 31 (by omega) (by omega)), if_pos c]
          unfold F_X12_rests_45
          rw [tI1, obS]; rfl))
        exact ⟨h', k, Or.inr (Or.inr s), l, J⟩
      · obtain ⟨h', k, s, l, J⟩ := qOk (c := f_X11_rests (a 1) (a 2)) (md := f_X12_rests (a 1) (a 2)) (v := orTo (rsB (hdR (h 31) p) (hdR (h 31) o)) 4) I ⟨h, by
          unfold f_X11_rests
          rw [e1, e2, p2_in cm h6 hp ho, if_neg c, obS, exOk, c_rests H h6 hp ho], KC_refl h⟩ (fun q _ qe => by
          have w := w30' qe
          refine ⟨up1 q 30 0 0, ?_, up1_same, KM_0⟩
          rw [inm q (qe 31 (by omega) (by omega)), if_neg c]
          unfold F_X12_rests_45
          rw [tI0, obS]
          dsimp only
          rw [tff, m_rests (by omega) (by omega), w])
        exact ⟨h', k, Or.inl s, l, J⟩
    · exact bad (Or.inr ⟨⟨p, hp, e1⟩, hx⟩)
  · exact bad (Or.inl hx)
