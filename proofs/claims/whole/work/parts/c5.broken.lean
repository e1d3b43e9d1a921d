/-! LAYER 4. broken -/
def lwI (F : Nat → Bool) : Nat → Int32
  | 0 => -1
  | d + 1 => if F (64 - d) then nI (64 - d) else lwI F d
theorem lw_or {F : Nat → Bool} : ∀ d, d ≤ 65 → (lwI F d = -1 ∧ ∀ k, 65 - d ≤ k → k < 65 → F k = false) ∨ ∃ k, 65 - d ≤ k ∧ k < 65 ∧ F k = true ∧ lwI F d = nI k ∧ ∀ j, 65 - d ≤ j → j < k → F j = false
  | 0, _ => Or.inl ⟨rfl, fun k a b => absurd b (by omega)⟩
  | d + 1, h => by
    have ih := lw_or (F := F) d (by omega)
    by_cases c : F (64 - d) = true
    · refine Or.inr ⟨64 - d, by omega, by omega, c, ?_, fun j a b => absurd b (by omega)⟩
      show (if F (64 - d) = true then nI (64 - d) else lwI F d) = _
      rw [if_pos c]
    · have e : lwI F (d + 1) = lwI F d := by
        show (if F (64 - d) = true then nI (64 - d) else lwI F d) = _
        rw [if_neg c]
      rw [e]
      rcases ih with ⟨a, b⟩ | ⟨k, a1, a2, a3, a4, a5⟩
      · refine Or.inl ⟨a, fun k x y => ?_⟩
        by_cases z : k = 64 - d
        · rw [z]; exact Bool.eq_false_iff.mpr c
        · exact b k (by omega) y
      · refine Or.inr ⟨k, by omega, a2, a3, a4, fun j x y => ?_⟩
        by_cases z : j = 64 - d
        · rw [z]; exact Bool.eq_false_iff.mpr c
        · exact a5 j (by omega) y
theorem lw_eq {F : Nat → Bool} : lwI F 65 = if 0 < cnt F 65 then nI (nthT F 65 0) else -1 := by
  rcases lw_or (F := F) 65 (by omega) with ⟨a, b⟩ | ⟨k, a1, a2, a3, a4, a5⟩
  · have : cnt F 65 = 0 := cnt_ext (n := 0) 65 (Nat.zero_le _) fun k x y => b k (by omega) y
    rw [a, this, if_neg (Nat.lt_irrefl 0)]
  · have c1 : cnt F (k + 1) = cnt F k + 1 := cnt_t a3
    have c2 := cnt_mono (p := F) (a := k + 1) (b := 65) (by omega)
    have p : 0 < cnt F 65 := by omega
    have ⟨t1, t2, t3⟩ := nthT_ok p
    rw [if_pos p, a4]
    congr 1
    by_cases x : nthT F 65 0 < k
    · rw [a5 _ (by omega) x] at t2; exact Bool.noConfusion t2
    · by_cases y : k < nthT F 65 0
      · have := cnt_mono (p := F) (a := k + 1) (b := nthT F 65 0) (by omega)
        omega
      · omega
theorem d64 : ∀ d, d < 65 → nI 64 - nI d + (-1) = nI 64 - nI (d + 1) ∧ ¬ (nI 64 - nI d < 0) ∧ nI 64 - nI d = nI (64 - d) := by decide +kernel
theorem m_broken38 {x1 : Int32} {u : Hp} {F : Nat → Bool} (hF : ∀ l, l ≤ 64 → f_X12_fits (nI l) u = some (F l)) :
    F_X12_broken_38 x1 FU 0 (-1) 64 u = some (if x1 = 0 then nI (cnt F 65) else lwI F 65, u) := by
  have Q := loop0 (S_X12_broken_38 x1) (fun _ _ _ _ => none) (fun d q => q (nI (cnt F 65 - cnt F (65 - d))) (lwI F d) (nI 64 - nI d) u) 65 (some (if x1 = 0 then nI (cnt F 65) else lwI F 65, u)) (by omega) (fun d hd q => ?_) (fun q => ?_)
  · rw [Nat.sub_self, show nI 64 - nI 0 = 64 from by decide] at Q
    exact Q
  · show S_X12_broken_38 x1 q (nI (cnt F 65 - cnt F (65 - d))) (lwI F d) (nI 64 - nI d) u = q (nI (cnt F 65 - cnt F (65 - (d + 1)))) (if F (64 - d) = true then nI (64 - d) else lwI F d) (nI 64 - nI (d + 1)) u
    obtain ⟨d1, d2, d3⟩ := d64 d hd
    have mo := cnt_mono (p := F) (a := 65 - d) (b := 65) (by omega)
    have e1 : 65 - (d + 1) = 64 - d := by omega
    have e2 : 65 - d = (64 - d) + 1 := by omega
    unfold S_X12_broken_38
    rw [if_neg d2, d1, d3, hF _ (by omega), obS, e1]
    rw [e2] at mo ⊢
    cases c : F (64 - d)
    · rw [tff, tff, cnt_f c]
    · rw [cnt_t c] at mo
      rw [ttt, ttt, cnt_t c, nI_1]
      congr 2
      omega
  · show S_X12_broken_38 x1 q (nI (cnt F 65 - cnt F (65 - 65))) (lwI F 65) (nI 64 - nI 65) u = _
    unfold S_X12_broken_38
    rw [if_pos (show nI 64 - nI 65 < 0 by decide)]
    by_cases c : x1 = 0
    · rw [if_pos c, if_pos c]; rfl
    · rw [if_neg c, if_neg c]
/-- what both know of the tape -/
theorem TP_b {h : Hp} (I : Inv h) : ∃ L, L ≤ 400 ∧ h 2 1 = nI L ∧ h 30 11 = nI L ∧ ∀ i, i < L → btN h i < 256 ∧ h 3 i = nI (btN h i) ∧ h 38 i = byS (btN h i) := by
  obtain ⟨_, ⟨L, t1, t2, t3, t4, t5⟩, _⟩ := I
  exact ⟨L, t1, t2, t3, bt_ok t4⟩
theorem m_collB {n m J : Nat} {g : Hp} {w : Row} {b : Nat → Nat} (G : Gd n m w) (e31 : g 31 = w) (hJ : J ≤ 20) (e11 : g 30 11 = nI (2 * J)) (hb : ∀ i, i < 2 * J → b i < 256 ∧ g 38 i = byS (b i)) (f : feB b n J = true) :
    f_X12_isFelt (usM g) = some true ∧ ∃ u, f_X12_laysBroken (usM g) = some u ∧ (∀ l, l ≤ 64 → f_X12_fits (nI l) u = some (ftB n w b J l)) ∧ KM (usM g) u ∧ u 30 0 = 0 ∧ u 31 = w := by
  have h8 := G.1.2.1
  have e31' : usM g 31 = w := by rw [us_ob (by decide), e31]
  have e13 : usM g 30 13 = nI (2 * J) := by rw [us_13, e11]
  have hb' : ∀ i, i < 2 * J → b i < 256 ∧ usM g 38 i = byS (b i) := fun i hi => by rw [us_ob (by decide)]; exact hb i hi
  refine ⟨by rw [m_isFeltP (by rw [e31']; exact G.1.1) h8 hJ e13 hb', f], ?_⟩
  obtain ⟨u, e, M, E⟩ := m_laysBroken G.1.1 h8 e31'
  have e38 : u 38 = usM g 38 := E 38 (by decide) (by decide) (by decide) (by decide) (by decide)
  have e30 : u 30 = usM g 30 := E 30 (by decide) (by decide) (by decide) (by decide) (by decide)
  exact ⟨u, e, fun l hl => m_fits hl M h8 hJ (by rw [e30]; exact e13) (fun i hi => by rw [e38]; exact hb' i hi) (feB_t f), EB_KM E, by rw [e30, us_0], by rw [E 31 (by decide) (by decide) (by decide) (by decide) (by decide), e31']⟩
theorem m_collX {n m L : Nat} {g : Hp} {w : Row} {b : Nat → Nat} (G : Gd n m w) (e31 : g 31 = w) (hL : L ≤ 400) (e11 : g 30 11 = nI L) (hb : ∀ i, i < L → b i < 256 ∧ g 38 i = byS (b i)) (x : (40 < L ∨ L % 2 = 1) ∨ ∃ J, L = 2 * J ∧ J ≤ 20 ∧ feB b n J = false) : f_X12_isFelt (usM g) = some false := by
  have e31' : usM g 31 = w := by rw [us_ob (by decide), e31]
  have e13 : usM g 30 13 = nI L := by rw [us_13, e11]
  rcases x with x | ⟨J, rfl, hJ, f⟩
  · exact m_isFeltX e13 hL x
  · rw [m_isFeltP (by rw [e31']; exact G.1.1) G.1.2.1 hJ e13 (fun i hi => by rw [us_ob (by decide)]; exact hb i hi), f]
theorem usT {g : Hp} : KM (usM g) (up1 (usM g) 30 0 1) := KM_0
theorem sp_25 {a : Nat → Int32} {h : Hp} (I : Inv h) : ∃ h' n, St_25 a h h' n ∧ n ≤ 1 ∧ Inv h' := by
  obtain ⟨⟨n, m, N⟩, _⟩ := id I
  obtain ⟨L, hL, t2, t3, tb'⟩ := TP_b I
  have G := N.1
  have hc : ∀ i, i < L → btN h i < 256 ∧ h 3 i = nI (btN h i) := fun i hi => ⟨(tb' i hi).1, (tb' i hi).2.1⟩
  have hm : ∀ g : Hp, (∀ k, 27 ≤ k → k ≤ 46 → g k = h k) → ∀ i, i < L → btN h i < 256 ∧ g 38 i = byS (btN h i) := fun g ge i hi => ⟨(tb' i hi).1, by rw [ge 38 (by omega) (by omega)]; exact (tb' i hi).2.2⟩
  have bad : f_X11_collectBreaks h = some (Except.error "java/lang/IllegalArgumentException", up1 h 2 1 0) → ((40 < L ∨ L % 2 = 1) ∨ ∃ J, L = 2 * J ∧ J ≤ 20 ∧ feB (btN h) n J = false) → ∃ h' n, St_25 a h h' n ∧ n ≤ 1 ∧ Inv h' := by
    intro ce x
    obtain ⟨h', k, s, l, J⟩ := qErT (c := f_X11_broken (nz (a 1))) (md := f_X12_broken (nz (a 1))) (E := "java/lang/IllegalArgumentException") (t := 1) I ⟨_, by unfold f_X11_broken; rw [ce, obS, exEr], KC_refl _⟩ (fun g ge => by
      refine ⟨0, up1 (usM g) 30 0 1, ?_, up1_same, usT⟩
      unfold f_X12_broken F_X12_broken_17
      rw [m_uses, obS, m_collX G (ge 31 (by omega) (by omega)) hL (by rw [ge 30 (by omega) (by omega)]; exact t3) (hm g ge) x, obS, tff, tI1, obS]
      rfl)
    exact ⟨h', k, Or.inr s, l, J⟩
  rcases lenP L with x | ⟨J, rfl, hJ⟩
  · exact bad (c_collX t2 hL x) (Or.inl x)
  · have cb := c_collB N hJ t2 hc
    cases f : feB (btN h) n J
    · rw [f, tff] at cb
      exact bad cb (Or.inr ⟨J, rfl, hJ, f⟩)
    · rw [f, ttt] at cb
      obtain ⟨u, ce, B, K⟩ := cb
      obtain ⟨h', k, s, l, J⟩ := qOkT (c := f_X11_broken (nz (a 1))) (md := f_X12_broken (nz (a 1))) (v := if nz (a 1) = 0 then nI (cnt (ftB n (h 31) (btN h) J) 65) else lwI (ftB n (h 31) (btN h) J) 65) I ⟨u, by
        unfold f_X11_broken
        rw [ce, obS, exOk, B.1]
        have b65 := cnt_le (ftB n (h 31) (btN h) J) 65
        by_cases z : nz (a 1) = 0
        · rw [if_pos z, if_pos z]
        · rw [if_neg z, if_neg z, lw_eq]
          by_cases p : 0 < cnt (ftB n (h 31) (btN h) J) 65
          · rw [if_pos p, if_pos ((zp0 (by omega)).mpr p), (B.2.2.2 0 p).1]
          · rw [if_neg p, if_neg (fun y => p ((zp0 (by omega)).mp y))], K⟩ (fun g ge => by
        obtain ⟨e1, v, e2, e3, K3, z3, _⟩ := m_collB G (ge 31 (by omega) (by omega)) hJ (by rw [ge 30 (by omega) (by omega)]; exact t3) (hm g ge) f
        refine ⟨v, ?_, z3, K3⟩
        unfold f_X12_broken F_X12_broken_17
        rw [m_uses, obS, e1, obS, ttt, tI0, obS]
        dsimp only
        rw [tff, e2, obS, m_broken38 e3])
      exact ⟨h', k, Or.inl s, l, J⟩
