/-! LAYER 4. Acts: what lasts behind them; evenings -/
def KC1 (r h1 : Hp) : Prop := ∀ k, (k ≤ 3 ∨ k = 20 ∨ (27 ≤ k ∧ k ≤ 50) ∨ (132 ≤ k ∧ k < 340) ∨ (500 ≤ k ∧ k ≤ 506) ∨ (532 ≤ k ∧ k ≤ 538)) → h1 k = r k
def KM1 (h h' : Hp) : Prop := (∀ k, (k < 30 ∨ 46 < k ∨ k = 32 ∨ k = 35 ∨ k = 38) → h' k = h k) ∧ ∀ i, i ≠ 20 → i ≠ 22 → h' 30 i = h 30 i
theorem qActCore {h : Hp} (I : Inv h) {n m : Nat} {w : Row} (g' : Gd n m w) (hw : ∀ k, (k = 3 ∨ 492 ≤ k) → w k = h 31 k) :
    ∃ r, f_X11_remember h = some r ∧ (∀ k, k ≠ 1 → ¬ (148 ≤ k ∧ k < 340) → r k = h k) ∧
      ∀ h1, KC1 r h1 → CV0 100 h1 n m w → LG 100 h1 w → ∀ g, (∀ k, k ≠ 50 → g k = h1 k) →
        ∃ r', f_X12_remembers (up1 g 30 0 0) = some r' ∧ r' 31 = h 31 ∧ r' 50 = g 50 ∧ (∀ i, i ≠ 0 → i ≠ 7 → r' 30 i = h 30 i) ∧ r' 30 0 = 0 ∧
          ∀ h', KM1 r' h' → h' 31 = w → Inv h' := by
  obtain ⟨⟨n0, m0, gd, H, l, v⟩, T, M, ⟨F, C, q1, q2, q3, q4, q5, q6⟩, h21⟩ := I
  obtain ⟨r, er, ro, r1, r13, r14, rs, rc⟩ := c_remember q1 q2 q3 q4
  have h60 := gd.1.2.2.2.1
  obtain ⟨rcv, rlg⟩ := rc n0 m0 (h 31) h60 H l
  refine ⟨r, er, ro, fun h1 K V1 L1 g hg => ?_⟩
  have ge : ∀ k, (k ≤ 3 ∨ k = 20 ∨ (27 ≤ k ∧ k < 50) ∨ (132 ≤ k ∧ k < 340) ∨ (500 ≤ k ∧ k ≤ 506) ∨ (532 ≤ k ∧ k ≤ 538)) → g k = r k := fun k hk => by rw [hg k (by omega), K k (by omega)]
  have g30 : g 30 = h 30 := by rw [ge 30 (by omega), ro 30 (by decide) (by omega)]
  obtain ⟨r', er', ro', r30, r7, r35⟩ := m_remembers (g := up1 g 30 0 0) (C := C) q2 (by rw [up1_at, upd_ob (by decide), g30]; exact q5)
  have ri : ∀ k, k ≠ 30 → k ≠ 35 → r' k = g k := fun k x y => by rw [ro' k x y, up1_ob x]
  have r'31 : r' 31 = h 31 := by rw [ri 31 (by decide) (by decide), ge 31 (by omega), ro 31 (by decide) (by omega)]
  have r'30 : ∀ i, i ≠ 0 → i ≠ 7 → r' 30 i = h 30 i := fun i x y => by rw [r30 i y, up1_at, upd_ob x, g30]
  refine ⟨r', er', r'31, ri 50 (by decide) (by decide), r'30, by rw [r30 0 (by decide), up1_at, upd_at], fun h' KM e31 => ?_⟩
  have e : ∀ k, (k ≤ 3 ∨ k = 20 ∨ (27 ≤ k ∧ k < 30) ∨ k = 32 ∨ k = 38 ∨ (132 ≤ k ∧ k < 340) ∨ (500 ≤ k ∧ k ≤ 506) ∨ (532 ≤ k ∧ k ≤ 538)) → h' k = r k := fun k hk => by
    rw [KM.1 k (by omega), ri k (by omega) (by omega), ge k (by omega)]
  have eo : ∀ k, (k = 20 ∨ k = 0 ∨ k = 2 ∨ k = 3 ∨ k = 32 ∨ k = 38 ∨ (132 ≤ k ∧ k < 148) ∨ (500 ≤ k ∧ k ≤ 506) ∨ (532 ≤ k ∧ k ≤ 538)) → h' k = h k := fun k hk => by
    rw [e k (by omega), ro k (by omega) (by omega)]
  have ec : ∀ k, 100 ≤ k → k ≤ 110 → h' k = h1 k := fun k x y => by rw [KM.1 k (by omega), ri k (by omega) (by omega), hg k (by omega)]
  have e30 : ∀ i, i ≠ 0 → i ≠ 7 → i ≠ 20 → i ≠ 22 → h' 30 i = h 30 i := fun i x y z u => by rw [KM.2 i z u, r'30 i x y]
  have gw := g'.1.2.2.2.2
  have C12 : nxC C ≤ 12 := by unfold nxC; split <;> omega
  have C0 : 0 < nxC C := by unfold nxC; split <;> omega
  have F12 : nxF F C < 12 := by unfold nxF; split <;> omega
  have hw' : ∀ k, 492 ≤ k → h' 31 k = h 31 k := fun k hk => by rw [e31]; exact hw k (Or.inr hk)
  have e35 : h' 35 = r' 35 := KM.1 35 (by omega)
  have g35 : ∀ x, (up1 g 30 0 0) 35 x = h 35 x := fun x => by rw [up1_ob (by decide), ge 35 (by omega), ro 35 (by decide) (by omega)]
  have g31 : ∀ x, (up1 g 30 0 0) 31 x = h 31 x := fun x => by rw [up1_ob (by decide), ge 31 (by omega), ro 31 (by decide) (by omega)]
  refine ⟨⟨n, m, NOW_rw e31 g' (CV0_fr V1 fun k x y => ec k (by omega) (by omega)) (LG_fr L1 fun k x y => ec k (by omega) (by omega)) (LV_cg gd.1.2.2.2.2 (fun k hk => hw k (by omega)) (LV_fr v fun k x y => eo k (by omega)))⟩,
    TPs_fr T (eo 2 (by omega)) (eo 3 (by omega)) (eo 38 (by omega)) (e30 11 (by decide) (by decide) (by decide) (by decide)) (e30 16 (by decide) (by decide) (by decide) (by decide)),
    IMs_fr M (by rw [e 1 (by omega), r1 11 (by decide) (by decide)]) (e30 6 (by decide) (by decide) (by decide) (by decide)) (eo 32 (by omega)) (fun k hk => eo k (by omega)),
    ⟨nxF F C, nxC C, F12, C12, by rw [e 1 (by omega)]; exact r13, by rw [e 1 (by omega)]; exact r14, by rw [KM.2 7 (by decide) (by decide)]; exact r7, fun j hj => ?_⟩,
    by rw [e30 21 (by decide) (by decide) (by decide) (by decide)]; exact h21⟩
  have sj : 148 ≤ slotN (nxF F C) j ∧ slotN (nxF F C) j + 10 < 340 := by unfold slotN; omega
  by_cases d : j + 1 < nxC C
  · have jj : j + (if C < 12 then 0 else 1) < C ∧ slotN F (j + (if C < 12 then 0 else 1)) = slotN (nxF F C) j := by
      unfold nxC at d
      unfold nxF slotN
      split at d <;> rename_i c
      · rw [if_pos c, if_pos c]; exact ⟨by omega, rfl⟩
      · rw [if_neg c, if_neg c]; exact ⟨by omega, by omega⟩
    obtain ⟨n2, m2, y1, y2, y3, y4⟩ := q6 _ jj.1
    have ea : actR h' j = actR h (j + (if C < 12 then 0 else 1)) := funext fun k => by
      unfold actR
      by_cases c : k < 492
      · rw [if_pos c, if_pos c, e35, r35 j hj k c, if_pos d, g35]
      · rw [if_neg c, if_neg c, hw' k (by omega)]
    rw [jj.2] at y2 y3
    have fr : ∀ k, slotN (nxF F C) j ≤ k → k ≤ slotN (nxF F C) j + 10 → h' k = h k := fun k x y => by rw [e k (by omega), rs j d k x y]
    exact ⟨n2, m2, by rw [ea]; exact y1, by rw [ea]; exact CV0_fr y2 fun k x y => fr k (by omega) (by omega), by rw [ea]; exact LG_fr y3 fun k x y => fr k (by omega) (by omega), by rw [ea, e31, hw 3 (Or.inl rfl)]; exact y4⟩
  · obtain rfl : j = nxC C - 1 := by omega
    have ea : ∀ k, actR h' (nxC C - 1) k = h 31 k := fun k => by
      unfold actR
      by_cases c : k < 492
      · rw [if_pos c, e35, r35 _ hj k c, if_neg d, g31]
      · rw [if_neg c, hw' k (by omega)]
    have ea' : actR h' (nxC C - 1) = h 31 := funext ea
    exact ⟨n0, m0, by rw [ea']; exact gd, by rw [ea']; exact CV0_fr rcv fun k x y => e k (by omega), by rw [ea']; exact LG_fr rlg fun k x y => e k (by omega), by rw [ea', e31, hw 3 (Or.inl rfl)]⟩
