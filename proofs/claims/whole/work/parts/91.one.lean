/-! LAYER 4. One entry of a row written: houses' ivy, parts, people's places and days -/
theorem Gd_1 {n m k : Nat} {w : Row} {x : Int32} (g : Gd n m w) (hk : 10 ≤ k ∧ k < 132) (h1 : k < 74 ∨ 114 ≤ k ∨ (k - 74) % 5 = 2) (h2 : k < 114 ∨ (k - 114) % 3 ≠ 1)
    (A : ∀ i, i < 8 → k = 74 + 5 * i + 2 → ∃ a, a ≤ 9 ∧ x = nI a)
    (B : ∀ i o, i < 8 → o < 8 → k = 10 + 8 * i + o → (∃ a, a ≤ 9 ∧ x = nI a) ∧ upB n w i = true ∧ upB n w o = true ∧ i ≠ o)
    (C : ∀ p, p < m → k = 114 + 3 * p → x = -1 ∨ ∃ i, i < n ∧ falB w i = false ∧ x = nI i)
    (D : ∀ p, p < m → k = 114 + 3 * p + 2 → ∃ a, a ≤ 127 ∧ x = nI a) : Gd n m (upd w k x) := by
  obtain ⟨gn, g1, g2, g3, g4, g5, g6, g7, g9, g8⟩ := g
  have o : ∀ j, j ≠ k → upd w k x j = w j := fun j a => upd_ob a
  have fb : ∀ j, j < 8 → falB (upd w k x) j = falB w j := fun j hj => by unfold falB; rw [o _ (by omega)]
  have ub : ∀ j, j < 8 → upB n (upd w k x) j = upB n w j := fun j hj => by unfold upB; rw [fb j hj]
  have f8 := gn.2.1
  have f6 := gn.2.2.2.1
  refine ⟨GdN_congr (fun j hj => o j (by omega)) gn, fun i hi => ?_, fun i j hi hj => ?_, fun p hp => ?_, bd_eq (o _ (by omega)) g4, bd_eq (o _ (by omega)) g5, bd_eq (o _ (by omega)) g6, bd_eq (o _ (by omega)) g7, bd_eq (o _ (by omega)) g9, bd_eq (o _ (by omega)) g8⟩
  · obtain ⟨a, b, c, d, e⟩ := g1 i hi
    refine ⟨bd_eq (o _ (by omega)) a, bd_eq (o _ (by omega)) b, ?_, bd_eq (o _ (by omega)) d, bd_eq (o _ (by omega)) e⟩
    by_cases z : 74 + 5 * i + 2 = k
    · obtain ⟨a, ha, ea⟩ := A i hi z.symm
      exact ⟨a, ha, by rw [z, upd_at, ea]⟩
    · exact bd_eq (o _ z) c
  · obtain ⟨a, b⟩ := g2 i j hi hj
    rw [ub i hi, ub j hj]
    by_cases z : 10 + 8 * i + j = k
    · obtain ⟨⟨a, ha, ea⟩, u1, u2, u3⟩ := B i j hi hj z.symm
      refine ⟨⟨a, ha, by rw [z, upd_at, ea]⟩, fun q => ?_⟩
      rcases q with q | q | q
      · rw [u1] at q; exact Bool.noConfusion q
      · rw [u2] at q; exact Bool.noConfusion q
      · exact absurd q u3
    · exact ⟨bd_eq (o _ z) a, fun q => by rw [o _ z]; exact b q⟩
  · obtain ⟨a, b, c⟩ := g3 p hp
    refine ⟨?_, bd_eq (o _ (by omega)) b, ?_⟩
    · have hh : w (114 + 3 * p) = -1 ∨ (∃ i, i < n ∧ falB w i = false ∧ w (114 + 3 * p) = nI i) → (w (114 + 3 * p) = -1 ∨ ∃ i, i < n ∧ falB (upd w k x) i = false ∧ w (114 + 3 * p) = nI i) := fun q => q.imp id fun ⟨i, a, b, c⟩ => ⟨i, a, by rw [fb i (by omega)]; exact b, c⟩
      by_cases z : 114 + 3 * p = k
      · rw [z, upd_at]
        exact (C p hp z.symm).imp id fun ⟨i, a, b, c⟩ => ⟨i, a, by rw [fb i (by omega)]; exact b, c⟩
      · rw [o _ z]; exact hh a
    · by_cases z : 114 + 3 * p + 2 = k
      · obtain ⟨a, ha, ea⟩ := D p hp z.symm
        exact ⟨a, ha, by rw [z, upd_at, ea]⟩
      · exact bd_eq (o _ z) c
section ONE
variable {c : Nat} {h : Hp} {n m : Nat} {w : Row}
theorem CV0_iv {i : Nat} {x : Int32} {h' : Hp} (H : CV0 c h n m w) (h6 : m ≤ 6) (hi : i < 8) (h3 : h' (c + 3) = upd (h (c + 3)) i x) (ho : ∀ k, k ≠ c + 3 → h' k = h k) : CV0 c h' n m (upd w (74 + 5 * i + 2) x) := by
  have o : ∀ k, k ≠ 74 + 5 * i + 2 → upd w (74 + 5 * i + 2) x k = w k := fun k a => upd_ob a
  obtain ⟨a1, a2, a3, a4, a5⟩ := H
  refine ⟨fun j hj => ?_, fun k hk => ?_, fun q hq => ?_, ⟨?_, ?_, ?_⟩, ?_⟩
  · obtain ⟨b1, b2, b3, b4⟩ := a1 j hj
    rw [ho (c + 1) (by omega), ho (c + 2) (by omega), h3, ho (c + 4) (by omega)]
    refine ⟨by unfold wtR; rw [o _ (by omega)]; exact b1, by unfold fmR; rw [o _ (by omega)]; exact b2, ?_, by unfold agR; rw [o _ (by omega)]; exact b4⟩
    unfold ivR
    by_cases z : j = i
    · rw [z, upd_at, upd_at]
    · rw [upd_ob z, o _ (by omega)]; exact b3
  · rw [ho _ (by omega), o _ (by omega)]; exact a2 k hk
  · rw [ho (c + 6) (by omega), ho (c + 7) (by omega), ho (c + 8) (by omega)]
    unfold atR hdR cmR
    rw [o _ (by omega), o _ (by omega), o _ (by omega)]
    exact a3 q hq
  · rw [ho c (by omega)]; exact a4.1
  · rw [ho c (by omega)]; exact a4.2.1
  · rw [ho c (by omega), a4.2.2]
    exact orTo_congr 8 fun j hj => by unfold upB falB; rw [o _ (by omega)]
  · rw [ho c (by omega), o 4 (by omega), o 5 (by omega), o 6 (by omega), o 7 (by omega), o 2 (by omega), o 9 (by omega)]
    exact a5
theorem CV0_pt {i j0 : Nat} {x : Int32} {h' : Hp} (H : CV0 c h n m w) (h6 : m ≤ 6) (hi : i < 8) (hj0 : j0 < 8) (h3 : h' (c + 5) = upd (h (c + 5)) (8 * i + j0) x) (ho : ∀ k, k ≠ c + 5 → h' k = h k) : CV0 c h' n m (upd w (10 + 8 * i + j0) x) := by
  have o : ∀ k, k ≠ 10 + 8 * i + j0 → upd w (10 + 8 * i + j0) x k = w k := fun k a => upd_ob a
  obtain ⟨a1, a2, a3, a4, a5⟩ := H
  refine ⟨fun j hj => ?_, fun k hk => ?_, fun q hq => ?_, ⟨?_, ?_, ?_⟩, ?_⟩
  · rw [ho (c + 1) (by omega), ho (c + 2) (by omega), ho (c + 3) (by omega), ho (c + 4) (by omega)]
    unfold wtR fmR ivR agR
    rw [o _ (by omega), o _ (by omega), o _ (by omega), o _ (by omega)]
    exact a1 j hj
  · rw [h3]
    by_cases z : k = 8 * i + j0
    · rw [z, upd_at, show 10 + (8 * i + j0) = 10 + 8 * i + j0 by omega, upd_at]
    · rw [upd_ob z, o _ (by omega)]; exact a2 k hk
  · rw [ho (c + 6) (by omega), ho (c + 7) (by omega), ho (c + 8) (by omega)]
    unfold atR hdR cmR
    rw [o _ (by omega), o _ (by omega), o _ (by omega)]
    exact a3 q hq
  · rw [ho c (by omega)]; exact a4.1
  · rw [ho c (by omega)]; exact a4.2.1
  · rw [ho c (by omega), a4.2.2]
    exact orTo_congr 8 fun j hj => by unfold upB falB; rw [o _ (by omega)]
  · rw [ho c (by omega), o 4 (by omega), o 5 (by omega), o 6 (by omega), o 7 (by omega), o 2 (by omega), o 9 (by omega)]
    exact a5
theorem CV0_cm {p : Nat} {x : Int32} {h' : Hp} (H : CV0 c h n m w) (h6 : m ≤ 6) (hp : p < m) (h3 : h' (c + 8) = upd (h (c + 8)) p x) (ho : ∀ k, k ≠ c + 8 → h' k = h k) : CV0 c h' n m (upd w (114 + 3 * p + 2) x) := by
  have o : ∀ k, k ≠ 114 + 3 * p + 2 → upd w (114 + 3 * p + 2) x k = w k := fun k a => upd_ob a
  obtain ⟨a1, a2, a3, a4, a5⟩ := H
  refine ⟨fun j hj => ?_, fun k hk => ?_, fun q hq => ?_, ⟨?_, ?_, ?_⟩, ?_⟩
  · rw [ho (c + 1) (by omega), ho (c + 2) (by omega), ho (c + 3) (by omega), ho (c + 4) (by omega)]
    unfold wtR fmR ivR agR
    rw [o _ (by omega), o _ (by omega), o _ (by omega), o _ (by omega)]
    exact a1 j hj
  · rw [ho _ (by omega), o _ (by omega)]; exact a2 k hk
  · obtain ⟨b1, b2, b3⟩ := a3 q hq
    rw [h3, ho (c + 6) (by omega), ho (c + 7) (by omega)]
    refine ⟨by unfold atR; rw [o _ (by omega)]; exact b1, by unfold hdR; rw [o _ (by omega)]; exact b2, ?_⟩
    unfold cmR
    by_cases z : q = p
    · rw [z, upd_at, upd_at]
    · rw [upd_ob z, o _ (by omega)]; exact b3
  · rw [ho c (by omega)]; exact a4.1
  · rw [ho c (by omega)]; exact a4.2.1
  · rw [ho c (by omega), a4.2.2]
    exact orTo_congr 8 fun j hj => by unfold upB falB; rw [o _ (by omega)]
  · rw [ho c (by omega), o 4 (by omega), o 5 (by omega), o 6 (by omega), o 7 (by omega), o 2 (by omega), o 9 (by omega)]
    exact a5
end ONE
/-- an act of the class that writes to rows of the city and gives a value; of the model that writes one world -/
theorem qAct {c : Hp → Option (Except String Int32 × Hp)} {md : Hp → Option (Int32 × Hp)} {h : Hp} (I : Inv h) {n m : Nat} {w : Row} {v : Int32} (g' : Gd n m w) (hw : ∀ k, (k = 3 ∨ 492 ≤ k) → w k = h 31 k)
    (hc : ∀ r, f_X11_remember h = some r → (∀ k, k ≠ 1 → ¬ (148 ≤ k ∧ k < 340) → r k = h k) → ∃ h1, c h = some (Except.ok v, h1) ∧ KC1 r h1 ∧ CV0 100 h1 n m w ∧ LG 100 h1 w)
    (hm : ∀ g r', (∀ k, (27 ≤ k ∧ k ≤ 46) → g k = h k) → f_X12_remembers (up1 g 30 0 0) = some r' → r' 31 = h 31 → r' 30 21 = 0 → ∃ h', md g = some (v, h') ∧ KM1 r' h' ∧ h' 31 = w) :
    ∃ h' n, (∃ (v : Int32) (h1 : Hp) (b : Int32), c h = some (Except.ok v, h1) ∧ md (up1 h1 50 0 v) = some (b, h') ∧ f_X12_thrown h' = 0 ∧ h' 50 0 = b ∧ n = 0) ∧ n ≤ 1 ∧ Inv h' := by
  have h21 := I.2.2.2.2
  obtain ⟨r, er, ro, K⟩ := qActCore I g' hw
  obtain ⟨h1, c1, k1, V1, L1⟩ := hc r er ro
  obtain ⟨r', er', r'31, r'50, r'30, r'0, K2⟩ := K h1 k1 V1 L1 (up1 h1 50 0 v) (fun k hk => up1_ob hk)
  obtain ⟨h', e, km, e31⟩ := hm (up1 h1 50 0 v) r' (fun k hk => by rw [up1_ob (by omega), k1 k (by omega), ro k (by omega) (by omega)]) er' r'31 (by rw [r'30 21 (by decide) (by decide)]; exact h21)
  exact ⟨h', 0, ⟨v, h1, v, c1, e, by show h' 30 0 = 0; rw [km.2 0 (by decide) (by decide)]; exact r'0, by rw [km.1 50 (by omega), r'50, up1_same], rfl⟩, by omega, K2 h' km e31⟩
