/-! LAYER 4. law -/
theorem CV0_c3 {c n m : Nat} {h : Hp} {w w' : Row} (h6 : m ≤ 6) (o : ∀ k, k ≠ 3 → k < 132 → w' k = w k) (V : CV0 c h n m w) : CV0 c h n m w' := by
  obtain ⟨a1, a2, a3, ⟨b1, b2, b3⟩, c1, c2, c3, c4, c5, c6⟩ := V
  refine ⟨fun k hk => ?_, fun k hk => ?_, fun p hp => ?_, ⟨b1, b2, ?_⟩, ?_⟩
  · unfold wtR fmR ivR agR
    rw [o _ (by omega) (by omega), o _ (by omega) (by omega), o _ (by omega) (by omega), o _ (by omega) (by omega)]
    exact a1 k hk
  · rw [o _ (by omega) (by omega)]; exact a2 k hk
  · unfold atR hdR cmR
    rw [o _ (by omega) (by omega), o _ (by omega) (by omega), o _ (by omega) (by omega)]
    exact a3 p hp
  · rw [b3]
    refine orTo_congr 8 fun k hk => ?_
    unfold upB falB
    rw [o _ (by omega) (by omega)]
  · rw [o 4 (by omega) (by omega), o 5 (by omega) (by omega), o 6 (by omega) (by omega), o 7 (by omega) (by omega), o 2 (by omega) (by omega), o 9 (by omega) (by omega)]
    exact ⟨c1, c2, c3, c4, c5, c6⟩
theorem Gd_c3 {n m : Nat} {w w' : Row} (o : ∀ k, k ≠ 3 → k < 132 → w' k = w k) (gl : GdL w') (G : Gd n m w) : Gd n m w' := by
  obtain ⟨⟨gn0, gn1, gn2, gn3, gnL⟩, g1, g2, g3, g4, g5, g6, g7, g9, g8⟩ := G
  have hf : ∀ k, k < 8 → falB w' k = falB w k := fun k hk => by unfold falB; rw [o _ (by omega) (by omega)]
  have hu : ∀ k, k < 8 → upB n w' k = upB n w k := fun k hk => by unfold upB; rw [hf k hk]
  refine ⟨⟨by rw [o 0 (by omega) (by omega)]; exact gn0, gn1, by rw [o 1 (by omega) (by omega)]; exact gn2, gn3, gl⟩, fun i hi => ?_, fun i l hi hl => ?_, fun p hp => ?_, bd_eq (o _ (by omega) (by omega)) g4, bd_eq (o _ (by omega) (by omega)) g5, bd_eq (o _ (by omega) (by omega)) g6, bd_eq (o _ (by omega) (by omega)) g7, bd_eq (o _ (by omega) (by omega)) g9, bd_eq (o _ (by omega) (by omega)) g8⟩
  · obtain ⟨x0, x1, x2, x3, x4⟩ := g1 i hi
    exact ⟨bd_eq (o _ (by omega) (by omega)) x0, bd_eq (o _ (by omega) (by omega)) x1, bd_eq (o _ (by omega) (by omega)) x2, bd_eq (o _ (by omega) (by omega)) x3, bd_eq (o _ (by omega) (by omega)) x4⟩
  · obtain ⟨x, y⟩ := g2 i l hi hl
    refine ⟨bd_eq (o _ (by omega) (by omega)) x, fun q => ?_⟩
    rw [hu i hi, hu l hl] at q
    rw [o _ (by omega) (by omega)]
    exact y q
  · obtain ⟨x, y, z⟩ := g3 p hp
    refine ⟨?_, bd_eq (o _ (by omega) (by omega)) y, bd_eq (o _ (by omega) (by omega)) z⟩
    rw [o _ (by omega) (by omega)]
    exact x.imp id fun ⟨i, l, f, e⟩ => ⟨i, l, by rw [hf i (by omega)]; exact f, e⟩
/-- a call that leaves the row but for the draft -/
theorem Inv_dr {h h' : Hp} (I : Inv h) (T : TPs h') (ew : ∀ k, k < 1341 → h' 31 k = h 31 k) (hk : ∀ k, (k = 1 ∨ k = 20 ∨ k = 32 ∨ k = 35 ∨ (100 ≤ k ∧ k ≤ 110) ∨ (132 ≤ k ∧ k < 340) ∨ (500 ≤ k ∧ k ≤ 506) ∨ (532 ≤ k ∧ k ≤ 538)) → h' k = h k) (h30 : ∀ i, (i = 6 ∨ i = 7 ∨ i = 21) → h' 30 i = h 30 i) : Inv h' := by
  obtain ⟨⟨n, m, N⟩, _, M, P, h21⟩ := I
  have G := N.1
  have m6 := G.1.2.2.2.1
  refine ⟨⟨n, m, NOW_rw rfl (Gd_cg ew G) (CV0_cg m6 (fun k x => ew k (by omega)) (CV0_fr N.2.1 fun k x y => hk k (by omega))) (LG_cg (fun k x => ew k (by omega)) (LG_fr N.2.2.1 fun k x y => hk k (by omega))) (LV_cg G.1.2.2.2.2 (fun k x => ew k (by omega)) (LV_fr N.2.2.2 fun k x y => hk k (by omega)))⟩, T,
    IMs_fr M (by rw [hk 1 (by omega)]) (h30 6 (by omega)) (hk 32 (by omega)) (fun k hk2 => hk k (by omega)), ?_, by rw [h30 21 (by omega)]; exact h21⟩
  obtain ⟨F, C, p1, p2, p3, p4, p5, p6⟩ := P
  refine ⟨F, C, p1, p2, by rw [hk 1 (by omega)]; exact p3, by rw [hk 1 (by omega)]; exact p4, by rw [h30 7 (by omega)]; exact p5, fun j hj => ?_⟩
  obtain ⟨n', m', x1, x2, x3, x4⟩ := p6 j hj
  have sl : 148 ≤ slotN F j ∧ slotN F j + 10 < 340 := by unfold slotN; omega
  have ea : ∀ k, k < 1341 → actR h' j k = actR h j k := fun k hk' => by
    unfold actR
    rw [hk 35 (by omega)]
    by_cases c : k < 492
    · rw [if_pos c, if_pos c]
    · rw [if_neg c, if_neg c]; exact ew k hk'
  exact ⟨n', m', Gd_cg ea x1, CV0_cg x1.1.2.2.2.1 (fun k x => ea k (by omega)) (CV0_fr x2 fun k x y => hk k (by omega)), LG_cg (fun k x => ea k (by omega)) (LG_fr x3 fun k x y => hk k (by omega)), by rw [ea 3 (by omega), ew 3 (by omega)]; exact x4⟩
def cpJ (w : Row) (j : Nat) : Row := fun k => if 492 ≤ k ∧ k < 492 + j then w (k + 849) else w k
theorem cpJ_s {w : Row} {j : Nat} : upd (cpJ w j) (492 + j) (w (1341 + j)) = cpJ w (j + 1) := funext fun k => by
  unfold cpJ
  by_cases c : k = 492 + j
  · rw [c, upd_at, if_pos (by omega), show 492 + j + 849 = 1341 + j by omega]
  · rw [upd_ob c]
    by_cases d : 492 ≤ k ∧ k < 492 + j
    · rw [if_pos d, if_pos (by omega)]
    · rw [if_neg d, if_neg (by omega)]
theorem m_law52 {g : Hp} {c : Int32} : F_X12_law_52 c FU 0 g = some (c, up1 (up1 (upA g 31 (cpJ (g 31) 849)) 31 3 1) 30 7 0) := by
  have Q := loop0 (S_X12_law_52 c) (fun _ _ => none) (fun j q => q (nI j) (upA g 31 (cpJ (g 31) j))) 849 (some (c, up1 (up1 (upA g 31 (cpJ (g 31) 849)) 31 3 1) 30 7 0)) (by omega) (fun j hj q => ?_) (fun q => ?_)
  · have : cpJ (g 31) 0 = g 31 := funext fun k => if_neg (by omega)
    rw [this, up_id] at Q
    exact Q
  · show S_X12_law_52 c q (nI j) (upA g 31 (cpJ (g 31) j)) = q (nI (j + 1)) (upA g 31 (cpJ (g 31) (j + 1)))
    have e1 : (1341 : Int32) + nI j = nI (1341 + j) := by rw [show (1341 : Int32) = nI 1341 from rfl, zadd]
    have e2 : (492 : Int32) + nI j = nI (492 + j) := by rw [show (492 : Int32) = nI 492 from rfl, zadd]
    have e3 : cpJ (g 31) j (1341 + j) = g 31 (1341 + j) := if_neg (by omega)
    unfold S_X12_law_52
    rw [if_pos (show nI j < 849 from (nI_ltI (b := 849) (by omega) (by omega)).mpr hj), e1, e2, gdT (nI_ix (by omega) (by omega)), gdT (nI_ix (by omega) (by omega)), bnd_eq, nI_clamp (by omega), nI_clamp (by omega), up1_upA, upA_at, e3, cpJ_s, nI_1]
  · show S_X12_law_52 c q (nI 849) (upA g 31 (cpJ (g 31) 849)) = _
    unfold S_X12_law_52
    rw [if_neg (show ¬ nI 849 < 849 by decide), bnd_eq, bnd_eq]
/-- the draft made the law -/
theorem law_row {N l : Nat} {u g : Hp} {w : Row} (hl : l ≤ 12) (hN : N ≤ 400) (ln : ∀ l', l' < l → LNr N u g l') (w3 : w 3 = 1) (w492 : w 492 = nI l) (wr : ∀ x, 1342 ≤ x → x < 2190 → w (x - 849) = g 31 x) :
    GdL w ∧ ∀ h : Hp, h 500 8 = nI l → (∀ i, i < 12 → h 501 i = u 517 i ∧ h 502 i = u 518 i ∧ h 503 i = u 519 i ∧ h 504 i = u 520 i) → (∀ i, i < 400 → h 505 i = u 521 i ∧ h 506 i = u 522 i) → LV 500 h w := by
  have cl : (w 492).toNatClampNeg = l := by rw [w492, nI_clamp (by omega)]
  have r1 : ∀ l' i, l' < 12 → i < 4 → w (493 + 4 * l' + i) = g 31 (1342 + 4 * l' + i) := fun l' i h1 h2 => by
    have := wr (1342 + 4 * l' + i) (by omega) (by omega)
    rw [show 1342 + 4 * l' + i - 849 = 493 + 4 * l' + i by omega] at this
    exact this
  have r0 : ∀ l', l' < 12 → w (493 + 4 * l') = g 31 (1342 + 4 * l') := fun l' h1 => r1 l' 0 h1 (by omega)
  have r2 : ∀ j, j < 400 → w (541 + 2 * j) = g 31 (1390 + 2 * j) := fun j h => by
    have := wr (1390 + 2 * j) (by omega) (by omega)
    rw [show 1390 + 2 * j - 849 = 541 + 2 * j by omega] at this
    exact this
  have r3 : ∀ j, j < 400 → w (541 + 2 * j + 1) = g 31 (1390 + 2 * j + 1) := fun j h => by
    have := wr (1390 + 2 * j + 1) (by omega) (by omega)
    rw [show 1390 + 2 * j + 1 - 849 = 541 + 2 * j + 1 by omega] at this
    exact this
  have ec : ∀ j, j < 400 → cdW w j = cdD (g 31) j := fun j h => by unfold cdW cdD; rw [r2 j h]
  have ty : ∀ B i, B + i ≤ 400 → tyR (cdW w) B i = tyR (cdD (g 31)) B i := fun B i h => ty_cg i fun j hj => ec _ (by omega)
  refine ⟨⟨⟨1, by omega, w3⟩, fun _ => ⟨⟨l, hl, w492⟩, fun l' hl' => ?_⟩⟩, fun h h8 hA hB => ⟨?_, fun l' hl' => ?_⟩⟩
  · rw [cl] at hl'
    obtain ⟨k, a, B, T, c1, c2, c3, c4, ⟨d1, _⟩, ⟨d3, _⟩, ⟨d5, _⟩, ⟨d7, _⟩, e1, e2, e3⟩ := ln l' hl'
    have q0 : w (493 + 4 * l') = nI k := by rw [r0 l' (by omega)]; exact d1
    have q1 : w (493 + 4 * l' + 1) = nI a := by rw [r1 l' 1 (by omega) (by omega)]; exact d3
    have q2 : w (493 + 4 * l' + 2) = nI B := by rw [r1 l' 2 (by omega) (by omega)]; exact d5
    have q3 : w (493 + 4 * l' + 3) = nI T := by rw [r1 l' 3 (by omega) (by omega)]; exact d7
    have f1 : fromW w l' = B := by unfold fromW; rw [q2, nI_clamp (by omega)]
    have f2 : toW w l' = T := by unfold toW; rw [q3, nI_clamp (by omega)]
    refine ⟨⟨k, c1, q0⟩, ⟨a, c2, q1⟩, ⟨B, by omega, q2⟩, ⟨T, by omega, q3⟩, by rw [f1, f2]; exact c3, fun j p q => ?_, ?_, ?_⟩
    · rw [f1] at p
      rw [f2] at q
      obtain ⟨y, y1, y2, _⟩ := e1 j p q
      exact ⟨y, y1, by rw [r2 j (by omega)]; exact y2⟩
    · rw [f1, f2]
      intro i hi
      rw [ty B i (by omega)]
      exact e2 i hi
    · rw [f1, f2, ty B (T - B) (by omega)]
      exact e3
  · rw [if_pos w3, w492]; exact h8
  · have hl2 : l' < l := by
      unfold lnW at hl'
      rw [if_pos w3, cl] at hl'
      exact hl'
    obtain ⟨k, a, B, T, c1, c2, c3, c4, ⟨d1, d2⟩, ⟨d3, d4⟩, ⟨d5, d6⟩, ⟨d7, d8⟩, e1, e2, e3⟩ := ln l' hl2
    obtain ⟨h1, h2, h3, h4⟩ := hA l' (by omega)
    have q2 : w (493 + 4 * l' + 2) = nI B := by rw [r1 l' 2 (by omega) (by omega)]; exact d5
    have q3 : w (493 + 4 * l' + 3) = nI T := by rw [r1 l' 3 (by omega) (by omega)]; exact d7
    have f1 : fromW w l' = B := by unfold fromW; rw [q2, nI_clamp (by omega)]
    have f2 : toW w l' = T := by unfold toW; rw [q3, nI_clamp (by omega)]
    refine ⟨by show h 501 l' = _; rw [h1, r0 l' (by omega), d1, d2], by show h 502 l' = _; rw [h2, r1 l' 1 (by omega) (by omega), d3, d4], by show h 503 l' = _; rw [h3, q2, d6], by show h 504 l' = _; rw [h4, q3, d8], fun j p q => ?_⟩
    rw [f1] at p
    rw [f2] at q
    obtain ⟨y, y1, y2, y3, y4⟩ := e1 j p q
    obtain ⟨z1, z2⟩ := hB j (by omega)
    have ey : cdW w j = y := by rw [ec j (by omega)]; unfold cdD; rw [y2, nI_clamp (by omega)]
    refine ⟨by show h 505 j = _; rw [z1, y3, ey], fun z => ?_⟩
    show h 506 j = _
    rw [ey] at z
    unfold nmW
    rw [z2, y4 z, r3 j (by omega)]
