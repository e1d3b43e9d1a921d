/-! LAYER 4. lean, wed -/
theorem mT1 {q : Hp} {n m : Nat} {w : Row} (g : Gd n m w) (e : q 31 = w) : q 31 0 = nI n := by rw [e]; exact g.1.1
/-- both sides of the four ways of an act on two houses -/
theorem two4 {n m : Nat} {w : Row} (x1 x2 : Int32) (h8 : n ≤ 8) : ((x1 < 0 ∨ nI n ≤ x1) ∨ (∃ i, i < n ∧ x1 = nI i) ∧ (x2 < 0 ∨ nI n ≤ x2)) ∨ (∃ i o, i < n ∧ o < n ∧ x1 = nI i ∧ x2 = nI o ∧ (i = o ∨ (i ≠ o ∧ (falB w i = true ∨ falB w o = true)) ∨ (i ≠ o ∧ falB w i = false ∧ falB w o = false))) := by
  rcases argI x1 (n := n) (by omega) with ⟨i, hi, e1⟩ | hx
  · rcases argI x2 (n := n) (by omega) with ⟨o, ho, e2⟩ | hy
    · refine Or.inr ⟨i, o, hi, ho, e1, e2, ?_⟩
      by_cases c : i = o
      · exact Or.inl c
      · cases u1 : falB w i
        · cases u2 : falB w o
          · exact Or.inr (Or.inr ⟨c, rfl, rfl⟩)
          · exact Or.inr (Or.inl ⟨c, Or.inr rfl⟩)
        · exact Or.inr (Or.inl ⟨c, Or.inl rfl⟩)
    · exact Or.inl (Or.inr ⟨⟨i, hi, e1⟩, hy⟩)
  · exact Or.inl (Or.inl hx)
theorem in09 {x : Int32} {h h' : Hp} : f_X12_in x 0 9 h = f_X12_in x 0 9 h' := rfl
theorem argA (x : Int32) {b : Nat} (hb : b + 1 < 2 ^ 31) : (∃ k, k ≤ b ∧ x = nI k) ∨ (x < 0 ∨ nI b < x) := by
  rcases argI x (n := b + 1) hb with ⟨k, hk, e⟩ | q | q
  · exact Or.inl ⟨k, by omega, e⟩
  · exact Or.inr (Or.inl q)
  · exact Or.inr (Or.inr (le_hi hb q))
theorem sp_10 {a : Nat → Int32} {h : Hp} (I : Inv h) : ∃ h' n, St_10 a h h' n ∧ n ≤ 1 ∧ Inv h' := by
  obtain ⟨⟨n, m, N⟩, _⟩ := id I
  have g := N.1
  have h8 := g.1.2.1
  have h6 := g.1.2.2.2.1
  have H := N.2.1
  have cn := H.2.2.2.1.1
  have arg : ∀ i o, i < n → o < n → a 1 = nI i → a 2 = nI o → (i = o ∨ (i ≠ o ∧ (a 3 < 0 ∨ nI 9 < a 3))) → ∃ h' n, St_10 a h h' n ∧ n ≤ 1 ∧ Inv h' := by
    intro i o hi ho e1 e2 hx
    obtain ⟨h', k, s, l, J⟩ := qEr (c := f_X11_lean (a 1) (a 2) (a 3)) (md := f_X12_lean (a 1) (a 2) (a 3)) (E := "java/lang/IllegalArgumentException") (t := 2) I ⟨h, by
        unfold f_X11_lean
        rw [e1, e2, c2_in cn h8 hi ho]
        rcases hx with c | ⟨c, z⟩
        · rw [if_pos c, obS, exEr]
        · rw [if_neg c, obS, exOk]
          rcases z with z | z
          · rw [ckA_lo z, obS, exEr]
          · rw [show f_X11_checkAmount (a 3) 0 9 h = _ from ckA_hi (hi := 9) z, obS, exEr], KC_refl h⟩ (fun q _ qe => bE (by
        unfold f_X12_lean
        rw [e1, e2, mN_arg (mT1 g (qe 31 (by omega) (by omega))) h8 hi ho (hx.imp id fun ⟨_, z⟩ => by rw [show f_X12_in (a 3) 0 9 q = false from z.elim in_lo (fun z => in_hi (hi := 9) z)]; rfl), obS]
        rfl))
    exact ⟨h', k, Or.inr (Or.inr (Or.inl s)), l, J⟩
  rcases two4 (m := m) (w := h 31) (a 1) (a 2) h8 with hx | ⟨i, o, hi, ho, e1, e2, hx⟩
  · obtain ⟨h', k, s, l, J⟩ := qEr (c := f_X11_lean (a 1) (a 2) (a 3)) (md := f_X12_lean (a 1) (a 2) (a 3)) (E := "java/lang/IndexOutOfBoundsException") (t := 1) I ⟨h, by
        unfold f_X11_lean
        rw [c2_bad cn h8 hx, obS, exEr], KC_refl h⟩ (fun q _ qe => bE (by
        unfold f_X12_lean
        rw [mN_bad (mT1 g (qe 31 (by omega) (by omega))) h8 (hx.imp id fun z => z.2), obS]
        rfl))
    exact ⟨h', k, Or.inr (Or.inl s), l, J⟩
  · rcases argA (a 3) (b := 9) (by omega) with ⟨k, hk, e3⟩ | hz
    · have hin : ∀ q : Hp, ¬ (i = o ∨ b2i (f_X12_in (a 3) 0 9 q) = 0) ∨ i = o := fun q => by
        by_cases c : i = o
        · exact Or.inr c
        · refine Or.inl fun z => z.elim c fun z => ?_
          rw [e3, show f_X12_in (nI k) 0 9 q = true from in_ok (a := 0) (b := 9) (by omega) hk (by omega)] at z
          exact absurd z (by decide)
      rcases hx with c | ⟨c, hf⟩ | ⟨c, u1, u2⟩
      · exact arg i o hi ho e1 e2 (Or.inl c)
      · obtain ⟨h', j, s, l, J⟩ := qEr (c := f_X11_lean (a 1) (a 2) (a 3)) (md := f_X12_lean (a 1) (a 2) (a 3)) (E := "java/lang/IllegalStateException") (t := 3) I ⟨h, by
          unfold f_X11_lean
          rw [e1, e2, c2_in cn h8 hi ho, if_neg c, obS, exOk, e3, show f_X11_checkAmount (nI k) 0 9 h = _ from ckA_i (a := 0) (b := 9) (by omega) hk (by omega), obS, exOk]
          cases u1 : falB (h 31) i
          · have up : upB n (h 31) i = true := by rw [up_fal hi, u1]; rfl
            have u2 : falB (h 31) o = true := hf.elim (fun q => by rw [u1] at q; exact Bool.noConfusion q) id
            rw [ckU_i H h8 up, obS, exOk, ckU_x H h8 (by omega) (by rw [up_fal ho, u2]; rfl), obS, exEr]
          · rw [ckU_x H h8 (by omega) (by rw [up_fal hi, u1]; rfl), obS, exEr], KC_refl h⟩ (fun q _ qe => bE (by
          unfold f_X12_lean
          rw [e1, e2, mN_fal (mT1 g (qe 31 (by omega) (by omega))) h8 hi ho ((hin q).resolve_right c) (by rw [qe 31 (by omega) (by omega)]; exact hf), obS]
          rfl))
        exact ⟨h', j, Or.inr (Or.inr (Or.inr s)), l, J⟩
      · have p1 : upB n (h 31) i = true := by rw [up_fal hi, u1]; rfl
        have p2 : upB n (h 31) o = true := by rw [up_fal ho, u2]; rfl
        have hc : ∀ r, f_X11_remember h = some r → (∀ k, k ≠ 1 → ¬ (148 ≤ k ∧ k < 340) → r k = h k) → ∃ h1, f_X11_lean (a 1) (a 2) (a 3) h = some (Except.ok (ptR (h 31) i o), h1) ∧ KC1 r h1 ∧ CV0 100 h1 n m (upd (h 31) (10 + 8 * i + o) (nI k)) ∧ LG 100 h1 (upd (h 31) (10 + 8 * i + o) (nI k)) := by
          intro r er ro
          have rV : CV0 100 r n m (h 31) := CV0_fr H fun k x y => ro k (by omega) (by omega)
          refine ⟨up1 r 105 (8 * i + o) (nI k), ?_, fun k hk => up1_ob (by omega), CV0_pt rV h6 (by omega) (by omega) up1_at (fun k hk => up1_ob hk), LG_cg (fun k hk => upd_ob (by omega)) (LG_fr N.2.2.1 fun k x y => by rw [up1_ob (by omega), ro k (by omega) (by omega)])⟩
          unfold f_X11_lean
          rw [e1, e2, c2_in cn h8 hi ho, if_neg c, obS, exOk, e3, show f_X11_checkAmount (nI k) 0 9 h = _ from ckA_i (a := 0) (b := 9) (by omega) hk (by omega), obS, exOk, ckU_i H h8 p1, obS, exOk, ckU_i H h8 p2, obS, exOk, er, obS, c_partOf rV g (by omega) (by omega), obS, c_setPart rV h8 hi ho, obS]
        have hm : ∀ g r', (∀ k, (27 ≤ k ∧ k ≤ 46) → g k = h k) → f_X12_remembers (up1 g 30 0 0) = some r' → r' 31 = h 31 → r' 30 21 = 0 → ∃ h', f_X12_lean (a 1) (a 2) (a 3) g = some (ptR (h 31) i o, h') ∧ KM1 r' h' ∧ h' 31 = upd (h 31) (10 + 8 * i + o) (nI k) := by
          intro q r' qe er e31 _
          have q31 : q 31 = h 31 := qe 31 (by omega)
          refine ⟨up1 r' 31 (10 + 8 * i + o) (nI k), ?_, KM1_31, by rw [up1_at, e31]⟩
          unfold f_X12_lean
          rw [e1, e2, mN_ok (mT1 g q31) h8 hi ho ((hin q).resolve_right c) (by rw [q31]; exact u1) (by rw [q31]; exact u2), obS]
          dsimp only
          rw [tff, er, obS, m_partOf (by omega) (by omega), obS, show f_X12_partAt (nI i) (nI o) r' = nI (10 + 8 * i + o) from m_partAtI, gdT (nI_ix (by omega) (by omega)), bnd_eq, nI_clamp (by omega), e31, e3]
          rfl
        obtain ⟨h', j, s, l, J⟩ := qAct (c := f_X11_lean (a 1) (a 2) (a 3)) (md := f_X12_lean (a 1) (a 2) (a 3)) I (Gd_1 (x := nI k) g (by omega) (by omega) (by omega) (fun _ _ _ => by omega) (fun x y hx hy z => ⟨⟨k, hk, rfl⟩, by
            obtain ⟨rfl, rfl⟩ : x = i ∧ y = o := by omega
            exact ⟨p1, p2, c⟩⟩) (fun _ _ _ => by omega) (fun _ _ _ => by omega)) (fun k hk => upd_ob (by omega)) hc hm
        exact ⟨h', j, Or.inl s, l, J⟩
    · by_cases c : i = o
      · exact arg i o hi ho e1 e2 (Or.inl c)
      · exact arg i o hi ho e1 e2 (Or.inr ⟨c, hz⟩)
/-! wed -/
def wdW (w : Row) (i o : Nat) : Row := upd (upd w (10 + 8 * i + o) (imin 9 (ptR w i o + 1))) (10 + 8 * o + i) (imin 9 (ptR w o i + 1))
theorem min9 {n m i o : Nat} {w : Row} (g : Gd n m w) (hi : i < 8) (ho : o < 8) : ∃ a, a ≤ 9 ∧ imin 9 (ptR w i o + 1) = nI a := by
  obtain ⟨a, ha, e⟩ := (g.2.2.1 i o hi ho).1
  have e' : ptR w i o = nI a := e
  exact ⟨min 9 (a + 1), by omega, by rw [e', nI_1, show (9 : Int32) = nI 9 from rfl, zmin (by omega) (by omega)]⟩
theorem wd_1 {n m i o : Nat} {w : Row} (g : Gd n m w) (hi : i < 8) (ho : o < 8) (h1 : upB n w i = true) (h2 : upB n w o = true) (c : i ≠ o) : Gd n m (upd w (10 + 8 * i + o) (imin 9 (ptR w i o + 1))) :=
  Gd_1 g (by omega) (by omega) (by omega) (fun _ _ _ => by omega) (fun x y hx hy z => ⟨min9 g hi ho, by
    obtain ⟨rfl, rfl⟩ : x = i ∧ y = o := by omega
    exact ⟨h1, h2, c⟩⟩) (fun _ _ _ => by omega) (fun _ _ _ => by omega)
theorem wd_up {n k j : Nat} {w : Row} {x : Int32} (hk : 10 ≤ k ∧ k < 74) : upB n (upd w k x) j = upB n w j := by
  unfold upB falB; rw [upd_ob (by omega)]
theorem wd_pt {i o : Nat} {w : Row} {x : Int32} (hi : i < 8) (ho : o < 8) (c : i ≠ o) : ptR (upd w (10 + 8 * i + o) x) o i = ptR w o i := by
  unfold ptR; rw [upd_ob (by omega)]
theorem wd_Gd {n m i o : Nat} {w : Row} (g : Gd n m w) (hi : i < 8) (ho : o < 8) (h1 : upB n w i = true) (h2 : upB n w o = true) (c : i ≠ o) : Gd n m (wdW w i o) := by
  have s := wd_1 (wd_1 g hi ho h1 h2 c) ho hi (by rw [wd_up (by omega)]; exact h2) (by rw [wd_up (by omega)]; exact h1) (Ne.symm c)
  rw [wd_pt hi ho c] at s
  exact s
theorem c_marry {c n m i o : Nat} {h : Hp} {w : Row} (H : CV0 c h n m w) (g : Gd n m w) (hi : i < n) (ho : o < n) (h1 : upB n w i = true) (h2 : upB n w o = true) (cc : i ≠ o) :
    ∃ h', f_X1_marry c (nI i) (nI o) h = some h' ∧ CV0 c h' n m (wdW w i o) ∧ ∀ k, k ≠ c + 5 → h' k = h k := by
  have h8 := g.1.2.1
  have h6 := g.1.2.2.2.1
  have V1 : CV0 c (up1 h (c + 5) (8 * i + o) (imin 9 (ptR w i o + 1))) n m (upd w (10 + 8 * i + o) (imin 9 (ptR w i o + 1))) := CV0_pt H h6 (by omega) (by omega) up1_at (fun k hk => up1_ob hk)
  have g1 := wd_1 g (show i < 8 by omega) (show o < 8 by omega) h1 h2 cc
  have V2 : CV0 c (up1 (up1 h (c + 5) (8 * i + o) (imin 9 (ptR w i o + 1))) (c + 5) (8 * o + i) (imin 9 (ptR w o i + 1))) n m (wdW w i o) := CV0_pt V1 h6 (by omega) (by omega) up1_at (fun k hk => up1_ob hk)
  refine ⟨_, ?_, V2, fun k hk => by rw [up1_ob hk, up1_ob hk]⟩
  unfold f_X1_marry
  rw [c_partOf H g (by omega) (by omega), obS, c_setPart H h8 hi ho, obS, c_partOf V1 g1 (by omega) (by omega), obS, c_setPart V1 h8 ho hi, obS, wd_pt (by omega) (by omega) cc]
theorem m_wedsW {i o : Nat} {h : Hp} (hi : i < 8) (ho : o < 8) (cc : i ≠ o) : f_X12_weds (nI i) (nI o) h = some (upA h 31 (wdW (h 31) i o)) := by
  unfold f_X12_weds
  rw [m_partOf hi ho, obS, show f_X12_partAt (nI i) (nI o) h = nI (10 + 8 * i + o) from m_partAtI, gdT (nI_ix (by omega) (by omega)), bnd_eq, nI_clamp (by omega), m_partOf ho hi, obS, show ∀ u : Hp, f_X12_partAt (nI o) (nI i) u = nI (10 + 8 * o + i) from fun u => m_partAtI, gdT (nI_ix (by omega) (by omega)), bnd_eq, nI_clamp (by omega), up1_at, upd_ob (by omega)]
  unfold wdW
  congr 1
  funext k
  by_cases c : k = 31
  · rw [c, up1_at, up1_at, upA_at]; rfl
  · rw [up1_ob c, up1_ob c, upA_ob c]
theorem sp_11 {a : Nat → Int32} {h : Hp} (I : Inv h) : ∃ h' n, St_11 a h h' n ∧ n ≤ 1 ∧ Inv h' := by
  obtain ⟨⟨n, m, N⟩, _⟩ := id I
  have g := N.1
  have h8 := g.1.2.1
  have h6 := g.1.2.2.2.1
  have H := N.2.1
  have cn := H.2.2.2.1.1
  rcases two4 (m := m) (w := h 31) (a 1) (a 2) h8 with hx | ⟨i, o, hi, ho, e1, e2, hx⟩
  · obtain ⟨h', k, s, l, J⟩ := qEr (c := f_X11_wed (a 1) (a 2)) (md := f_X12_wed (a 1) (a 2)) (E := "java/lang/IndexOutOfBoundsException") (t := 1) I ⟨h, by
        unfold f_X11_wed
        rw [c2_bad cn h8 hx, obS, exEr], KC_refl h⟩ (fun q _ qe => bE (by
        unfold f_X12_wed
        rw [mN_bad (mT1 g (qe 31 (by omega) (by omega))) h8 (hx.imp id fun z => z.2), obS]
        rfl))
    exact ⟨h', k, Or.inr (Or.inl s), l, J⟩
  · rcases hx with c | ⟨c, hf⟩ | ⟨c, u1, u2⟩
    · obtain ⟨h', k, s, l, J⟩ := qEr (c := f_X11_wed (a 1) (a 2)) (md := f_X12_wed (a 1) (a 2)) (E := "java/lang/IllegalArgumentException") (t := 2) I ⟨h, by
        unfold f_X11_wed
        rw [e1, e2, c2_in cn h8 hi ho, if_pos c, obS, exEr], KC_refl h⟩ (fun q _ qe => bE (by
        unfold f_X12_wed
        rw [e1, e2, mN_arg (mT1 g (qe 31 (by omega) (by omega))) h8 hi ho (Or.inl c), obS]
        rfl))
      exact ⟨h', k, Or.inr (Or.inr (Or.inl s)), l, J⟩
    · obtain ⟨h', k, s, l, J⟩ := qEr (c := f_X11_wed (a 1) (a 2)) (md := f_X12_wed (a 1) (a 2)) (E := "java/lang/IllegalStateException") (t := 3) I ⟨h, by
        unfold f_X11_wed
        rw [e1, e2, c2_in cn h8 hi ho, if_neg c, obS, exOk]
        cases u1 : falB (h 31) i
        · have up : upB n (h 31) i = true := by rw [up_fal hi, u1]; rfl
          have u2 : falB (h 31) o = true := hf.elim (fun q => by rw [u1] at q; exact Bool.noConfusion q) id
          rw [ckU_i H h8 up, obS, exOk, ckU_x H h8 (by omega) (by rw [up_fal ho, u2]; rfl), obS, exEr]
        · rw [ckU_x H h8 (by omega) (by rw [up_fal hi, u1]; rfl), obS, exEr], KC_refl h⟩ (fun q _ qe => bE (by
        unfold f_X12_wed
        rw [e1, e2, mN_fal (mT1 g (qe 31 (by omega) (by omega))) h8 hi ho (fun z => z.elim c (by decide)) (by rw [qe 31 (by omega) (by omega)]; exact hf), obS]
        rfl))
      exact ⟨h', k, Or.inr (Or.inr (Or.inr s)), l, J⟩
    · have p1 : upB n (h 31) i = true := by rw [up_fal hi, u1]; rfl
      have p2 : upB n (h 31) o = true := by rw [up_fal ho, u2]; rfl
      have gw := wd_Gd g (show i < 8 by omega) (show o < 8 by omega) p1 p2 c
      have wo : ∀ k, (k < 10 ∨ 74 ≤ k) → wdW (h 31) i o k = h 31 k := fun k hk => by unfold wdW; rw [upd_ob (by omega), upd_ob (by omega)]
      have hc : ∀ r, f_X11_remember h = some r → (∀ k, k ≠ 1 → ¬ (148 ≤ k ∧ k < 340) → r k = h k) → ∃ h1, f_X11_wed (a 1) (a 2) h = some (Except.ok (ptR (wdW (h 31) i o) i o), h1) ∧ KC1 r h1 ∧ CV0 100 h1 n m (wdW (h 31) i o) ∧ LG 100 h1 (wdW (h 31) i o) := by
        intro r er ro
        have rV : CV0 100 r n m (h 31) := CV0_fr H fun k x y => ro k (by omega) (by omega)
        obtain ⟨h1, em, V1, f1⟩ := c_marry rV g hi ho p1 p2 c
        refine ⟨h1, ?_, fun k hk => f1 k (by omega), V1, LG_cg (fun k hk => wo k (by omega)) (LG_fr N.2.2.1 fun k x y => by rw [f1 k (by omega), ro k (by omega) (by omega)])⟩
        unfold f_X11_wed
        rw [e1, e2, c2_in cn h8 hi ho, if_neg c, obS, exOk, ckU_i H h8 p1, obS, exOk, ckU_i H h8 p2, obS, exOk, er, obS, em, obS, c_partOf V1 gw (by omega) (by omega), obS]
      have hm : ∀ g r', (∀ k, (27 ≤ k ∧ k ≤ 46) → g k = h k) → f_X12_remembers (up1 g 30 0 0) = some r' → r' 31 = h 31 → r' 30 21 = 0 → ∃ h', f_X12_wed (a 1) (a 2) g = some (ptR (wdW (h 31) i o) i o, h') ∧ KM1 r' h' ∧ h' 31 = wdW (h 31) i o := by
        intro q r' qe er e31 _
        have q31 : q 31 = h 31 := qe 31 (by omega)
        refine ⟨upA r' 31 (wdW (h 31) i o), ?_, KM1_A, upA_at⟩
        unfold f_X12_wed
        rw [e1, e2, mN_ok (mT1 g q31) h8 hi ho (fun z => z.elim c (by decide)) (by rw [q31]; exact u1) (by rw [q31]; exact u2), obS]
        dsimp only
        rw [tff, er, obS, m_wedsW (by omega) (by omega) c, obS, m_partOf (by omega) (by omega), obS, upA_at, e31]
        rfl
      obtain ⟨h', j, s, l, J⟩ := qAct (c := f_X11_wed (a 1) (a 2)) (md := f_X12_wed (a 1) (a 2)) I gw (fun k hk => wo k (by omega)) hc hm
      exact ⟨h', j, Or.inl s, l, J⟩
