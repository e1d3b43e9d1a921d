/-! LAYER 4. build -/
def inR (x : Int32) (lo hi : Nat) : Prop := ∃ k, lo ≤ k ∧ k ≤ hi ∧ x = nI k
def outR (x : Int32) (lo hi : Nat) : Prop := x < nI lo ∨ nI hi < x
theorem argR (x : Int32) (lo hi : Nat) (hb : hi + 1 < 2 ^ 31) (hl : lo < 2 ^ 31) : inR x lo hi ∨ outR x lo hi := by
  rcases argA x hb with ⟨k, hk, e⟩ | q | q
  · by_cases c : lo ≤ k
    · exact Or.inl ⟨k, c, hk, e⟩
    · exact Or.inr (Or.inl (by rw [e]; exact (nI_ltI (by omega) hl).mpr (by omega)))
  · exact Or.inr (Or.inl (Int32.lt_of_lt_of_le q ((nI_leI (a := 0) (by omega) hl).mpr (Nat.zero_le _))))
  · exact Or.inr (Or.inr q)
theorem ckR {x : Int32} {lo hi : Nat} {h : Hp} (hb : hi < 2 ^ 31) (q : inR x lo hi) : f_X11_checkAmount x (nI lo) (nI hi) h = some (Except.ok (), h) := by
  obtain ⟨k, a, b, rfl⟩ := q; exact ckA_i a b hb
theorem ckX {x : Int32} {lo hi : Nat} {h : Hp} (q : outR x lo hi) : f_X11_checkAmount x (nI lo) (nI hi) h = some (Except.error "java/lang/IllegalArgumentException", h) := q.elim ckA_lo ckA_hi
theorem inRt {x : Int32} {lo hi : Nat} {h : Hp} (hb : hi < 2 ^ 31) (q : inR x lo hi) : f_X12_in x (nI lo) (nI hi) h = true := by
  obtain ⟨k, a, b, rfl⟩ := q; exact in_ok a b hb
theorem inRf {x : Int32} {lo hi : Nat} {h : Hp} (q : outR x lo hi) : f_X12_in x (nI lo) (nI hi) h = false := q.elim in_lo in_hi
theorem sp_9 {a : Nat → Int32} {h : Hp} (I : Inv h) : ∃ h' n, St_9 a h h' n ∧ n ≤ 1 ∧ Inv h' := by
  obtain ⟨⟨n, m, N⟩, _⟩ := id I
  have g := N.1
  have h8 := g.1.2.1
  have h6 := g.1.2.2.2.1
  have H := N.2.1
  have cn := H.2.2.2.1.1
  have ca1 : ∀ u, f_X11_checkAmount (a 1) 1 99 u = f_X11_checkAmount (a 1) (nI 1) (nI 99) u := fun u => rfl
  have ca2 : ∀ u, f_X11_checkAmount (a 2) 0 999 u = f_X11_checkAmount (a 2) (nI 0) (nI 999) u := fun u => rfl
  have ca4 : ∀ u, f_X11_checkAmount (a 4) 1 9 u = f_X11_checkAmount (a 4) (nI 1) (nI 9) u := fun u => rfl
  have ma1 : ∀ u, f_X12_in (a 1) 1 99 u = f_X12_in (a 1) (nI 1) (nI 99) u := fun u => rfl
  have ma2 : ∀ u, f_X12_in (a 2) 0 999 u = f_X12_in (a 2) (nI 0) (nI 999) u := fun u => rfl
  have ma4 : ∀ u, f_X12_in (a 4) 1 9 u = f_X12_in (a 4) (nI 1) (nI 9) u := fun u => rfl
  rcases argI (a 3) (n := n) (by omega) with ⟨i, hi, e3⟩ | hx
  · have inm : ∀ q, q 31 = h 31 → f_X12_build (a 1) (a 2) (a 3) (a 4) q = (if f_X12_in (a 1) (nI 1) (nI 99) (up1 q 30 0 0) = true then if f_X12_in (a 2) (nI 0) (nI 999) (up1 q 30 0 0) = true then if f_X12_in (a 4) (nI 1) (nI 9) (up1 q 30 0 0) = true then F_X12_build_56 (a 1) (a 2) (nI i) (a 4) 0 (up1 q 30 0 0) else F_X12_build_56 (a 1) (a 2) (nI i) (a 4) 1 (up1 q 30 0 0)
        else F_X12_build_56 (a 1) (a 2) (nI i) (a 4) 1 (up1 q 30 0 0) else F_X12_build_56 (a 1) (a 2) (nI i) (a 4) 1 (up1 q 30 0 0)) := fun q qe => by
      have qq : (up1 q 30 0 0) 31 = h 31 := by rw [up1_ob (by decide), qe]
      unfold f_X12_build
      rw [bnd_eq, e3, noH_i (by rw [qq]; exact g.1.1) h8 hi, tIf, obS]
      dsimp only
      rw [tff]
      rfl
    have fin : ∀ q, F_X12_build_56 (a 1) (a 2) (nI i) (a 4) 1 (up1 q 30 0 0) = some (0, up1 (up1 q 30 0 0) 30 0 2) := fun q => by
      unfold F_X12_build_56; rw [tI1, obS]; rfl
    have arg : (outR (a 1) 1 99 ∨ (inR (a 1) 1 99 ∧ outR (a 2) 0 999) ∨ (inR (a 1) 1 99 ∧ inR (a 2) 0 999 ∧ outR (a 4) 1 9)) → ∃ h' n, St_9 a h h' n ∧ n ≤ 1 ∧ Inv h' := by
      intro hx
      obtain ⟨h', k, s, l, J⟩ := qEr (c := f_X11_build (a 1) (a 2) (a 3) (a 4)) (md := f_X12_build (a 1) (a 2) (a 3) (a 4)) (E := "java/lang/IllegalArgumentException") (t := 2) I ⟨h, by
          unfold f_X11_build
          rw [e3, ckH_i cn h8 hi, obS, exOk, ca1]
          rcases hx with z | ⟨z, y⟩ | ⟨z, y, x⟩
          · rw [ckX z, obS, exEr]
          · rw [ckR (by omega) z, obS, exOk, ca2, ckX y, obS, exEr]
          · rw [ckR (by omega) z, obS, exOk, ca2, ckR (by omega) y, obS, exOk, ca4, ckX x, obS, exEr], KC_refl h⟩ (fun q _ qe => bE (by
          rw [inm q (qe 31 (by omega) (by omega)), fin]
          rcases hx with z | ⟨z, y⟩ | ⟨z, y, x⟩
          · rw [inRf z, tff]
          · rw [inRt (by omega) z, ttt, inRf y, tff]
          · rw [inRt (by omega) z, ttt, inRt (by omega) y, ttt, inRf x, tff]))
      exact ⟨h', k, Or.inr (Or.inr (Or.inl s)), l, J⟩
    rcases argR (a 1) 1 99 (by omega) (by omega) with r1 | r1
    · rcases argR (a 2) 0 999 (by omega) (by omega) with r2 | r2
      · rcases argR (a 4) 1 9 (by omega) (by omega) with r4 | r4
        · have im2 : ∀ q, q 31 = h 31 → f_X12_build (a 1) (a 2) (a 3) (a 4) q = if nI n = 8 then F_X12_build_86 (a 1) (a 2) (nI i) (a 4) 1 (up1 q 30 0 0) else if falB (h 31) i = true then F_X12_build_86 (a 1) (a 2) (nI i) (a 4) 1 (up1 q 30 0 0) else F_X12_build_86 (a 1) (a 2) (nI i) (a 4) 0 (up1 q 30 0 0) := fun q qe => by
            have qq : (up1 q 30 0 0) 31 = h 31 := by rw [up1_ob (by decide), qe]
            rw [inm q qe, inRt (by omega) r1, ttt, inRt (by omega) r2, ttt, inRt (by omega) r4, ttt]
            unfold F_X12_build_56
            rw [tI0, obS]
            dsimp only
            rw [tff, m_houses, m_isF (by omega), obS, qq, g.1.1]
          have fin3 : ∀ q, F_X12_build_86 (a 1) (a 2) (nI i) (a 4) 1 (up1 q 30 0 0) = some (0, up1 (up1 q 30 0 0) 30 0 3) := fun q => by
            unfold F_X12_build_86; rw [tI1, obS]; rfl
          have inc : f_X11_build (a 1) (a 2) (a 3) (a 4) h = if nI n < 8 then Option.bind (f_X11_checkUp (nI i) h) fun r_26 => exB r_26 fun v_28 h_29 => Option.bind (f_X11_remember h_29) fun r_32 => Option.bind (f_X1_addHouse 100 (a 1) (a 2) 0 0 r_32) fun r_34 => Option.bind (f_X1_setPart 100 r_34.1 (nI i) (a 4) r_34.2) fun r_36 => some (Except.ok r_34.1, r_36)
              else some (Except.error "java/lang/IllegalStateException", h) := by
            unfold f_X11_build
            rw [e3, ckH_i cn h8 hi, obS, exOk, ca1, ckR (by omega) r1, obS, exOk, ca2, ckR (by omega) r2, obS, exOk, ca4, ckR (by omega) r4, obS, exOk, cn]
          have st3 : (n = 8 ∨ falB (h 31) i = true) → ∃ h' n, St_9 a h h' n ∧ n ≤ 1 ∧ Inv h' := by
            intro hx
            obtain ⟨h', k, s, l, J⟩ := qEr (c := f_X11_build (a 1) (a 2) (a 3) (a 4)) (md := f_X12_build (a 1) (a 2) (a 3) (a 4)) (E := "java/lang/IllegalStateException") (t := 3) I ⟨h, by
                rw [inc]
                by_cases z : n < 8
                · rw [if_pos (show nI n < 8 from (nI_ltI (b := 8) (by omega) (by omega)).mpr z), ckU_x H h8 (by omega) (by rw [up_fal hi, hx.resolve_left (by omega)]; rfl), obS, exEr]
                · rw [if_neg (show ¬ nI n < 8 from fun q => z ((nI_ltI (b := 8) (by omega) (by omega)).mp q))], KC_refl h⟩ (fun q _ qe => bE (by
                rw [im2 q (qe 31 (by omega) (by omega)), fin3]
                rcases hx with z | z
                · rw [if_pos (by rw [z]; rfl)]
                · rw [z, ttt, ite_self]))
            exact ⟨h', k, Or.inr (Or.inr (Or.inr s)), l, J⟩
          by_cases n8 : n = 8
          · exact st3 (Or.inl n8)
          · cases hu : falB (h 31) i
            · have up : upB n (h 31) i = true := by rw [up_fal hi, hu]; rfl
              have hn : n < 8 := by omega
              obtain ⟨k1, x11, x12, ea1⟩ := r1
              obtain ⟨k2, x21, x22, ea2⟩ := r2
              obtain ⟨k4, x41, x42, ea4⟩ := r4
              have gb : Gd (n + 1) m (biW n (a 1) (a 2) 0 0 (h 31)) := by rw [ea1, ea2]; exact bi_Gd (c := 0) (d := 0) g hn (by omega) (by omega) (by omega) (by omega)
              have gw : Gd (n + 1) m (upd (biW n (a 1) (a 2) 0 0 (h 31)) (10 + 8 * n + i) (a 4)) := Gd_1 gb (by omega) (by omega) (by omega) (fun _ _ _ => by omega) (fun x y hx hy z => ⟨⟨k4, by omega, ea4⟩, by
                obtain ⟨rfl, rfl⟩ : x = n ∧ y = i := by omega
                exact ⟨by rw [bi_up hn, if_pos rfl], by rw [bi_up hn, if_neg (by omega)]; exact up, by omega⟩⟩) (fun _ _ _ => by omega) (fun _ _ _ => by omega)
              have wo : ∀ k, k ≠ 0 → (k < 10 ∨ 114 ≤ k) → upd (biW n (a 1) (a 2) 0 0 (h 31)) (10 + 8 * n + i) (a 4) k = h 31 k := fun k x y => by rw [upd_ob (by omega), bi_ob hn x (by omega) (by omega)]
              have hc : ∀ r, f_X11_remember h = some r → (∀ k, k ≠ 1 → ¬ (148 ≤ k ∧ k < 340) → r k = h k) → ∃ h1, f_X11_build (a 1) (a 2) (a 3) (a 4) h = some (Except.ok (nI n), h1) ∧ KC1 r h1 ∧ CV0 100 h1 (n + 1) m (upd (biW n (a 1) (a 2) 0 0 (h 31)) (10 + 8 * n + i) (a 4)) ∧ LG 100 h1 (upd (biW n (a 1) (a 2) 0 0 (h 31)) (10 + 8 * n + i) (a 4)) := by
                intro r er ro
                have rV : CV0 100 r n m (h 31) := CV0_fr H fun k x y => ro k (by omega) (by omega)
                obtain ⟨b1, ea, V1, f1⟩ := c_addHouse (x1 := a 1) (x2 := a 2) (x3 := 0) (x4 := 0) rV g hn
                refine ⟨up1 b1 105 (8 * n + i) (a 4), ?_, fun k hk => by rw [up1_ob (by omega), f1 k (by omega)], CV0_pt V1 h6 (by omega) (by omega) up1_at (fun k hk => up1_ob hk), LG_cg (fun k hk => wo k (by omega) (by omega)) (LG_fr N.2.2.1 fun k x y => by rw [up1_ob (by omega), f1 k (by omega), ro k (by omega) (by omega)])⟩
                rw [inc, if_pos (show nI n < 8 from (nI_ltI (b := 8) (by omega) (by omega)).mpr hn), ckU_i H h8 up, obS, exOk, er, obS, ea, obS]
                dsimp only
                rw [c_setPart V1 (by omega) (show n < n + 1 by omega) (show i < n + 1 by omega), obS]
              have hm : ∀ g r', (∀ k, (27 ≤ k ∧ k ≤ 46) → g k = h k) → f_X12_remembers (up1 g 30 0 0) = some r' → r' 31 = h 31 → r' 30 21 = 0 → ∃ h', f_X12_build (a 1) (a 2) (a 3) (a 4) g = some (nI n, h') ∧ KM1 r' h' ∧ h' 31 = upd (biW n (a 1) (a 2) 0 0 (h 31)) (10 + 8 * n + i) (a 4) := by
                intro q r' qe er e31 _
                refine ⟨upA r' 31 (upd (biW n (a 1) (a 2) 0 0 (h 31)) (10 + 8 * n + i) (a 4)), ?_, KM1_A, upA_at⟩
                rw [im2 q (qe 31 (by omega)), if_neg (show ¬ nI n = 8 from fun z => n8 ((nI_eq (b := 8) (by omega) (by omega)).mp z)), hu, tff]
                unfold F_X12_build_86
                rw [tI0, obS]
                dsimp only
                rw [tff, er, obS, m_houses, e31, g.1.1, bnd_eq, m_isBuilt (by rw [e31]; exact g.1.1) hn, obS, show ∀ u : Hp, f_X12_partAt (nI n) (nI i) u = nI (10 + 8 * n + i) from fun u => m_partAtI, gdT (nI_ix (by omega) (by omega)), bnd_eq, nI_clamp (by omega), up1_upA, e31, bi_00 hn]
              obtain ⟨h', k, s, l, J⟩ := qAct (c := f_X11_build (a 1) (a 2) (a 3) (a 4)) (md := f_X12_build (a 1) (a 2) (a 3) (a 4)) I gw (fun k hk => wo k (by omega) (by omega)) hc hm
              exact ⟨h', k, Or.inl s, l, J⟩
            · exact st3 (Or.inr hu)
        · exact arg (Or.inr (Or.inr ⟨r1, r2, r4⟩))
      · exact arg (Or.inr (Or.inl ⟨r1, r2⟩))
    · exact arg (Or.inl r1)
  · obtain ⟨h', k, s, l, J⟩ := qEr (c := f_X11_build (a 1) (a 2) (a 3) (a 4)) (md := f_X12_build (a 1) (a 2) (a 3) (a 4)) (E := "java/lang/IndexOutOfBoundsException") (t := 1) I ⟨h, by
        unfold f_X11_build
        rw [ckH_x cn h8 hx, obS, exEr], KC_refl h⟩ (fun q _ qe => bE (by
        unfold f_X12_build
        rw [bnd_eq, noH_x (by rw [w30' qe]; exact g.1.1) h8 hx, tIt, obS]; rfl))
    exact ⟨h', k, Or.inr (Or.inl s), l, J⟩
