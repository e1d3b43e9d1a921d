/-! LAYER 4. trial -/
def hoF (m : Nat) (w : Row) (p : Nat) : Int32 := if p < m then (if atR w p = -1 then 0 else hdR w p) else 0
theorem c_holdOfAll {c n m : Nat} {h : Hp} {w : Row} (H : CV0 c h n m w) (h6 : m ≤ 6) : f_X1_holdOfAll c h = some (sumTo (hoF m w) 6) := by
  have Q := loop0 (S_X1_holdOfAll_4 h c) (fun _ _ => none) (fun j q => q (sumTo (hoF m w) j) (nI j)) 6 (some (sumTo (hoF m w) 6)) (by omega) (fun j hj q => ?_) (fun q => ?_)
  · exact Q
  · show S_X1_holdOfAll_4 h c q (sumTo (hoF m w) j) (nI j) = q (sumTo (hoF m w) j + hoF m w j) (nI (j + 1))
    unfold S_X1_holdOfAll_4 F_X1_holdOfAll_29 hoF
    rw [show (6 : Int32) = nI 6 from rfl, if_pos ((nI_ltI (by omega) (by omega)).mpr hj), c_placeOf H h6 (by omega), obS, c_holdOf H h6 (by omega), obS, nI_1]
    by_cases z : j < m
    · rw [if_pos z, if_pos z, if_pos z]
      by_cases y : atR w j = -1
      · rw [if_pos y, if_pos y]
      · rw [if_neg y, if_neg y]
    · rw [if_neg z, if_neg z, if_pos (rfl : (-1 : Int32) = -1), if_neg z]
  · show S_X1_holdOfAll_4 h c q (sumTo (hoF m w) 6) (nI 6) = _
    unfold S_X1_holdOfAll_4
    rw [show (6 : Int32) = nI 6 from rfl, if_neg (by decide)]
theorem m_holdOfAll {h : Hp} {m : Nat} (hm : h 31 1 = nI m) (h6 : m ≤ 6) : f_X12_holdOfAll h = some (sumTo (hoF m (h 31)) m) := by
  have Q := loop0 (S_X12_holdOfAll_4 h) (fun _ _ => none) (fun j q => q (sumTo (hoF m (h 31)) j) (nI j)) m (some (sumTo (hoF m (h 31)) m)) (by omega) (fun j hj q => ?_) (fun q => ?_)
  · exact Q
  · show S_X12_holdOfAll_4 h q (sumTo (hoF m (h 31)) j) (nI j) = q (sumTo (hoF m (h 31)) j + hoF m (h 31) j) (nI (j + 1))
    unfold S_X12_holdOfAll_4 F_X12_holdOfAll_33 hoF
    rw [m_people, itP hm hj (by omega), m_ofPerson0 (by omega), obS, m_ofPerson1 (by omega), obS, nI_1, if_pos hj]
    show (if atR (h 31) j = -1 then _ else _) = _
    by_cases y : atR (h 31) j = -1
    · rw [if_pos y, if_pos y]
    · rw [if_neg y, if_neg y]; rfl
  · show S_X12_holdOfAll_4 h q (sumTo (hoF m (h 31)) m) (nI m) = _
    unfold S_X12_holdOfAll_4
    rw [m_people, itN hm (by omega)]
theorem ho_6 {m : Nat} {w : Row} : ∀ N, m ≤ N → sumTo (hoF m w) N = sumTo (hoF m w) m
  | 0, h => by rw [Nat.le_zero.mp h]
  | N + 1, h => by
    by_cases c : m = N + 1
    · rw [c]
    · show sumTo (hoF m w) N + hoF m w N = _
      rw [ho_6 N (by omega), show hoF m w N = 0 from if_neg (by omega), Int32.add_zero]
theorem sp_45 {a : Nat → Int32} {h : Hp} (I : Inv h) : ∃ h' n, St_45 a h h' n ∧ n ≤ 1 ∧ Inv h' := by
  obtain ⟨⟨n, m, N⟩, _⟩ := id I
  have g := N.1
  have h8 := g.1.2.1
  have h6 := g.1.2.2.2.1
  have ca : ∀ u, f_X11_checkAmount (a 1) 0 70 u = f_X11_checkAmount (a 1) (nI 0) (nI 70) u := fun u => rfl
  obtain ⟨y, hy⟩ : ∃ y, nz (a 2) = y := ⟨_, rfl⟩
  unfold St_45
  rw [hy]
  rcases argA (a 1) (b := 70) (by omega) with ⟨N1, hN, e1⟩ | hx
  · obtain ⟨r, h1, c1, c2, K1, V1⟩ := c_probeRun (N1 := N1) (b := true) N hN
    obtain ⟨h', k, s, l, J⟩ := qOk (c := f_X11_trial (a 1) y) (md := f_X12_trial (a 1) y) (v := if y = 0 then orTo (upS (goW false n m (h 31) N1)) n else sumTo (hoF m (goW false n m (h 31) N1)) m) I ⟨h1, by
        unfold f_X11_trial
        rw [ca, ckR (by omega) ⟨N1, by omega, hN, e1⟩, obS, exOk, c1, obS, e1, show f_X3_run 116 500 (nI N1) 1 r = some h1 from c2, obS, show h1 116 11 = _ from V1.2.2.2.1.2.2, c_holdOfAll V1 h6, obS]
        by_cases z : y = 0
        · rw [if_pos z, if_pos z]; exact congrArg (fun x => some (Except.ok x, h1)) (up_std h8)
        · rw [if_neg z, if_neg z]; exact congrArg (fun x => some (Except.ok x, h1)) (ho_6 6 h6), K1⟩ (fun q J qe => by
        have w := w30' qe
        obtain ⟨r', u, x, d1, d2, d3, d4, d5, d6⟩ := m_goKept (h := up1 q 30 0 0) (n := n) (m := m) (N1 := N1) (calm := false) (by rw [w]; exact g) (by rw [up1_at, upd_ob (by decide)]; exact J.2.2.2.2) hN
        obtain ⟨km, z⟩ := KM_kept d6 d5 d4
        refine ⟨_, ?_, z.trans up1_same, KM_trans KM_0 km⟩
        have gg := go_Gd (calm := false) g N1
        unfold f_X12_trial F_X12_trial_45
        rw [bnd_eq, e1, noA_i hN, tIf, obS]
        dsimp only
        rw [tff, d1, obS, show f_X12_goesOn (nI N1) 0 r' = some (x, u) from d2, obS]
        dsimp only
        rw [std_eq (n := n) (by rw [d3, w]; exact gg.1.1) h8, m_holdOfAll (m := m) (by rw [d3, w]; exact gg.1.2.2.1) h6, obS, obS, m_backM, obS, d3, w]
        by_cases z : y = 0
        · rw [if_pos z, if_pos z]
        · rw [if_neg z, if_neg z, obS])
    exact ⟨h', k, Or.inl s, l, J⟩
  · obtain ⟨h', k, s, l, J⟩ := qEr (c := f_X11_trial (a 1) y) (md := f_X12_trial (a 1) y) (E := "java/lang/IllegalArgumentException") (t := 1) I ⟨h, by
        unfold f_X11_trial
        rw [ca, ckX hx, obS, exEr], KC_refl h⟩ (fun q _ qe => bE (by
        unfold f_X12_trial
        rw [bnd_eq, noA_x hx, tIt, obS]; rfl))
    exact ⟨h', k, Or.inr s, l, J⟩
