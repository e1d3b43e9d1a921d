/-! LAYER 4. The model's FALL, an evening more -/
theorem laid_w {n : Nat} {h : Hp} {w : Row} (h8 : n ≤ 8) (hl : laid n h) (hs : SE (h 31) w) : laid n (upA h 31 w) := by
  intro i hi
  rw [upA_ob (by decide), upA_at, pr_congr h8 (SE_SC hs) (se_w hs)]
  exact hl i hi
theorem m_af34 {q17 : Int32 → Int32 → Hp → Option (Int32 × Hp)} {acc : Int32} {h : Hp} {n m : Nat} {w : Row} (hw : h 31 = w) (hl : laid n h) (g : GdN n m w) :
    ∃ v, F_X12_allFall_34 q17 acc (sgS n m w (h 30 20) (h 30 21)) FU 0 h = F_X12_allFall_78 q17 acc (sgS n m w (h 30 20) (h 30 21)) FU 0 (upA (upA h 31 (rdT n m w (h 30 20) (h 30 21) (h 30 22))) 40 v) := by
  have h8 := g.2.1
  have h6 := g.2.2.2.1
  have Q := loopW (S_X12_allFall_34 q17 acc (sgS n m w (h 30 20) (h 30 21))) (fun _ _ => none) (fun q (s : Nat × Row) => q (nI s.1) (upA (upA h 31 (fldN (tlF n m w (h 30 20) (h 30 21) (h 30 22)) w s.1)) 40 s.2)) n (fun j s => s.1 = j)
    (fun r => ∃ v, r = F_X12_allFall_78 q17 acc (sgS n m w (h 30 20) (h 30 21)) FU 0 (upA (upA h 31 (rdT n m w (h 30 20) (h 30 21) (h 30 22))) 40 v)) (by omega) (fun j s hj hs => ?_) (fun s hs => ?_) (0, h 40) rfl
  · obtain ⟨v, e⟩ := Q
    refine ⟨v, ?_⟩
    rw [← e]
    show _ = F_X12_allFall_34 q17 acc _ FU 0 (upA (upA h 31 w) 40 (h 40))
    rw [← hw, upA_self, upA_self]
  · obtain ⟨j', v⟩ := s
    obtain rfl : j' = j := hs
    obtain ⟨T, hT⟩ : ∃ T, fldN (tlF n m w (h 30 20) (h 30 21) (h 30 22)) w j' = T := ⟨_, rfl⟩
    have sT : SE w T := by rw [← hT]; exact rdT_SE j'
    have gT : GdN n m T := by
      refine GdN_congr (fun k hk => ?_) g
      rw [← hT]; exact rdT_ob (by omega) (by omega)
    have hh : (upA (upA h 31 T) 40 v) 31 = T := by rw [upA_31, upA_at]
    have h30 : (upA (upA h 31 T) 40 v) 30 = h 30 := by rw [upA_30, upA_ob (by decide)]
    obtain ⟨v', e⟩ := m_sagsNow (h := upA (upA h 31 T) 40 v) (n := n) (m := m) (i := j') (laid_40 (laid_w h8 hl (by rw [hw]; exact sT))) (by rw [hh]; exact gT) (by omega)
    rw [hh, h30, upA_upA, se_sg h8 h6 (by omega) sT] at e
    have tbj : tb (sgS n m w (h 30 20) (h 30 21)) j' = sgB n m w (h 30 20) (h 30 21) j' := by
      unfold sgS; rw [orTo_tb _ _ (by omega) _ (by omega), decide_eq_true hj, Bool.true_and]
    cases hb : sgB n m w (h 30 20) (h 30 21) j'
    · refine ⟨(j' + 1, v), rfl, fun q => ?_⟩
      show S_X12_allFall_34 q17 acc (sgS n m w (h 30 20) (h 30 21)) q (nI j') (upA (upA h 31 (fldN (tlF n m w (h 30 20) (h 30 21) (h 30 22)) w j')) 40 v) = q (nI (j' + 1)) (upA (upA h 31 (fldN (tlF n m w (h 30 20) (h 30 21) (h 30 22)) w (j' + 1))) 40 v)
      rw [fldN_s, hT]; unfold tlF; rw [hb, tff]
      unfold S_X12_allFall_34
      rw [m_houses, hh, itP gT.1 hj (by omega), m_has, hasB_tb (by omega), tbj, hb, tff, nI_1]
    · refine ⟨(j' + 1, v'), rfl, fun q => ?_⟩
      show S_X12_allFall_34 q17 acc (sgS n m w (h 30 20) (h 30 21)) q (nI j') (upA (upA h 31 (fldN (tlF n m w (h 30 20) (h 30 21) (h 30 22)) w j')) 40 v) = q (nI (j' + 1)) (upA (upA h 31 (fldN (tlF n m w (h 30 20) (h 30 21) (h 30 22)) w (j' + 1))) 40 v')
      rw [fldN_s, hT]; unfold tlF; rw [hb, ttt]
      unfold S_X12_allFall_34
      rw [m_houses, hh, itP gT.1 hj (by omega), m_has, hasB_tb (by omega), tbj, hb, ttt, e, obS, m_tells, obS, h30]
      dsimp only
      rw [upA_31, upA_at, upA_comm (by decide), upA_upA, nI_1]
  · obtain ⟨j', v⟩ := s
    obtain rfl : n = j' := hs.symm
    refine ⟨_, ⟨v, rfl⟩, fun q => ?_⟩
    show S_X12_allFall_34 q17 acc (sgS n m w (h 30 20) (h 30 21)) q (nI n) (upA (upA h 31 (fldN (tlF n m w (h 30 20) (h 30 21) (h 30 22)) w n)) 40 v) = _
    unfold S_X12_allFall_34
    rw [m_houses, upA_31, upA_at, itN (by rw [rdT_ob (by omega) (by omega)]; exact g.1) (by omega)]
    rfl
theorem m_af78 {q17 : Int32 → Int32 → Hp → Option (Int32 × Hp)} {acc e pp : Int32} {h : Hp} {n m : Nat} {w : Row} (g : GdN n m w) (g1 : GdN n m (h 31)) :
    F_X12_allFall_78 q17 acc (sgS n m w e pp) FU 0 h = Option.bind (f_X12_thoseSagging (upA h 31 (rdG n m w e pp (h 31)))) fun r_7 => q17 (acc ||| sgS n m w e pp) r_7.1 r_7.2 := by
  have h8 := g.2.1
  have h6 := g.2.2.2.1
  have Q := loop0 (S_X12_allFall_78 q17 acc (sgS n m w e pp)) (fun _ _ => none) (fun j q => q (nI j) (upA h 31 (fldN (gnF n m w e pp) (h 31) j))) n
    (Option.bind (f_X12_thoseSagging (upA h 31 (rdG n m w e pp (h 31)))) fun r_7 => q17 (acc ||| sgS n m w e pp) r_7.1 r_7.2) (by omega) (fun j hj q => ?_) (fun q => ?_)
  · rw [fldN_0, upA_self] at Q
    exact Q
  · have tbj : tb (sgS n m w e pp) j = sgB n m w e pp j := by
      unfold sgS; rw [orTo_tb _ _ (by omega) _ (by omega), decide_eq_true hj, Bool.true_and]
    show S_X12_allFall_78 q17 acc _ q (nI j) _ = q (nI (j + 1)) (upA h 31 (fldN (gnF n m w e pp) (h 31) (j + 1)))
    rw [fldN_s, gnF]
    unfold S_X12_allFall_78
    rw [m_houses, upA_at, itP (by rw [rdG_ob (by omega) h6 (by omega)]; exact g1.1) hj (by omega), m_has, hasB_tb (by omega), tbj, nI_1]
    cases hb : sgB n m w e pp j
    · rw [tff, tff]
    · rw [ttt, ttt, m_isGone (by rw [upA_at, rdG_ob (by omega) h6 (by omega)]; exact g1.2.2.1) h6 (by omega), obS, upA_at, upA_upA]
  · show S_X12_allFall_78 q17 acc _ q (nI n) _ = _
    unfold S_X12_allFall_78
    rw [m_houses, upA_at, itN (by rw [rdG_ob (by omega) h6 (by omega)]; exact g1.1) (by omega)]
    rfl
/-- the model's rows of work, and the world -/
def EF (h h' : Hp) : Prop := ∀ k, k ≠ 30 → k ≠ 31 → k ≠ 36 → k ≠ 37 → k ≠ 40 → h' k = h k
theorem EF_refl (h : Hp) : EF h h := fun _ _ _ _ _ _ => rfl
theorem EF_trans {a b c : Hp} (x : EF a b) (y : EF b c) : EF a c := fun k p q r s t => (y k p q r s t).trans (x k p q r s t)
theorem ES_EF {a b : Hp} (x : ES a b) : EF a b := fun k _ _ r s t => x k r s t
theorem EF_31 {h : Hp} {w : Row} : EF h (upA h 31 w) := fun _ _ q _ _ _ => upA_ob q
theorem EF_30 {h : Hp} {w : Row} : EF h (upA h 30 w) := fun _ p _ _ _ _ => upA_ob p
theorem m_af17 {n m : Nat} {e pp : Int32} : ∀ (k t : Nat) (h : Hp) (acc : Int32), laid n h → GdN n m (h 31) → h 30 20 = e → h 30 21 = pp → h 30 22 = nI t → cnt (fun i => !falB (h 31) i) n < k → ∀ N, k ≤ N →
    ∃ h', F_X12_allFall_17 N acc (sgS n m (h 31) e pp) h = some (acc ||| (flS n m e pp k t (h 31)).1, h') ∧ h' 31 = (flS n m e pp k t (h 31)).2.2 ∧ h' 30 = upd (h 30) 22 (nI (flS n m e pp k t (h 31)).2.1) ∧ EF h h' ∧ laid n h'
  | 0, _, _, _, _, _, _, _, _, hc, _, _ => absurd hc (Nat.not_lt_zero _)
  | k + 1, t, h, acc, hl, g, he, hp, ht, hc, N, hN => by
    obtain ⟨N', rfl⟩ : ∃ N', N = N' + 1 := ⟨N - 1, by omega⟩
    have E : F_X12_allFall_17 (N' + 1) acc (sgS n m (h 31) e pp) h = S_X12_allFall_17 (F_X12_allFall_17 N') acc (sgS n m (h 31) e pp) h := rfl
    rw [E]
    unfold S_X12_allFall_17
    by_cases c : sgS n m (h 31) e pp = 0
    · have F : flS n m e pp (k + 1) t (h 31) = (0, t, h 31) := by unfold flS; rw [if_pos c]
      rw [if_pos c, F]
      refine ⟨h, by rw [show ((0, t, h 31) : Int32 × Nat × Row).1 = 0 from rfl, Int32.or_zero], rfl, ?_, EF_refl h, hl⟩
      show h 30 = upd (h 30) 22 (nI t)
      funext i
      unfold upd
      by_cases d : i = 22
      · rw [if_pos d, d, ht]
      · rw [if_neg d]
    · have F : flS n m e pp (k + 1) t (h 31) = (sgS n m (h 31) e pp ||| (flS n m e pp k (t + 1) (rdW n m (h 31) e pp (nI (t + 1)))).1, (flS n m e pp k (t + 1) (rdW n m (h 31) e pp (nI (t + 1)))).2) := by
        rw [flS, if_neg c]
      rw [if_neg c, bnd_eq, F]
      have h30 : (up1 h 30 22 (h 30 22 + 1)) 30 = upd (h 30) 22 (nI (t + 1)) := by rw [up1_at, ht, nI_1]
      have h31 : (up1 h 30 22 (h 30 22 + 1)) 31 = h 31 := up1_ob (by decide)
      have a20 : (up1 h 30 22 (h 30 22 + 1)) 30 20 = e := by rw [h30, upd_ob (by decide), he]
      have a21 : (up1 h 30 22 (h 30 22 + 1)) 30 21 = pp := by rw [h30, upd_ob (by decide), hp]
      have a22 : (up1 h 30 22 (h 30 22 + 1)) 30 22 = nI (t + 1) := by rw [h30, upd_at]
      have l1 : laid n (up1 h 30 22 (h 30 22 + 1)) := by
        intro i hi; rw [up1_ob (by decide), h31]; exact hl i hi
      obtain ⟨v, e1⟩ := m_af34 (q17 := F_X12_allFall_17 N') (acc := acc) (h := up1 h 30 22 (h 30 22 + 1)) (n := n) (m := m) (w := h 31) h31 l1 g
      rw [a20, a21, a22] at e1
      rw [e1]
      generalize hH : upA (upA (up1 h 30 22 (h 30 22 + 1)) 31 (rdT n m (h 31) e pp (nI (t + 1)))) 40 v = H
      have H31 : H 31 = rdT n m (h 31) e pp (nI (t + 1)) := by rw [← hH, upA_31, upA_at]
      have H30 : H 30 = upd (h 30) 22 (nI (t + 1)) := by rw [← hH, upA_30, upA_ob (by decide), h30]
      have g1 : GdN n m (H 31) := by
        rw [H31]; exact GdN_congr (fun k hk => rdT_ob (by omega) (by omega)) g
      rw [m_af78 g g1, H31]
      have W : rdG n m (h 31) e pp (rdT n m (h 31) e pp (nI (t + 1))) = rdW n m (h 31) e pp (nI (t + 1)) := rfl
      rw [W]
      obtain ⟨h2, e2, f2, l2⟩ := m_thoseSagging (h := upA H 31 (rdW n m (h 31) e pp (nI (t + 1)))) (n := n) (m := m) (by rw [upA_at]; exact rd_GdN g)
      rw [upA_at, upA_ob (by decide), H30] at e2
      have x20 : upd (h 30) 22 (nI (t + 1)) 20 = e := by rw [upd_ob (by decide), he]
      have x21 : upd (h 30) 22 (nI (t + 1)) 21 = pp := by rw [upd_ob (by decide), hp]
      rw [x20, x21] at e2
      have k31 : h2 31 = rdW n m (h 31) e pp (nI (t + 1)) := by rw [f2 31 (by decide) (by decide) (by decide), upA_at]
      have k30 : h2 30 = upd (h 30) 22 (nI (t + 1)) := by rw [f2 30 (by decide) (by decide) (by decide), upA_ob (by decide), H30]
      rw [e2, obS]
      obtain ⟨h3, e3, w3, r3, f3, l3⟩ := m_af17 (n := n) (m := m) (e := e) (pp := pp) k (t + 1) h2 (acc ||| sgS n m (h 31) e pp) l2 (by rw [k31]; exact rd_GdN g) (by rw [k30]; exact x20) (by rw [k30]; exact x21) (by rw [k30, upd_at]) (by
        rw [k31]
        have := rd_cnt (t := nI (t + 1)) g.2.1 g.2.2.2.1 c
        omega) N' (by omega)
      rw [k31] at e3 w3 r3
      refine ⟨h3, ?_, w3, ?_, ?_, l3⟩
      · show F_X12_allFall_17 N' (acc ||| sgS n m (h 31) e pp) (sgS n m (rdW n m (h 31) e pp (nI (t + 1))) e pp) h2 = _
        rw [e3, Int32.or_assoc]
      · rw [r3, k30]
        funext i
        unfold upd
        by_cases d : i = 22
        · rw [if_pos d, if_pos d]
        · rw [if_neg d, if_neg d, if_neg d]
      · refine EF_trans ?_ f3
        refine EF_trans ?_ (ES_EF f2)
        refine EF_trans ?_ EF_31
        rw [← hH]
        exact EF_trans (EF_trans (EF_30 (w := upd (h 30) 22 (h 30 22 + 1))) EF_31) (ES_EF ES_40)
theorem m_allFall {h : Hp} {n m : Nat} {e : Int32} (g : GdN n m (h 31)) :
    ∃ h', f_X12_allFall e h = some ((fallW n m e (h 30 21) (h 31)).1, h') ∧ h' 31 = (fallW n m e (h 30 21) (h 31)).2.2 ∧ h' 30 = upd (upd (h 30) 20 e) 22 (nI (fallW n m e (h 30 21) (h 31)).2.1) ∧ EF h h' ∧ laid n h' := by
  unfold f_X12_allFall
  rw [bnd_eq, bnd_eq]
  generalize hH : up1 (up1 h 30 20 e) 30 22 0 = H
  have H30 : H 30 = upd (upd (h 30) 20 e) 22 0 := by rw [← hH, up1_at, up1_at]
  have H31 : H 31 = h 31 := by rw [← hH, up1_ob (by decide), up1_ob (by decide)]
  obtain ⟨h1, e1, f1, l1⟩ := m_thoseSagging (h := H) (n := n) (m := m) (by rw [H31]; exact g)
  have x20 : upd (upd (h 30) 20 e) 22 0 20 = e := by rw [upd_ob (by decide), upd_at]
  have x21 : upd (upd (h 30) 20 e) 22 0 21 = h 30 21 := by rw [upd_ob (by decide), upd_ob (by decide)]
  rw [H31, H30, x20, x21] at e1
  have k31 : h1 31 = h 31 := by rw [f1 31 (by decide) (by decide) (by decide), H31]
  have k30 : h1 30 = upd (upd (h 30) 20 e) 22 0 := by rw [f1 30 (by decide) (by decide) (by decide), H30]
  rw [e1, obS]
  obtain ⟨h3, e3, w3, r3, f3, l3⟩ := m_af17 (n := n) (m := m) (e := e) (pp := h 30 21) 9 0 h1 0 l1 (by rw [k31]; exact g) (by rw [k30]; exact x20) (by rw [k30]; exact x21) (by rw [k30, upd_at]; rfl) (by
    have := cnt_le (fun i => !falB (h1 31) i) n
    have := g.2.1
    omega) FU (by decide)
  rw [k31] at e3 w3 r3
  refine ⟨h3, ?_, w3, ?_, ?_, l3⟩
  · rw [e3, Int32.zero_or]; rfl
  · rw [r3, k30]
    funext i
    unfold upd
    by_cases d : i = 22
    · rw [if_pos d, if_pos d]; rfl
    · rw [if_neg d, if_neg d, if_neg d]
  · refine EF_trans ?_ f3
    refine EF_trans ?_ (ES_EF f1)
    rw [← hH]
    exact EF_trans (EF_30 (w := upd (h 30) 20 e)) (EF_30 (w := upd ((up1 h 30 20 e) 30) 22 0))
