/-! LAYER 4. texts: a city's lines -/
section G0
variable {b : Nat → Nat} {L f n m : Nat} {u g : Hp} {w : Row}
theorem J_line {x : Nat} (H : ST b L n m w f u g) (hx : x < 14) : CIo b L w u g (f_X2_readLine 116 u) (f_X12_readLine 1 (nI x) g) := by
  obtain ⟨X, T, Xm, ⟨p, P⟩, e31, V, G⟩ := id H
  have fL := PT_f P
  have n8 := G.1.2.1
  have m6 := G.1.2.2.2.1
  obtain ⟨g1, e1, h12, h14, Fm⟩ := m_letters Xm P
  have iw : ∀ {km : Nat} {wd : List Nat}, isS km [wd] → f_X12_isWord km g1 = some (wdB b L wd f) := fun S => m_isWord S (FRm_LX Fm Xm) fL h12 h14
  have M0 : f_X12_readLine 1 (nI x) g = Option.bind (f_X12_readCityLine g1) fun r_6 => if r_6.1 then some (true, r_6.2) else some (false, r_6.2) := by
    unfold f_X12_readLine F_X12_readLine_16
    rw [e1, obS, if_neg (show ¬ (1 : Int32) = 0 by decide), if_pos (show nI x < 14 from (nI_ltI (b := 14) (by omega) (by omega)).mpr hx), if_neg (show ¬ (1 : Int32) = 0 by decide)]
  have mv : ∀ {u1 : Hp} {wd : List Nat}, okW wd = true → wdB b L wd f = true → TKc b L (nxN b L f) u1 → FRc u u1 → ST b L n m w (nxN b L f) u1 g1 := fun hw h T1 F1 =>
    ST_mv H T1 F1 ⟨ed_L fL, by rw [h12, wd_ed hw h], rfl⟩ Fm
  have u23 : u 2 3 = nI f := T.2.1
  have g0 : f_X12_houses g1 = nI n := by rw [m_houses, Fm.1 31 (by decide), e31]; exact G.1.1
  have p0 : f_X12_people g1 = nI m := by rw [m_people, Fm.1 31 (by decide), e31]; exact G.1.2.2.1
  have fe : fiW b L [w_house, w_person, w_lean, w_wander, w_prop, w_evening, w_week] f 0 = if wdB b L w_house f then 0 else if wdB b L w_person f then 1 else if wdB b L w_lean f then 2 else if wdB b L w_wander f then 3 else if wdB b L w_prop f then 4 else if wdB b L w_evening f then 5 else if wdB b L w_week f then 6 else -1 := rfl
  obtain ⟨A, B⟩ := c_take s_1000 X T
  obtain ⟨fi, hfi⟩ : ∃ fi, fiW b L [w_house, w_person, w_lean, w_wander, w_prop, w_evening, w_week] f 0 = fi := ⟨_, rfl⟩
  rw [hfi] at fe A B
  rw [M0]
  unfold f_X2_readLine f_X12_readCityLine
  rw [iw s_1016]
  cases h1 : wdB b L w_house f
  · rw [h1, tff] at fe
    rw [obS, tff, iw s_1021]
    cases h2 : wdB b L w_person f
    · rw [h2, tff] at fe
      cases h3 : wdB b L w_lean f
      · rw [h3, tff] at fe
        rw [obS, tff, iw s_1023, h2, obS, tff, iw s_1027]
        cases h4 : wdB b L w_wander f
        · rw [h4, tff] at fe
          rw [obS, tff, iw s_1028]
          cases h5 : wdB b L w_prop f
          · rw [h5, tff] at fe
            rw [obS, tff, iw s_1029]
            cases h6 : wdB b L w_evening f
            · rw [h6, tff] at fe
              rw [obS, tff, iw s_1030]
              cases h7 : wdB b L w_week f
              · rw [h7, tff] at fe
                rw [A fe, obS, obS, tff, obS]
                dsimp only
                rw [if_neg (show ¬ (-1 : Int32) = 0 by decide), if_neg (show ¬ (-1 : Int32) = 1 by decide), if_neg (show ¬ (-1 : Int32) = 2 by decide), if_neg (show ¬ (-1 : Int32) = 3 by decide), if_neg (show ¬ (-1 : Int32) = 4 by decide), if_neg (show ¬ (-1 : Int32) = 5 by decide), if_neg (show ¬ (-1 : Int32) = 6 by decide), c_fail T, obS, tff]
                exact J_bad rfl rfl (by dsimp only; exact up1_same) h14 (RWf Fm e31) FKc_22 (FKm_of Fm)
              · rw [h7, ttt] at fe
                obtain ⟨u1, e, T1, F1⟩ := B (by rw [fe]; decide)
                have H1 := mv (S_ok s_1030) h7 T1 F1
                rw [e, obS, obS, ttt, fe]
                dsimp only
                rw [if_neg (show ¬ (6 : Int32) = 0 by decide), if_neg (show ¬ (6 : Int32) = 1 by decide), if_neg (show ¬ (6 : Int32) = 2 by decide), if_neg (show ¬ (6 : Int32) = 3 by decide), if_neg (show ¬ (6 : Int32) = 4 by decide), if_neg (show ¬ (6 : Int32) = 5 by decide), if_pos rfl]
                exact CIo_tr F1 Fm (CIo_m (fun r e => e) (fun r e => wr2 _ (wr2 _ e)) (J_num (i := 13) (j := 5) (lo := 0) (h1 := 1000) (Or.inr (Or.inl ⟨rfl, rfl⟩)) (fun v hv => by omega) rfl (by decide) (by omega) (by omega) H1))
            · rw [h6, ttt] at fe
              obtain ⟨u1, e, T1, F1⟩ := B (by rw [fe]; decide)
              have H1 := mv (S_ok s_1029) h6 T1 F1
              rw [e, obS, obS, ttt, fe]
              dsimp only
              rw [if_neg (show ¬ (5 : Int32) = 0 by decide), if_neg (show ¬ (5 : Int32) = 1 by decide), if_neg (show ¬ (5 : Int32) = 2 by decide), if_neg (show ¬ (5 : Int32) = 3 by decide), if_neg (show ¬ (5 : Int32) = 4 by decide), if_pos rfl]
              exact CIo_tr F1 Fm (CIo_m (fun r e => e) (fun r e => wr2 _ (wr1 _ e)) (J_num (i := 12) (j := 4) (lo := 0) (h1 := 7) (Or.inl ⟨rfl, rfl⟩) (fun v hv => by omega) rfl (by decide) (by omega) (by omega) H1))
          · rw [h5, ttt] at fe
            obtain ⟨u1, e, T1, F1⟩ := B (by rw [fe]; decide)
            have H1 := mv (S_ok s_1028) h5 T1 F1
            rw [e, obS, obS, ttt, fe]
            dsimp only
            rw [if_neg (show ¬ (4 : Int32) = 0 by decide), if_neg (show ¬ (4 : Int32) = 1 by decide), if_neg (show ¬ (4 : Int32) = 2 by decide), if_neg (show ¬ (4 : Int32) = 3 by decide), if_pos rfl]
            exact CIo_tr F1 Fm (CIo_m (fun r e => e) (fun r e => wr2 _ (wr1 _ e)) (J_num (i := 15) (j := 7) (lo := 1) (h1 := 100) (Or.inr (Or.inr (Or.inr ⟨rfl, rfl⟩))) (fun v hv => by omega) rfl (by decide) (by omega) (by omega) H1))
        · rw [h4, ttt] at fe
          obtain ⟨u1, e, T1, F1⟩ := B (by rw [fe]; decide)
          have H1 := mv (S_ok s_1027) h4 T1 F1
          rw [e, obS, obS, ttt, fe]
          dsimp only
          rw [if_neg (show ¬ (3 : Int32) = 0 by decide), if_neg (show ¬ (3 : Int32) = 1 by decide), if_neg (show ¬ (3 : Int32) = 2 by decide), if_pos rfl]
          exact CIo_tr F1 Fm (CIo_m (fun r e => e) (fun r e => wr2 _ (wr1 _ e)) (J_num (i := 14) (j := 6) (lo := 0) (h1 := 101) (Or.inr (Or.inr (Or.inl ⟨rfl, rfl⟩))) (fun v hv => by omega) rfl (by decide) (by omega) (by omega) H1))
      · rw [h3, ttt] at fe
        obtain ⟨u1, e, T1, F1⟩ := B (by rw [fe]; decide)
        have H1 := mv (S_ok s_1021) h3 T1 F1
        rw [e, obS, obS, ttt, fe]
        dsimp only
        rw [if_neg (show ¬ (2 : Int32) = 0 by decide), if_neg (show ¬ (2 : Int32) = 1 by decide), if_pos rfl]
        exact CIo_tr F1 Fm (CIo_m wr1 (fun r e => wr2 _ (wr1 _ e)) (J_lean H1))
    · have h3 : wdB b L w_lean f = false := wd_ne h2 (by decide)
      rw [h2, ttt] at fe
      obtain ⟨u1, e, T1, F1⟩ := B (by rw [fe]; decide)
      have H1 := mv (S_ok s_1023) h2 T1 F1
      rw [h3, obS, tff, iw s_1023, h2, e, obS, obS, ttt, fe]
      dsimp only
      rw [if_neg (show ¬ (1 : Int32) = 0 by decide), if_pos rfl]
      have q10 : u1 116 10 = nI m := H1.2.2.2.2.2.1.2.2.2.1.2.1
      by_cases c : m < 6
      · rw [if_pos (show u1 116 10 < 6 by rw [q10]; exact (nI_ltI (b := 6) (by omega) (by omega)).mpr c)]
        exact CIo_tr F1 Fm (CIo_m wr1 (fun r e => wr2 _ (wr1 _ e)) (J_person H1 c))
      · obtain rfl : m = 6 := by omega
        rw [if_neg (show ¬ u1 116 10 < 6 by rw [q10]; decide), u23]
        unfold f_X10_failAt f_X12_readPerson
        rw [p0, bnd_eq, bnd_eq, if_pos (show nI 6 = 6 from rfl), obS, obS]
        exact J_bad rfl rfl (by dsimp only; exact up1_same) h14 (RWf Fm e31) (FKc_trans (FKc_of F1) FKc_22) (FKm_of Fm)
  · rw [h1, ttt] at fe
    obtain ⟨u1, e, T1, F1⟩ := B (by rw [fe]; decide)
    have H1 := mv (S_ok s_1016) h1 T1 F1
    rw [e, obS, obS, ttt, fe]
    dsimp only
    rw [if_pos rfl]
    have q9 : u1 116 9 = nI n := H1.2.2.2.2.2.1.2.2.2.1.1
    by_cases c : n < 8
    · rw [if_pos (show u1 116 9 < 8 by rw [q9]; exact (nI_ltI (b := 8) (by omega) (by omega)).mpr c)]
      exact CIo_tr F1 Fm (CIo_m wr1 (fun r e => wr2 _ (wr1 _ e)) (J_house H1 c))
    · obtain rfl : n = 8 := by omega
      rw [if_neg (show ¬ u1 116 9 < 8 by rw [q9]; decide), u23]
      unfold f_X10_failAt f_X12_readHouse
      rw [g0, bnd_eq, bnd_eq, if_pos (show nI 8 = 8 from rfl), obS, obS]
      exact J_bad rfl rfl (by dsimp only; exact up1_same) h14 (RWf Fm e31) (FKc_trans (FKc_of F1) FKc_22) (FKm_of Fm)
end G0
