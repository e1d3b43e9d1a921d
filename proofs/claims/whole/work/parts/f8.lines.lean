/-! LAYER 4. texts: the lines of a city, on -/
section L8
variable {b : Nat → Nat} {L f n m : Nat} {u g : Hp} {w : Row}
theorem j_word {kc km : Nat} {wd : List Nat} (Sc : isS kc [wd]) (Sm : isS km [wd]) (H : ST b L n m w f u g) :
    (∃ u' g' f', f_X10_needs kc u = some (true, u') ∧ f_X12_letters g = some g' ∧ f_X12_isWord km g' = some true ∧ ST b L n m w f' u' g' ∧ FRc u u' ∧ FRm g g') ∨
    (∃ u' g' x, f_X10_needs kc u = some (false, u') ∧ f_X12_letters g = some g' ∧ f_X12_isWord km g' = some false ∧ u' 2 2 = nI x ∧ g' 30 14 = nI x ∧ FKc u u' ∧ FRm g g') := by
  obtain ⟨X, T, Xm, ⟨p, P⟩, _⟩ := id H
  obtain ⟨A, B⟩ := c_needs Sc X T
  obtain ⟨g', e, h12, h14, F, ew, hp⟩ := m_word Sm Xm P
  cases c : wdB b L wd f
  · exact Or.inr ⟨up1 u 2 2 (nI f), g', f, B c, e, by rw [ew, c], up1_same, h14, FKc_22, F⟩
  · obtain ⟨u1, e1, T1, F1⟩ := A c
    exact Or.inl ⟨u1, g', _, e1, e, by rw [ew, c], ST_mv H T1 F1 (hp c) F, F1, F⟩
theorem pe_RW {x y z : Int32} (hm : m < 6) : RWk w (peW m x y z w) := fun k hk => ps_ob (by omega) (by omega)
theorem J_person (H : ST b L n m w f u g) (hm : m < 6) : CIo b L w u g (f_X2_readPerson 116 u) (f_X12_readPerson g) := by
  have e31 := H.2.2.2.2.1
  have g0 : f_X12_people g = nI m := by rw [m_people, e31]; exact H.2.2.2.2.2.2.1.2.2.1
  have M0 : f_X12_readPerson g = Option.bind (f_X12_letters g) fun r4 => Option.bind (f_X12_isWord 1024 r4) fun r6 => if r6 then Option.bind (f_X12_houseTold r4) fun r9 => F_X12_readPerson_34 (nI m) r9.1 r9.2 else F_X12_readPerson_34 (nI m) (-1) r4 := by
    unfold f_X12_readPerson
    rw [g0, bnd_eq, if_neg (show ¬ nI m = 6 from fun z => by have := (nI_eq (b := 6) (by omega) (by omega)).mp z; omega)]
  rw [M0]
  unfold f_X2_readPerson
  rcases j_word s_1005 s_1024 H with ⟨u1, g1, f1, c1, m1, w1, H1, Fc1, Fm1⟩ | ⟨u1, g1, x, c1, m1, w1, x1, x2, K, M⟩
  · rw [c1, obS, ttt, m1, obS, w1, obS, ttt]
    rcases j_stand H1 with ⟨i, u2, g2, f2, ⟨hi, _⟩, cK, mK, H2, Fc2, Fm2⟩ | ⟨u2, g2, x, cK, mK, x1, x2, K, M⟩
    · have Fc2 := FRc_trans Fc1 Fc2
      have Fm2 := FRm_trans Fm1 Fm2
      have il := upB_lt hi
      have n8 := H.2.2.2.2.2.2.1.2.1
      have cK := cK (F_X2_readPerson_18 116)
      have mK := mK (F_X12_readPerson_34 (nI m))
      dsimp only at cK mK ⊢
      rw [cK, mK]
      unfold F_X2_readPerson_18 F_X12_readPerson_34
      rw [if_neg (nI_np (by omega)), if_neg (nI_pos (by omega))]
      rcases j_need (lo := 0) (h1 := 100) (lo' := 0) (hi' := 99) s_1006 s_1025 rfl (by decide) (by omega) (by omega) H2 with ⟨c, u3, g3, f3, ⟨_, c2⟩, cK, mK, H3, Fc3, Fm3⟩ | ⟨u3, g3, x, cK, mK, x1, x2, K, M⟩
      · have Fc3 := FRc_trans Fc2 Fc3
        have Fm3 := FRm_trans Fm2 Fm3
        have cK := cK (F_X2_readPerson_46 116 (nI i))
        have mK := mK (F_X12_readPerson_52 (nI m) (nI i))
        dsimp only at cK mK
        rw [cK, mK]
        unfold F_X2_readPerson_46 F_X12_readPerson_52
        rw [if_neg (nI_np (by omega)), if_neg (nI_pos (by omega))]
        rcases j_days s_1007 s_1026 H3 with ⟨d, u4, g4, f4, d2, cK, mK, H4, Fc4, Fm4⟩ | ⟨u4, g4, x, cK, mK, x1, x2, K, M⟩
        · have Fc4 := FRc_trans Fc3 Fc4
          have Fm4 := FRm_trans Fm3 Fm4
          have d2 : d ≤ 127 := d2
          have cK := cK (F_X2_readPerson_72 116 (nI i) (nI c))
          have mK := mK (F_X12_readPerson_77 (nI m) (nI i) (nI c))
          dsimp only at cK mK
          rw [cK, mK]
          unfold F_X2_readPerson_72 F_X12_readPerson_77
          obtain ⟨u5, c5, V5, F5⟩ := c_addPerson (x := nI i) (y := nI c) (z := nI d) H4.2.2.2.2.2.1 hm
          have x31 : g4 31 = w := H4.2.2.2.2.1
          have w1 : w 1 = nI m := H4.2.2.2.2.2.2.1.2.2.1
          have at_ : ∀ (x : Nat) (u : Hp), f_X12_personAt (nI m) (nI x) u = nI (114 + 3 * m + x) := fun x u => m_personAtI
          rw [if_neg (nI_np (by omega)), c5, obS, ttt, if_neg (nI_pos (by omega)),
            show ∀ u, f_X12_personAt (nI m) 0 u = nI (114 + 3 * m) from at_ 0, gdT (nI_ix (by omega) (by omega)), bnd_eq, nI_clamp (by omega), show ∀ u, f_X12_personAt (nI m) 1 u = nI (114 + 3 * m + 1) from at_ 1, gdT (nI_ix (by omega) (by omega)), bnd_eq, nI_clamp (by omega), show ∀ u, f_X12_personAt (nI m) 2 u = nI (114 + 3 * m + 2) from at_ 2, gdT (nI_ix (by omega) (by omega)), bnd_eq, nI_clamp (by omega), bnd_eq, up1_A (h := g4), up1_upA, up1_upA, upA_at, up1_upA, upd_ob (show 1 ≠ 114 + 3 * m + 2 by omega), upd_ob (show 1 ≠ 114 + 3 * m + 1 by omega), upd_ob (show 1 ≠ 114 + 3 * m by omega), x31, w1, nI_1]
          refine Or.inl ⟨u5, _, f4, n, m + 1, peW m (nI i) (nI c) (nI d) w, rfl, rfl, ST_w H4 (F5 2 (by omega) (by omega)) (F5 3 (by omega) (by omega)) (upA_ob (by decide)) (upA_ob (by decide)) upA_at V5 (ps_Gd H4.2.2.2.2.2.2 hm hi (by omega) (by omega)), pe_RW hm, ?_, ?_, by rw [F5 2 (by omega) (by omega)]; exact Fc4.2.2⟩
          · exact FKc_trans (FKc_of Fc4) ⟨fun k _ hk => F5 k (by omega) (by omega), by rw [F5 2 (by omega) (by omega)]⟩
          · exact FKm_trans (FKm_of Fm4) ⟨fun k _ hk => upA_ob hk, fun i _ _ => by rw [upA_ob (by decide)]⟩
        · have cK := cK (F_X2_readPerson_72 116 (nI i) (nI c))
          have mK := mK (F_X12_readPerson_77 (nI m) (nI i) (nI c))
          dsimp only at cK mK
          rw [cK, mK]
          exact J_bad rfl rfl x1 x2 (RWf (FRm_trans Fm3 M) e31) (FKc_trans (FKc_of Fc3) K) (FKm_of (FRm_trans Fm3 M))
      · have cK := cK (F_X2_readPerson_46 116 (nI i))
        have mK := mK (F_X12_readPerson_52 (nI m) (nI i))
        dsimp only at cK mK
        rw [cK, mK]
        exact J_bad rfl rfl x1 x2 (RWf (FRm_trans Fm2 M) e31) (FKc_trans (FKc_of Fc2) K) (FKm_of (FRm_trans Fm2 M))
    · have cK := cK (F_X2_readPerson_18 116)
      have mK := mK (F_X12_readPerson_34 (nI m))
      dsimp only at cK mK ⊢
      rw [cK, mK]
      exact J_bad rfl rfl x1 x2 (RWf (FRm_trans Fm1 M) e31) (FKc_trans (FKc_of Fc1) K) (FKm_of (FRm_trans Fm1 M))
  · rw [c1, obS, tff, m1, obS, w1, obS, tff]
    exact J_bad rfl rfl x1 x2 (RWf M e31) K (FKm_of M)
theorem pt_GdR {i o x : Nat} (G : Gd n m w) (hi : upB n w i = true) (ho : upB n w o = true) (c : i ≠ o) (hx : x ≤ 9) : Gd n m (upd w (10 + 8 * i + o) (nI x)) := by
  have a1 := upB_lt hi
  have a2 := upB_lt ho
  have h8 := G.1.2.1
  exact Gd_1 G (by omega) (by omega) (by omega) (fun _ _ _ => by omega) (fun p q hp hq z => ⟨⟨x, hx, rfl⟩, by
    obtain ⟨rfl, rfl⟩ : p = i ∧ q = o := by omega
    exact ⟨hi, ho, c⟩⟩) (fun _ _ _ => by omega) (fun _ _ _ => by omega)
theorem J_lean (H : ST b L n m w f u g) : CIo b L w u g (f_X2_readLean 116 u) (f_X12_readLean g) := by
  have e31 := H.2.2.2.2.1
  have n8 := H.2.2.2.2.2.2.1.2.1
  have m6 := H.2.2.2.2.2.2.1.2.2.2.1
  unfold f_X2_readLean f_X12_readLean
  rcases j_stand H with ⟨i, u1, g1, f1, ⟨hi, _⟩, cK, mK, H1, Fc1, Fm1⟩ | ⟨u1, g1, x, cK, mK, x1, x2, K, M⟩
  · have il := upB_lt hi
    have cK := cK (fun t h => if t = (-1) then some (false, h) else
      bnd (h 2 3) fun x3_4 =>
      Option.bind (f_X2_readStanding 116 h) fun r_6 =>
      if r_6.1 = (-1) then
        some (false, r_6.2)
      else
        if r_6.1 = t then
          Option.bind (f_X10_failAt x3_4 r_6.2) fun r_10 =>
          some (r_10.1, r_10.2)
        else
          Option.bind (f_X10_needs 1008 r_6.2) fun r_12 =>
          if r_12.1 then
            Option.bind (f_X10_takeNumber 0 9 r_12.2) fun r_15 =>
            F_X2_readLean_65 116 t r_6.1 r_15.1 r_15.2
          else
            F_X2_readLean_65 116 t r_6.1 (-1) r_12.2)
    have mK := mK (fun t h => if t < 0 then F_X12_readLean_17 t (-1) h else Option.bind (f_X12_houseTold h) fun r4 => F_X12_readLean_17 t r4.1 r4.2)
    dsimp only at cK mK
    rw [cK, mK, if_neg (nI_np (by omega)), if_neg (nI_pos (by omega)), bnd_eq, H1.2.1.2.1]
    rcases j_stand H1 with ⟨o, u2, g2, f2, ⟨ho, g14⟩, cK, mK, H2, Fc2, Fm2⟩ | ⟨u2, g2, x, cK, mK, x1, x2, K, M⟩
    · have Fc2 := FRc_trans Fc1 Fc2
      have Fm2 := FRm_trans Fm1 Fm2
      have ol := upB_lt ho
      have cK := cK (fun t h => if t = (-1) then
        some (false, h)
      else
        if t = (nI i) then
          Option.bind (f_X10_failAt (nI f1) h) fun r_10 =>
          some (r_10.1, r_10.2)
        else
          Option.bind (f_X10_needs 1008 h) fun r_12 =>
          if r_12.1 then
            Option.bind (f_X10_takeNumber 0 9 r_12.2) fun r_15 =>
            F_X2_readLean_65 116 (nI i) t r_15.1 r_15.2
          else
            F_X2_readLean_65 116 (nI i) t (-1) r_12.2)
      have mK := mK (F_X12_readLean_17 (nI i))
      dsimp only at cK mK
      rw [cK, mK, if_neg (nI_np (by omega))]
      unfold F_X12_readLean_17
      rw [if_neg (nI_pos (by omega))]
      by_cases c : o = i
      · rw [if_pos (by rw [c]), if_pos (by rw [c])]
        unfold f_X10_failAt
        rw [bnd_eq, obS]
        exact J_bad rfl rfl (by dsimp only; exact up1_same) g14 (RWf Fm2 e31) (FKc_trans (FKc_of Fc2) FKc_22) (FKm_of Fm2)
      · rw [if_neg (fun z => c ((nI_eq (by omega) (by omega)).mp z)), if_neg (fun z => c ((nI_eq (by omega) (by omega)).mp z))]
        rcases j_need (lo := 0) (h1 := 10) (lo' := 0) (hi' := 9) s_1008 s_1022 rfl (by decide) (by omega) (by omega) H2 with ⟨d, u3, g3, f3, ⟨_, d2⟩, cK, mK, H3, Fc3, Fm3⟩ | ⟨u3, g3, x, cK, mK, x1, x2, K, M⟩
        · have Fc3 := FRc_trans Fc2 Fc3
          have Fm3 := FRm_trans Fm2 Fm3
          have cK := cK (F_X2_readLean_65 116 (nI i) (nI o))
          have mK := mK (fun t h => if t < 0 then some (false, h) else gd (ix (f_X12_partAt (nI i) (nI o) h) 2190) (bnd (up1 h 31 ((f_X12_partAt (nI i) (nI o) h).toNatClampNeg) t) fun h_7 => some (true, h_7)))
          dsimp only at cK mK
          rw [cK, mK]
          unfold F_X2_readLean_65
          rw [if_neg (nI_np (by omega)), if_neg (nI_pos (by omega)), c_setPart H3.2.2.2.2.2.1 n8 il ol, obS, show f_X12_partAt (nI i) (nI o) g3 = nI (10 + 8 * i + o) from m_partAtI, gdT (nI_ix (by omega) (by omega)), bnd_eq, nI_clamp (by omega)]
          have x31 : g3 31 = w := H3.2.2.2.2.1
          refine Or.inl ⟨_, _, f3, n, m, upd w (10 + 8 * i + o) (nI d), rfl, rfl, ST_w H3 (up1_ob (by decide)) (up1_ob (by decide)) (up1_ob (by decide)) (up1_ob (by decide)) (by rw [up1_at, x31]) (CV0_pt H3.2.2.2.2.2.1 m6 (by omega) (by omega) up1_at (fun k hk => up1_ob hk)) (pt_GdR H3.2.2.2.2.2.2 hi ho (fun z => c z.symm) (by omega)), fun k hk => upd_ob (by omega), ?_, ?_, by rw [up1_ob (by decide)]; exact Fc3.2.2⟩
          · exact FKc_trans (FKc_of Fc3) ⟨fun k _ hk => up1_ob (by omega), by rw [up1_ob (by decide)]⟩
          · exact FKm_trans (FKm_of Fm3) FKm_31
        · have cK := cK (F_X2_readLean_65 116 (nI i) (nI o))
          have mK := mK (fun t h => if t < 0 then some (false, h) else gd (ix (f_X12_partAt (nI i) (nI o) h) 2190) (bnd (up1 h 31 ((f_X12_partAt (nI i) (nI o) h).toNatClampNeg) t) fun h_7 => some (true, h_7)))
          dsimp only at cK mK
          rw [cK, mK]
          exact J_bad rfl rfl x1 x2 (RWf (FRm_trans Fm2 M) e31) (FKc_trans (FKc_of Fc2) K) (FKm_of (FRm_trans Fm2 M))
    · have cK := cK (fun t h => if t = (-1) then
        some (false, h)
      else
        if t = (nI i) then
          Option.bind (f_X10_failAt (nI f1) h) fun r_10 =>
          some (r_10.1, r_10.2)
        else
          Option.bind (f_X10_needs 1008 h) fun r_12 =>
          if r_12.1 then
            Option.bind (f_X10_takeNumber 0 9 r_12.2) fun r_15 =>
            F_X2_readLean_65 116 (nI i) t r_15.1 r_15.2
          else
            F_X2_readLean_65 116 (nI i) t (-1) r_12.2)
      have mK := mK (F_X12_readLean_17 (nI i))
      dsimp only at cK mK
      rw [cK, mK]
      exact J_bad rfl rfl x1 x2 (RWf (FRm_trans Fm1 M) e31) (FKc_trans (FKc_of Fc1) K) (FKm_of (FRm_trans Fm1 M))
  · have cK := cK (fun t h => if t = (-1) then some (false, h) else
      bnd (h 2 3) fun x3_4 =>
      Option.bind (f_X2_readStanding 116 h) fun r_6 =>
      if r_6.1 = (-1) then
        some (false, r_6.2)
      else
        if r_6.1 = t then
          Option.bind (f_X10_failAt x3_4 r_6.2) fun r_10 =>
          some (r_10.1, r_10.2)
        else
          Option.bind (f_X10_needs 1008 r_6.2) fun r_12 =>
          if r_12.1 then
            Option.bind (f_X10_takeNumber 0 9 r_12.2) fun r_15 =>
            F_X2_readLean_65 116 t r_6.1 r_15.1 r_15.2
          else
            F_X2_readLean_65 116 t r_6.1 (-1) r_12.2)
    have mK := mK (fun t h => if t < 0 then F_X12_readLean_17 t (-1) h else Option.bind (f_X12_houseTold h) fun r4 => F_X12_readLean_17 t r4.1 r4.2)
    dsimp only at cK mK
    rw [cK, mK]
    exact J_bad rfl rfl x1 x2 (RWf M e31) K (FKm_of M)
end L8
