/-! LAYER 4. The model's evening more -/
theorem fl_ob {n m k : Nat} {e pp : Int32} (h8 : n ≤ 8) (hm : m ≤ 6) (h : (k < 10 ∧ k ≠ 8) ∨ (74 ≤ k ∧ k < 114 ∧ (k - 74) % 5 ≠ 4) ∨ (114 ≤ k ∧ k < 132 ∧ (k - 114) % 3 ≠ 0) ∨ 492 ≤ k) : ∀ (j t : Nat) (w : Row), (flS n m e pp j t w).2.2 k = w k
  | 0, _, _ => rfl
  | j + 1, t, w => by
    rw [flS]
    by_cases c : sgS n m w e pp = 0
    · rw [if_pos c]
    · rw [if_neg c]
      show (flS n m e pp j (t + 1) (rdW n m w e pp (nI (t + 1)))).2.2 k = w k
      rw [fl_ob h8 hm h j, rd_ob h8 hm h]
theorem fl_GdN {n m : Nat} {e pp : Int32} {w : Row} (g : GdN n m w) : GdN n m (fallW n m e pp w).2.2 :=
  GdN_congr (fun k hk => fl_ob g.2.1 g.2.2.2.1 (by omega) 9 0 w) g
theorem age_ob {n m i k : Nat} {e : Int32} {w : Row} (h : k ≠ 74 + 5 * i + 2 ∧ k ≠ 74 + 5 * i + 3) : ageW n m e i w k = w k := by
  unfold ageW
  split
  · rfl
  · split
    · rw [upd_ob h.2, upd_ob h.1]
    · rw [upd_ob h.1]
theorem ag_ob {n m k j : Nat} {e : Int32} {w : Row} (hj : j ≤ 8) (h : k < 76 ∨ 114 ≤ k ∨ ((k - 74) % 5 ≠ 2 ∧ (k - 74) % 5 ≠ 3)) : fldN (ageW n m e) w j k = w k :=
  fldN_ind (fun _ (v : Row) => v k = w k) rfl j fun i v hi hv => by rw [age_ob (by omega), hv]
theorem m_ages {h : Hp} {n m i : Nat} (hl : laid n h) (g : GdN n m (h 31)) (hi : i < 8) :
    ∃ v, f_X12_ages (nI i) h = some (upA (upA h 31 (ageW n m (h 30 20) i (h 31))) 40 v) := by
  obtain ⟨v, e⟩ := m_sumOf (k := 2) hl g hi
  unfold f_X12_ages
  rw [m_isFallen hi, obS]
  show ∃ v, (if falB (h 31) i = true then _ else _) = _
  unfold ageW
  cases hf : falB (h 31) i
  · refine ⟨v, ?_⟩
    rw [tff, tff, m_of2 hi, obS, e, obS]
    dsimp only
    rw [show h 31 (74 + 5 * i + 2) = ivR (h 31) i from rfl, show f_X12_at (nI i) 2 h = nI (74 + 5 * i + 2) from m_atI (w := 2), gdT (nI_ix (by omega) (by omega)), bnd_eq, nI_clamp (by omega)]
    show (if (up1 (upA h 40 v) 31 (74 + 5 * i + 2) (imin 9 (ivR (h 31) i + smW n m (h 31) (h 30 20) 2 i))) 31 4 = 0 then _ else _) = _
    have r4 : (up1 (upA h 40 v) 31 (74 + 5 * i + 2) (imin 9 (ivR (h 31) i + smW n m (h 31) (h 30 20) 2 i))) 31 4 = h 31 4 := by
      rw [up1_at, upd_ob (by omega), upA_31]
    have hh : up1 (upA h 40 v) 31 (74 + 5 * i + 2) (imin 9 (ivR (h 31) i + smW n m (h 31) (h 30 20) 2 i)) = upA (upA h 31 (upd (h 31) (74 + 5 * i + 2) (imin 9 (ivR (h 31) i + smW n m (h 31) (h 30 20) 2 i)))) 40 v := by
      unfold up1
      rw [upA_31, upA_comm (by decide)]
    rw [r4]
    by_cases c : h 31 4 = 0
    · rw [if_pos c, if_pos c, hh, m_of3 hi, obS, show ∀ g, f_X12_at (nI i) 3 g = nI (74 + 5 * i + 3) from fun g => m_atI (w := 3), gdT (nI_ix (by omega) (by omega)), bnd_eq, nI_clamp (by omega)]
      unfold up1
      rw [upA_31, upA_at, upA_comm (k := 40) (by decide), upA_upA, upd_ob (by omega)]
      rfl
    · rw [if_neg c, if_neg c, hh]
  · refine ⟨h 40, ?_⟩
    rw [ttt, ttt, upA_self, upA_self]
theorem nthT_ok {p : Nat → Bool} : ∀ {n x : Nat}, x < cnt p n → nthT p n x < n ∧ p (nthT p n x) = true ∧ cnt p (nthT p n x) = x
  | 0, _, h => absurd h (Nat.not_lt_zero _)
  | n + 1, x, h => by
    have h' : x < cnt p n + (if p n then 1 else 0) := h
    rw [nthT]
    by_cases c : p n = true ∧ cnt p n = x
    · rw [if_pos c]; exact ⟨Nat.lt_succ_self n, c.1, c.2⟩
    · rw [if_neg c]
      have : x < cnt p n := by
        by_cases d : p n = true
        · rw [if_pos d] at h'
          have : cnt p n ≠ x := fun q => c ⟨d, q⟩
          omega
        · rw [if_neg d] at h'; exact h'
      have ih := nthT_ok this
      exact ⟨by omega, ih.2⟩
theorem cnt_mono {p : Nat → Bool} : ∀ {b a : Nat}, a ≤ b → cnt p a ≤ cnt p b
  | 0, a, h => by rw [show a = 0 from by omega]; exact Nat.le_refl _
  | b + 1, a, h => by
    by_cases c : a = b + 1
    · rw [c]; exact Nat.le_refl _
    · exact Nat.le_trans (cnt_mono (b := b) (by omega)) (Nat.le_add_right _ _)
theorem std_eq {h : Hp} {n : Nat} (hn : h 31 0 = nI n) (h8 : n ≤ 8) : f_X12_standing h = some (orTo (upS (h 31)) n) := m_standing hn h8
theorem drV_nI (s : Int32) : ∃ k, k < 32768 ∧ drV s = nI k := pk_andE (shr s 16) (m := 32767) 15 (by decide)
theorem m_drawn {h : Hp} {d : Nat} (h0 : 0 < d) (hd : d < 2 ^ 31) : f_X12_drawn (nI d) h = some (rem (drV (drS (h 31 9))) (nI d), up1 h 31 9 (drS (h 31 9))) := by
  unfold f_X12_drawn
  have hne : ¬ nI d = 0 := fun q => by
    rw [show (0 : Int32) = nI 0 from rfl, nI_eq hd (by decide)] at q
    omega
  rw [bnd_eq, gdT hne]
  rw [show up1 h 31 9 (1103515245 * h 31 9 + 12345) = up1 h 31 9 (drS (h 31 9)) from rfl, up1_same]
  rfl
theorem m_wanders {h : Hp} {n m p : Nat} (g : GdN n m (h 31)) (hp : p < 6) : f_X12_wanders (nI p) h = some (upA h 31 (wanW n p (h 31))) := by
  have hn := g.1
  have h8 := g.2.1
  unfold f_X12_wanders
  rw [std_eq hn h8, obS, m_ofPerson0 hp, obS]
  unfold wanW
  by_cases c : h 31 (114 + 3 * p) = -1
  · rw [if_pos c, if_pos (show atR (h 31) p = -1 from c), upA_self]
  · rw [if_neg c, if_neg (show ¬ atR (h 31) p = -1 from c), show (100 : Int32) = nI 100 from by decide, m_drawn (by decide) (by decide), obS]
    have r6 : (up1 h 31 9 (drS (h 31 9))) 31 6 = h 31 6 := by rw [up1_at, upd_ob (by decide)]
    show (if rem (drV (drS (h 31 9))) (nI 100) < (up1 h 31 9 (drS (h 31 9))) 31 6 then _ else _) = _
    rw [r6, show nI 100 = (100 : Int32) from by decide]
    by_cases d : rem (drV (drS (h 31 9))) 100 < h 31 6
    · rw [if_pos d, if_pos d]
      by_cases z : cnt (upS (h 31)) n = 0
      · have z2 : orTo (upS (h 31)) n = 0 := (orTo_0 (by omega)).mpr fun k hk => by
          cases u : upS (h 31) k
          · rfl
          · have : cnt (upS (h 31)) (k + 1) ≤ cnt (upS (h 31)) n := cnt_mono hk
            rw [show cnt (upS (h 31)) (k + 1) = cnt (upS (h 31)) k + (if upS (h 31) k then 1 else 0) from rfl, u, ttt] at this
            omega
        rw [if_pos z, if_pos z2]; rfl
      · have z2 : ¬ orTo (upS (h 31)) n = 0 := fun q => z (by
          have := (orTo_0 (by omega)).mp q
          rw [cnt_congr (q := fun _ => false) n this]
          have : ∀ n, cnt (fun _ => false) n = 0 := fun n => by
            induction n with
            | zero => rfl
            | succ n ih => show cnt (fun _ => false) n + 0 = 0; rw [ih]
          exact this n)
        rw [if_neg z, if_neg z2]
        have bc : f_J6_bitCount_0f7a4 (orTo (upS (h 31)) n) (up1 h 31 9 (drS (h 31 9))) = nI (cnt (upS (h 31)) n) := by
          rw [orTo_8 h8, bcount8]
          congr 1
          have : ∀ N, n ≤ N → cnt (fun i => decide (i < n) && upS (h 31) i) N = cnt (upS (h 31)) n := by
            intro N
            induction N with
            | zero => intro hN; rw [show n = 0 from by omega]; rfl
            | succ N ih =>
              intro hN
              by_cases x : n = N + 1
              · subst x
                exact cnt_congr _ fun k hk => by rw [decide_eq_true hk, Bool.true_and]
              · show cnt _ N + (if (decide (N < n) && upS (h 31) N) = true then 1 else 0) = _
                rw [ih (by omega), decide_eq_false (by omega), Bool.false_and, tff]; rfl
          exact this 8 h8
        have le := cnt_le (upS (h 31)) n
        rw [bc, m_drawn (by omega) (by omega), obS]
        dsimp only
        have r9 : (up1 h 31 9 (drS (h 31 9))) 31 9 = drS (h 31 9) := up1_same
        obtain ⟨k, hk, ek⟩ := drV_nI (drS (drS (h 31 9)))
        rw [r9, ek, zrm (by omega) (by omega) (by omega), nI_clamp (by omega)]
        obtain ⟨T1, T2, T3⟩ := nthT_ok (p := upS (h 31)) (n := n) (x := k % cnt (upS (h 31)) n) (Nat.mod_lt _ (by omega))
        generalize nthT (upS (h 31)) n (k % cnt (upS (h 31)) n) = T at T1 T2 T3
        have xl : k % cnt (upS (h 31)) n < 9 := by
          have := Nat.mod_lt k (show 0 < cnt (upS (h 31)) n by omega)
          omega
        generalize k % cnt (upS (h 31)) n = x at T3 xl
        have up2 : up1 (up1 h 31 9 (drS (h 31 9))) 31 9 (drS (drS (h 31 9))) = up1 h 31 9 (drS (drS (h 31 9))) := by
          unfold up1
          rw [upA_at, upA_upA]
          congr 1
          funext a
          unfold upd
          by_cases y : a = 9
          · rw [if_pos y, if_pos y]
          · rw [if_neg y, if_neg y, if_neg y]
        rw [up2]
        have Q := loop0 (S_X12_wanders_48 (nI p) (orTo (upS (h 31)) n)) (fun _ _ _ => none) (fun j q => q (nI (x - cnt (upS (h 31)) j)) (nI j) (up1 h 31 9 (drS (drS (h 31 9))))) T
          (some (upA h 31 (upd (upd (h 31) 9 (drS (drS (h 31 9)))) (114 + 3 * p) (nI T)))) (by omega) (fun j hj q => ?_) (fun q => ?_)
        · exact Q
        · have tj : tb (orTo (upS (h 31)) n) j = upS (h 31) j := by
            rw [orTo_tb _ _ (by omega) _ (by omega), decide_eq_true (by omega), Bool.true_and]
          have mono : cnt (upS (h 31)) (j + 1) ≤ cnt (upS (h 31)) T := cnt_mono hj
          rw [show cnt (upS (h 31)) (j + 1) = cnt (upS (h 31)) j + (if upS (h 31) j then 1 else 0) from rfl] at mono
          show S_X12_wanders_48 (nI p) (orTo (upS (h 31)) n) q (nI (x - cnt (upS (h 31)) j)) (nI j) _ = q (nI (x - (cnt (upS (h 31)) j + (if upS (h 31) j then 1 else 0)))) (nI (j + 1)) _
          unfold S_X12_wanders_48 F_X12_wanders_61 F_X12_wanders_76
          rw [m_has, hasB_tb (by omega), tj]
          cases u : upS (h 31) j
          · rw [tff, tff, tff, Int32.sub_zero, nI_1]; rfl
          · rw [u, ttt] at mono
            have l0 : (0 < nI (x - cnt (upS (h 31)) j)) = True := by rw [zp0 (by omega)]; exact eq_true (by omega)
            rw [ttt, ttt, ttt]
            simp only [l0, tT]
            rw [zprs (by omega), nI_1]
            congr 2
        · have tj : tb (orTo (upS (h 31)) n) T = true := by
            rw [orTo_tb _ _ (by omega) _ (by omega), decide_eq_true T1, Bool.true_and, T2]
          show S_X12_wanders_48 (nI p) (orTo (upS (h 31)) n) q (nI (x - cnt (upS (h 31)) T)) (nI T) _ = _
          unfold S_X12_wanders_48
          rw [m_has, hasB_tb (by omega), tj, ttt, T3, Nat.sub_self, if_neg (by decide), show ∀ g, f_X12_personAt (nI p) 0 g = nI (114 + 3 * p) from fun g => m_personAtI (w := 0), gdT (nI_ix (by omega) (by omega)), bnd_eq, nI_clamp (by omega)]
          unfold up1
          rw [upA_at, upA_upA]
    · rw [if_neg d, if_neg d]; rfl
theorem wan_ob {n p k : Nat} {w : Row} (h : k ≠ 9) (h2 : k ≠ 114 + 3 * p) : wanW n p w k = w k := by
  unfold wanW
  split
  · rfl
  · split
    · split
      · rw [upd_ob h]
      · rw [upd_ob h2, upd_ob h]
    · rw [upd_ob h]
theorem wans_ob {n k j : Nat} {w : Row} (hj : j ≤ 6) (h : k < 9 ∨ (9 < k ∧ k < 114) ∨ 132 ≤ k) : fldN (wanW n) w j k = w k :=
  fldN_ind (fun _ (v : Row) => v k = w k) rfl j fun i v hi hv => by rw [wan_ob (by omega) (by omega), hv]
theorem tick_ob {w : Row} {k : Nat} (h : k ≠ 4) (h2 : k ≠ 5) : tickW w k = w k := by
  unfold tickW
  split
  · rw [upd_ob h2, upd_ob h]
  · rw [upd_ob h]
theorem ag_GdN {n m j : Nat} {e : Int32} {w : Row} (hj : j ≤ 8) (g : GdN n m w) : GdN n m (fldN (ageW n m e) w j) :=
  GdN_congr (fun k hk => ag_ob hj (by omega)) g
theorem wan_GdN {n m j : Nat} {w : Row} (hj : j ≤ 6) (g : GdN n m w) : GdN n m (fldN (wanW n) w j) :=
  GdN_congr (fun k hk => wans_ob hj (by omega)) g
theorem tick_GdN {n m : Nat} {w : Row} (g : GdN n m w) : GdN n m (tickW w) :=
  GdN_congr (fun k hk => tick_ob (by omega) (by omega)) g
theorem m_oe61 {x : Int32} {h : Hp} : F_X12_oneEvening_61 x h = some (f_J6_bitCount_0f7a4 x h, upA h 31 (tickW (h 31))) := by
  unfold F_X12_oneEvening_61 F_X12_oneEvening_109 tickW
  rw [bnd_eq]
  have r4 : (up1 h 31 4 (h 31 4 + 1)) 31 4 = h 31 4 + 1 := up1_same
  rw [r4]
  by_cases c : h 31 4 + 1 = 7
  · rw [if_pos c, if_pos c, bnd_eq, bnd_eq]
    unfold up1
    rw [upA_at, upA_upA, upA_at, upA_upA]
    have e5 : upd (upd (upd (h 31) 4 (h 31 4 + 1)) 4 0) 5 (imin 9999 (upd (upd (h 31) 4 (h 31 4 + 1)) 4 0 5 + 1)) = upd (upd (h 31) 4 0) 5 (imin 9999 (h 31 5 + 1)) := by
      funext k
      unfold upd
      by_cases z : k = 5
      · rw [if_pos z, if_pos z, if_neg (by decide), if_neg (by decide)]
      · rw [if_neg z, if_neg z]
        by_cases y : k = 4
        · rw [if_pos y, if_pos y]
        · rw [if_neg y, if_neg y, if_neg y]
    rw [e5]
    rfl
  · rw [if_neg c, if_neg c]; rfl
theorem m_oe38 {calm : Bool} {x : Int32} {h : Hp} {n m : Nat} (g : GdN n m (h 31)) :
    F_X12_oneEvening_38 (bI calm) x FU 0 h = some (f_J6_bitCount_0f7a4 x h, upA h 31 (tickW (if calm then h 31 else fldN (wanW n) (h 31) m))) := by
  have h6 := g.2.2.2.1
  cases calm
  · have Q := loop0 (S_X12_oneEvening_38 (bI false) x) (fun _ _ => none) (fun j q => q (nI j) (upA h 31 (fldN (wanW n) (h 31) j))) m
      (some (f_J6_bitCount_0f7a4 x h, upA h 31 (tickW (fldN (wanW n) (h 31) m)))) (by omega) (fun j hj q => ?_) (fun q => ?_)
    · rw [fldN_0, upA_self] at Q
      exact Q
    · have gj := wan_GdN (j := j) (by omega) g
      show S_X12_oneEvening_38 (bI false) x q (nI j) _ = q (nI (j + 1)) (upA h 31 (fldN (wanW n) (h 31) (j + 1)))
      unfold S_X12_oneEvening_38
      rw [m_people, upA_at, itP gj.2.2.1 hj (by omega), if_pos (show bI false = 0 from rfl), m_wanders (n := n) (m := m) (by rw [upA_at]; exact gj) (by omega), obS, upA_at, upA_upA, nI_1, fldN_s]
    · have gj := wan_GdN (j := m) (by omega) g
      show S_X12_oneEvening_38 (bI false) x q (nI m) _ = _
      unfold S_X12_oneEvening_38
      rw [m_people, upA_at, itN gj.2.2.1 (by omega), m_oe61, upA_at, upA_upA]
      rfl
  · have Q := loop0 (S_X12_oneEvening_38 (bI true) x) (fun _ _ => none) (fun j q => q 0 h) 0
      (some (f_J6_bitCount_0f7a4 x h, upA h 31 (tickW (h 31)))) (by omega) (fun j hj q => absurd hj (Nat.not_lt_zero j)) (fun q => ?_)
    · exact Q
    · show S_X12_oneEvening_38 (bI true) x q 0 h = _
      unfold S_X12_oneEvening_38
      rw [if_neg (show ¬ bI true = 0 from by decide), m_oe61]
      split <;> rfl
/-- the rows of a fall's heap, other rows of work apart -/
theorem m_oe17 {x1 x2 : Int32} {h : Hp} {n m : Nat} (hl : laid n h) (g : GdN n m (h 31)) :
    ∃ v, F_X12_oneEvening_17 x1 x2 FU 0 h = F_X12_oneEvening_38 x1 x2 FU 0 (upA (upA h 31 (agW n m (h 30 20) (h 31))) 40 v) := by
  have h8 := g.2.1
  have h6 := g.2.2.2.1
  have Q := loopW (S_X12_oneEvening_17 x1 x2) (fun _ _ => none) (fun q (s : Nat × Row) => q (nI s.1) (upA (upA h 31 (fldN (ageW n m (h 30 20)) (h 31) s.1)) 40 s.2)) n (fun j s => s.1 = j)
    (fun r => ∃ v, r = F_X12_oneEvening_38 x1 x2 FU 0 (upA (upA h 31 (agW n m (h 30 20) (h 31))) 40 v)) (by omega) (fun j s hj hs => ?_) (fun s hs => ?_) (0, h 40) rfl
  · obtain ⟨v, e⟩ := Q
    refine ⟨v, ?_⟩
    rw [← e]
    show _ = F_X12_oneEvening_17 x1 x2 FU 0 (upA (upA h 31 (h 31)) 40 (h 40))
    rw [upA_self, upA_self]
  · obtain ⟨j', v⟩ := s
    obtain rfl : j' = j := hs
    obtain ⟨T, hT⟩ : ∃ T, fldN (ageW n m (h 30 20)) (h 31) j' = T := ⟨_, rfl⟩
    have gT : GdN n m T := by rw [← hT]; exact ag_GdN (by omega) g
    have cT : SC (h 31) T := fun k hk => by rw [← hT]; exact ag_ob (by omega) (by omega)
    have wT : ∀ j, j < 8 → wtR T j = wtR (h 31) j := fun j hj => by
      unfold wtR; rw [← hT]; exact ag_ob (by omega) (by omega)
    have hh : (upA (upA h 31 T) 40 v) 31 = T := by rw [upA_31, upA_at]
    have h30 : (upA (upA h 31 T) 40 v) 30 = h 30 := by rw [upA_30, upA_ob (by decide)]
    have lT : laid n (upA (upA h 31 T) 40 v) := by
      intro i hi
      rw [hh, upA_ob (by decide), upA_ob (by decide), pr_congr h8 cT wT]
      exact hl i hi
    obtain ⟨v', e⟩ := m_ages (h := upA (upA h 31 T) 40 v) (n := n) (m := m) (i := j') lT (by rw [hh]; exact gT) (by omega)
    rw [hh, h30, upA_comm (k := 40) (by decide), upA_upA, upA_upA] at e
    refine ⟨(j' + 1, v'), rfl, fun q => ?_⟩
    show S_X12_oneEvening_17 x1 x2 q (nI j') (upA (upA h 31 (fldN (ageW n m (h 30 20)) (h 31) j')) 40 v) = q (nI (j' + 1)) (upA (upA h 31 (fldN (ageW n m (h 30 20)) (h 31) (j' + 1))) 40 v')
    rw [fldN_s, hT]
    unfold S_X12_oneEvening_17
    rw [m_houses, hh, itP gT.1 hj (by omega), e, obS, nI_1]
  · obtain ⟨j', v⟩ := s
    obtain rfl : n = j' := hs.symm
    refine ⟨_, ⟨v, rfl⟩, fun q => ?_⟩
    show S_X12_oneEvening_17 x1 x2 q (nI n) (upA (upA h 31 (fldN (ageW n m (h 30 20)) (h 31) n)) 40 v) = _
    unfold S_X12_oneEvening_17
    rw [m_houses, upA_31, upA_at, itN (ag_GdN h8 g).1 (by omega)]
    rfl
theorem bc_h (x : Int32) (h h' : Hp) : f_J6_bitCount_0f7a4 x h = f_J6_bitCount_0f7a4 x h' := rfl
theorem m_oneEvening {h : Hp} {n m : Nat} {calm : Bool} (g : GdN n m (h 31)) (hp : h 30 21 = 0) :
    ∃ h', f_X12_oneEvening (bI calm) h = some (f_J6_bitCount_0f7a4 (fallW n m (h 31 4) 0 (h 31)).1 h, h') ∧ h' 31 = evW calm n m (h 31) ∧ h' 30 = upd (upd (h 30) 20 (h 31 4)) 22 (nI (fallW n m (h 31 4) 0 (h 31)).2.1) ∧ EF h h' := by
  obtain ⟨h1, e1, w1, r1, f1, _⟩ := m_allFall (h := h) (n := n) (m := m) (e := h 31 4) g
  rw [hp] at e1 w1 r1
  have g1 : GdN n m (h1 31) := by rw [w1]; exact fl_GdN g
  obtain ⟨h2, e2, f2, l2⟩ := m_laysE g1.1 g1.2.1
  have w2 : h2 31 = h1 31 := f2 31 (by decide) (by decide) (by decide)
  have r2 : h2 30 = h1 30 := f2 30 (by decide) (by decide) (by decide)
  have a2 : h2 30 20 = h 31 4 := by rw [r2, r1, upd_ob (by decide), upd_at]
  obtain ⟨v, e3⟩ := m_oe17 (x1 := bI calm) (x2 := (fallW n m (h 31 4) 0 (h 31)).1) l2 (by rw [w2]; exact g1)
  rw [a2, w2] at e3
  generalize hH : upA (upA h2 31 (agW n m (h 31 4) (h1 31))) 40 v = H at e3
  have H31 : H 31 = agW n m (h 31 4) (h1 31) := by rw [← hH, upA_31, upA_at]
  have H30 : H 30 = h1 30 := by rw [← hH, upA_30, upA_ob (by decide), r2]
  have gH : GdN n m (H 31) := by rw [H31]; exact ag_GdN g1.2.1 g1
  refine ⟨upA H 31 (tickW (if calm then H 31 else fldN (wanW n) (H 31) m)), ?_, ?_, ?_, ?_⟩
  · unfold f_X12_oneEvening
    rw [e1, obS]
    show Option.bind (f_X12_lays h1) _ = _
    rw [e2, obS]
    show F_X12_oneEvening_17 (bI calm) (fallW n m (h 31 4) 0 (h 31)).1 FU 0 h2 = _
    rw [e3, m_oe38 gH]
    rfl
  · rw [upA_at, H31, w1]; rfl
  · rw [upA_ob (by decide), H30, r1]
  · refine EF_trans ?_ EF_31
    rw [← hH]
    exact EF_trans (EF_trans (EF_trans f1 (ES_EF f2)) EF_31) (ES_EF ES_40)
theorem ev_GdN {n m : Nat} {calm : Bool} {w : Row} (g : GdN n m w) : GdN n m (evW calm n m w) := by
  unfold evW
  refine tick_GdN ?_
  have g1 := ag_GdN (j := n) (e := w 4) g.2.1 (fl_GdN (e := w 4) (pp := 0) g)
  cases calm
  · exact wan_GdN g.2.2.2.1 g1
  · exact g1
theorem go_GdN {n m : Nat} {calm : Bool} {w : Row} (g : GdN n m w) : ∀ j, GdN n m (goW calm n m w j)
  | 0 => g
  | j + 1 => ev_GdN (go_GdN g j)
/-- rows 30 but for asked and turns -/
def E30 (h h' : Hp) : Prop := ∀ i, i ≠ 20 → i ≠ 22 → h' 30 i = h 30 i
theorem m_goesOn {h : Hp} {n m N : Nat} {calm : Bool} (g : GdN n m (h 31)) (hp : h 30 21 = 0) (hN : N < 1000) :
    ∃ h', f_X12_goesOn (nI N) (bI calm) h = some (sumTo (fun j => f_J6_bitCount_0f7a4 (fallW n m (goW calm n m (h 31) j 4) 0 (goW calm n m (h 31) j)).1 h) N, h') ∧ h' 31 = goW calm n m (h 31) N ∧ E30 h h' ∧ EF h h' := by
  have Q := loopW (S_X12_goesOn_5 (nI N) (bI calm)) (fun _ _ _ => none) (fun q (s : Nat × Hp) => q (sumTo (fun j => f_J6_bitCount_0f7a4 (fallW n m (goW calm n m (h 31) j 4) 0 (goW calm n m (h 31) j)).1 h) s.1) (nI s.1) s.2) N
    (fun j s => s.1 = j ∧ s.2 31 = goW calm n m (h 31) j ∧ E30 h s.2 ∧ EF h s.2)
    (fun r => ∃ h', r = some (sumTo (fun j => f_J6_bitCount_0f7a4 (fallW n m (goW calm n m (h 31) j 4) 0 (goW calm n m (h 31) j)).1 h) N, h') ∧ h' 31 = goW calm n m (h 31) N ∧ E30 h h' ∧ EF h h') (by omega) (fun j s hj hs => ?_) (fun s hs => ?_) (0, h) ⟨rfl, rfl, fun _ _ _ => rfl, EF_refl h⟩
  · exact Q
  · obtain ⟨j', u⟩ := s
    dsimp only at hs
    obtain ⟨hj', w1, r1, f1⟩ := hs
    obtain rfl : j' = j := hj'
    have w1' : u 31 = goW calm n m (h 31) j' := w1
    obtain ⟨h2, e2, w2, r2, f2⟩ := m_oneEvening (h := u) (n := n) (m := m) (calm := calm) (by rw [w1']; exact go_GdN g j') (by have := r1 21 (by decide) (by decide); rw [this]; exact hp)
    refine ⟨(j' + 1, h2), ⟨rfl, ?_, fun i a b => ?_, EF_trans f1 f2⟩, fun q => ?_⟩
    · show h2 31 = evW calm n m (goW calm n m (h 31) j')
      rw [w2, w1']
    · show h2 30 i = h 30 i
      rw [r2, upd_ob b, upd_ob a]
      exact r1 i a b
    · show S_X12_goesOn_5 (nI N) (bI calm) q _ (nI j') u = q (sumTo _ j' + _) (nI (j' + 1)) h2
      unfold S_X12_goesOn_5
      rw [itP rfl hj (by omega), e2, obS, bnd_eq, nI_1, w1']
      rfl
  · obtain ⟨j', u⟩ := s
    obtain ⟨hj', w1, r1, f1⟩ := hs
    obtain rfl : N = j' := hj'.symm
    refine ⟨_, ⟨u, rfl, w1, r1, f1⟩, fun q => ?_⟩
    show S_X12_goesOn_5 (nI N) (bI calm) q _ (nI N) u = _
    unfold S_X12_goesOn_5
    rw [itN rfl (by omega)]
