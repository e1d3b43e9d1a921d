/-! LAYER 4. order, means: the class's search -/
section SE
variable {n m E : Nat} {w : Row} {told : Nat → Bool}
theorem run_law {path : Nat → Nat} {x : Nat} (h8 : n ≤ 8) (hm : m ≤ 6) (hx : x = 3 ∨ 492 ≤ x) : ∀ j, (∀ i, i < j → path i < 8) → (runO n m w path j).1 x = w x
  | 0, _ => rfl
  | j + 1, h => by
    have ih := run_law h8 hm hx j (fun i hi => h i (by omega))
    show (stO n m j (path j) (runO n m w path j)).1 x = w x
    unfold stO
    split
    · exact ih
    · show (fallW n m _ 0 _).2.2 x = w x
      unfold fallW
      rw [fl_ob h8 hm (by omega), gone_ob (h j (by omega)) hm (by omega), ih]
def RBO (E : Nat) (u : Hp) (st : OS) : Prop := u 15 1 = st.1 ∧ (stSet st → ∀ p, p < E → u 16 p = nI (st.2 p))
def stepsO (n m : Nat) (w : Row) (E : Nat) (path : Nat → Nat) : Nat := (runO n m w path E).2
theorem st_1000 (h8 : n ≤ 8) (hE : E ≤ 5) (p : Nat → Nat) : stepsO n m w E p ≤ 1000 := by
  have := run_b (m := m) (w := w) (path := p) h8 E hE
  unfold stepsO
  omega
theorem c_keepO {path : Nat → Nat} {st : OS} {u : Hp} {s : Nat} (hE : E ≤ 5) (B : RBO E u st) (h18 : ∀ p, p < E → u 18 p = nI (path p)) : ∃ u', f_X8_keep (nI s) u = some u' ∧ RBO E u' (keepO E s path st) ∧ ∀ k, k ≠ 15 → k ≠ 16 → u' k = u k := by
  unfold f_X8_keep keepO
  rw [B.1]
  by_cases c : st.1 < nI s
  · rw [if_pos c, if_pos c, bnd_eq, bnd_eq]
    refine ⟨_, rfl, ⟨by rw [upA_ob (by decide), up1_same], fun _ p hp => ?_⟩, fun k a b => by rw [upA_ob b, up1_ob a]⟩
    rw [upA_at, up1_ob (by decide), cpy_in (by omega), h18 p hp]
    exact congrArg nI (show path p = cutP E path p from (if_pos hp).symm)
  · rw [if_neg c, if_neg c]
    exact ⟨u, rfl, B, fun _ _ _ => rfl⟩
theorem c_search (g : Gd n m w) (hE : E ≤ 5) (cE : cnt told 8 = E) (tu : ∀ x, x < 8 → told x = true → upB n w x = true) : ∀ k place path st u nn, place + k = E → vldP told path place → (∀ i, i < place → path i < n) →
    CV0 (340 + 16 * place) u n m (runO n m w path place).1 → LW (340 + 16 * place) u → LV 500 u w → (∀ p, p < place → u 18 p = nI (path p)) → RBO E u st → stOk st → k < nn →
    ∃ u', f_X8_search nn 500 (orTo (fun x => told x && !dsB path place x) 8) (nI place) (nI (runO n m w path place).2) u = some u' ∧ RBO E u' (CSO told (leafC E (stepsO n m w E)) k path place st) ∧
      (∀ j, (j < 4 ∨ 19 ≤ j) → ¬ (340 + 16 * (place + 1) ≤ j ∧ j ≤ 340 + 16 * 5 + 10) → j ≠ 507 → u' j = u j) ∧ ∀ p, p < place → u' 18 p = u 18 p
  | 0, place, path, st, u, nn, hP, v, hp, V, W, L, h18, B, o, hn => by
    obtain ⟨n', rfl⟩ : ∃ n', nn = n' + 1 := ⟨nn - 1, by omega⟩
    obtain rfl : place = E := by omega
    have e := cnt_sub_eq v.1 (by rw [v.2, cE])
    have z : orTo (fun x => told x && !dsB path place x) 8 = 0 := or0_8.mpr fun x hx => by rw [e x hx]; simp
    obtain ⟨u', e1, B1, f1⟩ := c_keepO (s := stepsO n m w place path) hE B h18
    refine ⟨u', ?_, B1, fun j a b c => f1 j (by omega) (by omega), fun p _ => by rw [f1 18 (by decide) (by decide)]⟩
    show b_X8_search _ 500 _ (nI place) (nI (runO n m w path place).2) u = _
    unfold b_X8_search
    rw [if_pos z, show (runO n m w path place).2 = stepsO n m w place path from rfl, e1, obS]
  | k + 1, place, path, st, u, nn, hP, v, hp, V, W, L, h18, B, o, hn => by
    obtain ⟨n', rfl⟩ : ∃ n', nn = n' + 1 := ⟨nn - 1, by omega⟩
    have h8 := g.1.2.1
    have h6 := g.1.2.2.2.1
    have gp := run_Gd (path := path) g place hp
    have s1000 : ∀ p, stepsO n m w E p ≤ 1000 := st_1000 h8 hE
    have nz : ¬ orTo (fun x => told x && !dsB path place x) 8 = 0 := fun q => by
      have z := or0_8.mp q
      have s : ∀ y, y < 8 → told y = true → dsB path place y = true := fun y hy t => by
        have := z y hy
        rw [t, Bool.true_and] at this
        simpa using this
      have := cnt_mo 8 s
      have := v.2
      omega
    have ex : (runO n m w path place).1 4 = nI ((runO n m w path place).1 4).toNatClampNeg ∧ ((runO n m w path place).1 4).toNatClampNeg ≤ 6 := by
      obtain ⟨e, he, ee⟩ := gp.2.2.2.2.1
      rw [ee, nI_clamp (by omega)]
      exact ⟨rfl, he⟩
    obtain ⟨e, he⟩ : ∃ e, ((runO n m w path place).1 4).toNatClampNeg = e := ⟨_, rfl⟩
    rw [he] at ex
    obtain ⟨ee, e6⟩ := ex
    obtain ⟨steps, hs⟩ : ∃ s, (runO n m w path place).2 = s := ⟨_, rfl⟩
    have Q := loopW (S_X8_search_57 (f_X8_search n') 500 (orTo (fun x => told x && !dsB path place x) 8) (nI place) (nI steps) (340 + 16 * place) (340 + 16 * (place + 1))) (fun _ _ => none) (fun q (s : Nat × Hp) => q (nI s.1) s.2) 8
      (fun j s => s.1 = j ∧ RBO E s.2 (fldN (fun h s => if told h && !dsB path place h then CSO told (leafC E (stepsO n m w E)) k (updP path place h) (place + 1) s else s) st j) ∧ stOk (fldN (fun h s => if told h && !dsB path place h then CSO told (leafC E (stepsO n m w E)) k (updP path place h) (place + 1) s else s) st j) ∧
        (∀ j, (j < 4 ∨ 19 ≤ j) → ¬ (340 + 16 * (place + 1) ≤ j ∧ j ≤ 340 + 16 * 5 + 10) → j ≠ 507 → s.2 j = u j) ∧ ∀ p, p < place → s.2 18 p = u 18 p)
      (fun r => ∃ u', r = some u' ∧ RBO E u' (CSO told (leafC E (stepsO n m w E)) (k + 1) path place st) ∧ (∀ j, (j < 4 ∨ 19 ≤ j) → ¬ (340 + 16 * (place + 1) ≤ j ∧ j ≤ 340 + 16 * 5 + 10) → j ≠ 507 → u' j = u j) ∧ ∀ p, p < place → u' 18 p = u 18 p) (by omega) (fun j s hj hs => ?_) (fun s hs => ?_) (0, u) ⟨rfl, B, o, fun _ _ _ _ => rfl, fun _ _ => rfl⟩
    · obtain ⟨u', q1, q2⟩ := Q
      refine ⟨u', ?_, q2⟩
      show b_X8_search (f_X8_search n') 500 _ (nI place) (nI (runO n m w path place).2) u = _
      unfold b_X8_search
      rw [if_neg nz, if_neg (nI_pos (by omega)), if_pos (show nI place < 5 from (nI_ltI (b := 5) (by omega) (by omega)).mpr (by omega)), nI_1, gdT (nI_ix (by omega) (by omega)), gdT (nI_ix (by omega) (by omega)), nI_clamp (by omega), nI_clamp (by omega), hs]
      exact q1
    · obtain ⟨j', x⟩ := s
      dsimp only at hs
      obtain ⟨hj', Bx, ox, fx, x18⟩ := hs
      obtain rfl : j' = j := hj'
      have st1 : fldN (fun h s => if told h && !dsB path place h then CSO told (leafC E (stepsO n m w E)) k (updP path place h) (place + 1) s else s) st (j' + 1) = if told j' && !dsB path place j' then CSO told (leafC E (stepsO n m w E)) k (updP path place j') (place + 1) (fldN (fun h s => if told h && !dsB path place h then CSO told (leafC E (stepsO n m w E)) k (updP path place h) (place + 1) s else s) st j') else fldN (fun h s => if told h && !dsB path place h then CSO told (leafC E (stepsO n m w E)) k (updP path place h) (place + 1) s else s) st j' := rfl
      generalize fldN (fun h s => if told h && !dsB path place h then CSO told (leafC E (stepsO n m w E)) k (updP path place h) (place + 1) s else s) st j' = stj at Bx ox st1
      rw [st1]
      have tbj : (shr (orTo (fun x => told x && !dsB path place x) 8) (nI j') &&& 1 = 1) = ((told j' && !dsB path place j') = true) := by rw [shr_tb (by omega), tb8 hj]
      by_cases c : (told j' && !dsB path place j') = true
      · have ⟨c1, c2⟩ := Bool.and_eq_true_iff.mp c
        have up0 := tu j' hj c1
        have jn := upB_lt up0
        have pl5 : place ≤ 4 := by omega
        -- the copy
        have Vx : CV0 (340 + 16 * place) x n m (runO n m w path place).1 := CV0_fr V fun k a b => fx k (by omega) (by omega) (by omega)
        have Wx : LW (340 + 16 * place) x := by
          obtain ⟨l, l1, l2⟩ := W
          exact ⟨l, l1, by rw [fx _ (by omega) (by omega) (by omega)]; exact l2⟩
        have Lx : LV 500 x w := LV_fr L fun k a b => fx k (by omega) (by omega) (by omega)
        obtain ⟨r, e1, p1⟩ := c_copyFrom (k0 := 340 + 16 * (place + 1)) (k1 := 340 + 16 * place) (h := x) (by omega)
        have f1 := CP_fr p1
        have V1 := CP_CV0 p1 h6 Vx
        have W1 := CP_LW p1 Wx
        have pathc : ∀ i, i < place → updP path place j' i = path i := fun i hi => if_neg (by omega)
        have pj : updP path place j' place = j' := if_pos rfl
        have runs : runO n m w (updP path place j') (place + 1) = stO n m place j' (runO n m w path place) := by
          show stO n m place (updP path place j' place) (runO n m w (updP path place j') place) = _
          rw [pj, run_congr pathc]
        -- the way on, once the fall is known
        have go : ∀ (y : Hp) (x9 : Nat), CV0 (340 + 16 * (place + 1)) y n m (runO n m w (updP path place j') (place + 1)).1 → LW (340 + 16 * (place + 1)) y → steps + place * x9 = (runO n m w (updP path place j') (place + 1)).2 →
            (∀ j, (j < 4 ∨ 15 ≤ j) → ¬ (340 + 16 * (place + 1) ≤ j ∧ j ≤ 340 + 16 * (place + 1) + 10) → j ≠ 507 → y j = x j) →
            ∃ x', (∀ q : Int32 → Hp → Option Hp, F_X8_search_120 (f_X8_search n') q 500 (orTo (fun x => told x && !dsB path place x) 8) (nI place) (nI steps) (340 + 16 * place) (340 + 16 * (place + 1)) (nI j') (nI x9) y = q (nI (j' + 1)) x') ∧
              RBO E x' (CSO told (leafC E (stepsO n m w E)) k (updP path place j') (place + 1) stj) ∧ (∀ j, (j < 4 ∨ 19 ≤ j) → ¬ (340 + 16 * (place + 1) ≤ j ∧ j ≤ 340 + 16 * 5 + 10) → j ≠ 507 → x' j = u j) ∧ ∀ p, p < place → x' 18 p = u 18 p := by
          intro y x9 Vy Wy es fy
          obtain ⟨y2, hy2⟩ : ∃ y2, up1 y 18 place (nI j') = y2 := ⟨_, rfl⟩
          have y2o : ∀ k, k ≠ 18 → y2 k = y k := fun k a => by rw [← hy2, up1_ob a]
          have y18 : ∀ p, y2 18 p = if p = place then nI j' else x 18 p := fun p => by
            rw [← hy2, up1_at]
            by_cases z : p = place
            · rw [z, upd_at, if_pos rfl]
            · rw [upd_ob z, if_neg z, fy 18 (by omega) (by omega) (by omega)]
          have L2 : LV 500 y2 w := LV_fr Lx fun k a b => by rw [y2o k (by omega), fy k (by omega) (by omega) (by omega)]
          have B2 : RBO E y2 stj := ⟨by rw [y2o 15 (by decide), fy 15 (by omega) (by omega) (by omega)]; exact Bx.1, fun q p hp => by rw [y2o 16 (by decide), fy 16 (by omega) (by omega) (by omega)]; exact Bx.2 q p hp⟩
          obtain ⟨x', e2, B3, f3, g3⟩ := c_search g hE cE tu k (place + 1) (updP path place j') stj y2 n' (by omega) (vld_s v hj c) (fun i hi => by
              by_cases z : i = place
              · rw [z, pj]; exact jn
              · rw [pathc i (by omega)]; exact hp i (by omega)) (CV0_fr Vy fun k a b => y2o k (by omega)) (by
              obtain ⟨l, l1, l2⟩ := Wy
              exact ⟨l, l1, by rw [y2o _ (by omega)]; exact l2⟩) L2 (fun p hp2 => by
              rw [y18]
              by_cases z : p = place
              · rw [if_pos z, z, pj]
              · rw [if_neg z, pathc p (by omega), x18 p (by omega), h18 p (by omega)]) B2 ox (by omega)
          refine ⟨x', fun q => ?_, B3, fun j a b d => ?_, fun p hp2 => ?_⟩
          · have es' : nI steps + nI place * nI x9 = nI (runO n m w (updP path place j') (place + 1)).2 := by rw [zmul, zadd, es]
            have ls : (fun x => (told x && !dsB path place x) && !decide (x = j')) = fun x => told x && !dsB (updP path place j') (place + 1) x := funext fun x => by
              rw [dsB_e, Bool.and_assoc, show decide (x = j') = decide (j' = x) from decide_eq_decide.mpr ⟨Eq.symm, Eq.symm⟩]
              cases dsB path place x <;> rfl
            unfold F_X8_search_120
            rw [gdT (nI_ix (by omega) (by omega)), bnd_eq, nI_clamp (by omega), hy2, shl_8 hj, orTo_dn (by omega), ls, nI_1, es', e2, obS, nI_1]
          · rw [f3 j a (by omega) d]
            by_cases z : 340 + 16 * (place + 1) ≤ j ∧ j ≤ 340 + 16 * (place + 1) + 10
            · exact absurd (show 340 + 16 * (place + 1) ≤ j ∧ j ≤ 340 + 16 * 5 + 10 from ⟨z.1, by omega⟩) b
            · rw [y2o j (by omega), fy j (by omega) z d, fx j a b d]
          · rw [g3 p (by omega), y18, if_neg (by omega), x18 p hp2]
        have upp : f_X1_isUp (340 + 16 * (place + 1)) (nI j') r = !falB (runO n m w path place).1 j' := by rw [c_isUp V1 h8 (by omega), up_fal jn]
        cases fj : falB (runO n m w path place).1 j'
        · obtain ⟨t, e2, V2, f2⟩ := c_takeDown V1 h8 h6 jn
          have g2 := gone_Gd jn gp
          have e4 : goneW j' m (runO n m w path place).1 4 = nI e := by rw [gone_4 gp jn, ee]
          have L2 : LV 500 t (goneW j' m (runO n m w path place).1) := LV_congr (LV_fr Lx fun k a b => by rw [f2 k (by omega) (by omega) (by omega), f1 k (by omega)]) (fun k hk => by rw [gone_ob (by omega) h6 (by omega)]; exact run_law h8 h6 hk place (fun i hi => by have := hp i hi; omega))
          have W2 : LW (340 + 16 * (place + 1)) t := by
            obtain ⟨l, l1, l2⟩ := W1
            exact ⟨l, l1, by rw [f2 _ (by omega) (by omega) (by omega)]; exact l2⟩
          obtain ⟨z, e3, V3, W3, _, _, _, f3⟩ := c_fall (c := 340 + 16 * (place + 1)) (r := 500) (e := e) (by omega) (Or.inl (by omega)) (by decide) g2 V2 W2 L2 (by omega)
          have rs : stO n m place j' (runO n m w path place) = ((fallW n m (nI e) 0 (goneW j' m (runO n m w path place).1)).2.2, steps + place * (1 + fcN n m (nI e) (goneW j' m (runO n m w path place).1))) := by
            unfold stO
            rw [fj, tff, ee, hs]
          obtain ⟨x', g1, g2', g3, g4⟩ := go z (1 + fcN n m (nI e) (goneW j' m (runO n m w path place).1)) (by rw [runs, rs]; exact V3) W3 (by rw [runs, rs]) (fun k a b d => by rw [f3 k (by omega) (by omega) (by omega), f2 k (by omega) (by omega) (by omega), f1 k (by omega)])
          refine ⟨(j' + 1, x'), ⟨rfl, by rw [c, ttt]; exact g2', by rw [c, ttt]; exact (cs_ok s1000 k _ _).1 _ ox, g3, g4⟩, fun q => ?_⟩
          show S_X8_search_57 (f_X8_search n') 500 (orTo (fun x => told x && !dsB path place x) 8) (nI place) (nI steps) (340 + 16 * place) (340 + 16 * (place + 1)) q (nI j') x = q (nI (j' + 1)) x'
          unfold S_X8_search_57
          rw [if_pos (show nI j' < 8 from (nI_ltI (b := 8) (by omega) (by omega)).mpr hj), if_pos (by rw [tbj]; exact c), e1, obS, upp, fj, Bool.not_false, ttt, e2, obS, V2.2.2.2.2.1, e4, e3, obS]
          dsimp only
          rw [bnd_eq, fc_bc g2.1, show (1 : Int32) + nI (fcN n m (nI e) (goneW j' m (runO n m w path place).1)) = nI (1 + fcN n m (nI e) (goneW j' m (runO n m w path place).1)) from zadd 1 _]
          exact g1 q
        · have rs : stO n m place j' (runO n m w path place) = runO n m w path place := by
            unfold stO
            rw [fj, ttt]
          obtain ⟨x', g1, g2', g3, g4⟩ := go r 0 (by rw [runs, rs]; exact V1) W1 (by rw [runs, rs, hs, Nat.mul_zero, Nat.add_zero]) (fun k a b d => f1 k (by omega))
          refine ⟨(j' + 1, x'), ⟨rfl, by rw [c, ttt]; exact g2', by rw [c, ttt]; exact (cs_ok s1000 k _ _).1 _ ox, g3, g4⟩, fun q => ?_⟩
          show S_X8_search_57 (f_X8_search n') 500 (orTo (fun x => told x && !dsB path place x) 8) (nI place) (nI steps) (340 + 16 * place) (340 + 16 * (place + 1)) q (nI j') x = q (nI (j' + 1)) x'
          unfold S_X8_search_57
          rw [if_pos (show nI j' < 8 from (nI_ltI (b := 8) (by omega) (by omega)).mpr hj), if_pos (by rw [tbj]; exact c), e1, obS, upp, fj, Bool.not_true, tff]
          exact g1 q
      · refine ⟨(j' + 1, x), ⟨rfl, by rw [if_neg c]; exact Bx, by rw [if_neg c]; exact ox, fx, x18⟩, fun q => ?_⟩
        show S_X8_search_57 (f_X8_search n') 500 (orTo (fun x => told x && !dsB path place x) 8) (nI place) (nI steps) (340 + 16 * place) (340 + 16 * (place + 1)) q (nI j') x = q (nI (j' + 1)) x
        unfold S_X8_search_57
        rw [if_pos (show nI j' < 8 from (nI_ltI (b := 8) (by omega) (by omega)).mpr hj), if_neg (by rw [tbj]; exact c), nI_1]
    · obtain ⟨j', x⟩ := s
      dsimp only at hs
      obtain ⟨hj', Bx, ox, fx, x18⟩ := hs
      obtain rfl : j' = 8 := hj'
      refine ⟨_, ⟨x, rfl, Bx, fx, x18⟩, fun q => ?_⟩
      show S_X8_search_57 (f_X8_search n') 500 (orTo (fun x => told x && !dsB path place x) 8) (nI place) (nI steps) (340 + 16 * place) (340 + 16 * (place + 1)) q (nI 8) x = _
      unfold S_X8_search_57
      rw [if_neg (show ¬ nI 8 < 8 by decide)]
end SE
def path0 : Nat → Nat := fun _ => 0
def bstO (n m E : Nat) (w : Row) (told : Nat → Bool) : OS := CSO told (leafC E (stepsO n m w E)) E path0 0 (-1, path0)
theorem c_solveO {n m E : Nat} {h : Hp} {told : Nat → Bool} (N : NOW n m h) (hE : E ≤ 5) (cE : cnt told 8 = E) (tu : ∀ x, x < 8 → told x = true → upB n (h 31) x = true) :
    ∃ u, f_X8_solve 100 500 (orTo told 8) h = some u ∧ u 15 1 = (bstO n m E (h 31) told).1 ∧ (∀ p, p < E → u 16 p = nI ((bstO n m E (h 31) told).2 p)) ∧ stSet (bstO n m E (h 31) told) ∧ KC h u := by
  have g := N.1
  have h8 := g.1.2.1
  have h6 := g.1.2.2.2.1
  have cn0 : cnt (dsB path0 0) 8 = 0 := cnt_ext (n := 0) 8 (Nat.zero_le _) fun _ _ _ => rfl
  have v0 : vldP told path0 0 := ⟨fun x _ q => Bool.noConfusion (show false = true from q), cn0⟩
  have set : stSet (bstO n m E (h 31) told) := cs_set (st_1000 h8 hE) cE E path0 0 (by omega) v0 _ (Or.inl rfl)
  obtain ⟨r, hr⟩ : ∃ r, up1 h 15 1 (-1) = r := ⟨_, rfl⟩
  have ro : ∀ k, k ≠ 15 → r k = h k := fun k a => by rw [← hr, up1_ob a]
  obtain ⟨s, e1, p1⟩ := c_copyFrom (k0 := 340) (k1 := 100) (h := r) (by omega)
  have f1 := CP_fr p1
  have V1 := CP_CV0 p1 h6 (CV0_fr N.2.1 fun k a b => ro k (by omega))
  have W1 : LW 340 s := CP_LW p1 (by
    obtain ⟨l, l1, l2⟩ := LG_LW N.2.2.1
    exact ⟨l, l1, by rw [ro _ (by decide)]; exact l2⟩)
  have neg : ¬ stSet ((-1, path0) : OS) := fun ⟨x, hx, e⟩ => (zem (by omega)).mp e.symm
  obtain ⟨u, e2, B, f2, _⟩ := c_search (w := h 31) g hE cE tu E 0 path0 (-1, path0) s 8 (by omega) v0 (fun i hi => absurd hi (Nat.not_lt_zero i)) V1 W1 (LV_fr N.2.2.2 fun k a b => by rw [f1 k (by omega), ro k (by omega)]) (fun p hp => absurd hp (Nat.not_lt_zero p)) ⟨by rw [f1 15 (by omega), ← hr, up1_same], fun q => absurd q neg⟩ (Or.inl rfl) (by omega)
  have t0 : (fun x => told x && !dsB path0 0 x) = told := funext fun x => Bool.and_true _
  rw [t0] at e2
  refine ⟨u, ?_, B.1, B.2 set, set, fun k hk => ?_⟩
  · unfold f_X8_solve
    rw [bnd_eq, hr, e1, obS]
    have e3 : f_X8_search 8 500 (orTo told 8) 0 0 s = some u := e2
    rw [e3, obS]
  · rw [f2 k (by omega) (by omega) (by omega), f1 k (by omega), ro k (by omega)]
