/-! LAYER 4. The class's Law r shows the law of the row w -/
def ccd (c : Nat) : Nat := if c = 10 then 11 else if c = 11 then 12 else if c = 12 then 13 else if c = 13 then 10 else c
def LV (r : Nat) (h : Hp) (w : Row) : Prop :=
  (if w 3 = 1 then h r 8 = w 492 else h r 8 = -1) ∧
  ∀ l, l < lnW w → h (r + 1) l = w (493 + 4 * l) ∧ h (r + 2) l = w (493 + 4 * l + 1) ∧ h (r + 3) l = w (493 + 4 * l + 2) ∧ h (r + 4) l = w (493 + 4 * l + 3) ∧
    ∀ j, fromW w l ≤ j → j < toW w l → h (r + 5) j = nI (ccd (cdW w j)) ∧ (cdW w j = 9 → h (r + 6) j = nmW w j)
theorem LV_fr {r : Nat} {h h' : Hp} {w : Row} (H : LV r h w) (f : ∀ k, r ≤ k → k ≤ r + 6 → h' k = h k) : LV r h' w := by
  unfold LV at H ⊢
  rw [f r (by omega) (by omega), f (r + 1) (by omega) (by omega), f (r + 2) (by omega) (by omega), f (r + 3) (by omega) (by omega), f (r + 4) (by omega) (by omega), f (r + 5) (by omega) (by omega), f (r + 6) (by omega) (by omega)]
  exact H
theorem LV_congr {r : Nat} {h : Hp} {w w' : Row} (H : LV r h w) (hc : ∀ k, (k = 3 ∨ 492 ≤ k) → w' k = w k) : LV r h w' := by
  have e1 : cdW w' = cdW w := by funext j; unfold cdW; rw [hc _ (by omega)]
  have e2 : nmW w' = nmW w := by funext j; unfold nmW; rw [hc _ (by omega)]
  have e3 : fromW w' = fromW w := by funext j; unfold fromW; rw [hc _ (by omega)]
  have e4 : toW w' = toW w := by funext j; unfold toW; rw [hc _ (by omega)]
  have e5 : lnW w' = lnW w := (law_congr hc (fun _ => 0) 0).2
  unfold LV at H ⊢
  rw [e1, e2, e3, e4, e5, hc 3 (by omega), hc 492 (by omega)]
  refine ⟨H.1, fun l hl => ?_⟩
  rw [hc (493 + 4 * l) (by omega), hc (493 + 4 * l + 1) (by omega), hc (493 + 4 * l + 2) (by omega), hc (493 + 4 * l + 3) (by omega)]
  exact H.2 l hl
/-- values of a typed stack: where a condition stands, 0 or 1 -/
def tyV : List Bool → Row → Prop
  | [], _ => True
  | b :: s, v => (b = true → v s.length = 0 ∨ v s.length = 1) ∧ tyV s v
theorem tyV_upd {v : Row} {x : Int32} {k : Nat} : ∀ {s : List Bool}, s.length ≤ k → tyV s v → tyV s (upd v k x)
  | [], _, _ => trivial
  | b :: s, hk, h => by
    have hk' : s.length + 1 ≤ k := hk
    exact ⟨fun hb => by rw [upd_ob (by omega)]; exact h.1 hb, tyV_upd (s := s) (by omega) h.2⟩
theorem or01 {x y : Int32} (hx : x = 0 ∨ x = 1) (hy : y = 0 ∨ y = 1) : jnM 14 x y = x &&& y ∧ jnM 15 x y = x ||| y := by
  rcases hx with rfl | rfl <;> rcases hy with rfl | rfl <;> exact ⟨by decide, by decide⟩
theorem bI01 (b : Bool) : bI b = 0 ∨ bI b = 1 := by cases b; exact Or.inl rfl; exact Or.inr rfl
theorem fc01 {n m i : Nat} {w : Row} {e : Int32} {c : Nat} (h5 : 5 < c) (h8 : c ≤ 8) : fcW n m w e i c = 0 ∨ fcW n m w e i c = 1 := by
  have k : c = 6 ∨ c = 7 ∨ c = 8 := by omega
  rcases k with rfl | rfl | rfl
  · exact bI01 _
  · exact bI01 _
  · exact bI01 _
theorem tyS_inv {c : Nat} {s s' : List Bool} (hc : c ≤ 15) (h : tyS c s = some s') :
    ((c ≤ 5 ∨ c = 9) ∧ s' = false :: s) ∨ ((5 < c ∧ c ≤ 8) ∧ s' = true :: s) ∨ (c = 13 ∧ ∃ r, s = true :: r ∧ s' = true :: r) ∨ (c = 10 ∧ ∃ r, s = false :: false :: r ∧ s' = false :: r) ∨
    ((c = 11 ∨ c = 12) ∧ ∃ r, s = false :: false :: r ∧ s' = true :: r) ∨ ((c = 14 ∨ c = 15) ∧ ∃ r, s = true :: true :: r ∧ s' = true :: r) := by
  unfold tyS at h
  by_cases k1 : c ≤ 5 ∨ c = 9
  · rw [if_pos k1] at h; cases h; exact Or.inl ⟨k1, rfl⟩
  · rw [if_neg k1] at h
    by_cases k2 : c ≤ 8
    · rw [if_pos k2] at h; cases h; exact Or.inr (Or.inl ⟨by omega, rfl⟩)
    · rw [if_neg k2] at h
      by_cases k3 : c = 13
      · rw [if_pos k3] at h
        refine Or.inr (Or.inr (Or.inl ⟨k3, ?_⟩))
        rcases s with _ | ⟨_ | _, r⟩
        · cases h
        · cases h
        · cases h; exact ⟨r, rfl, rfl⟩
      · rw [if_neg k3] at h
        by_cases k4 : c = 10
        · rw [if_pos k4] at h
          refine Or.inr (Or.inr (Or.inr (Or.inl ⟨k4, ?_⟩)))
          rcases s with _ | ⟨_ | _, _ | ⟨_ | _, r⟩⟩
          all_goals first | (cases h; done) | (cases h; exact ⟨r, rfl, rfl⟩)
        · rw [if_neg k4] at h
          by_cases k5 : c = 11 ∨ c = 12
          · rw [if_pos k5] at h
            refine Or.inr (Or.inr (Or.inr (Or.inr (Or.inl ⟨k5, ?_⟩))))
            rcases s with _ | ⟨_ | _, _ | ⟨_ | _, r⟩⟩
            all_goals first | (cases h; done) | (cases h; exact ⟨r, rfl, rfl⟩)
          · rw [if_neg k5] at h
            refine Or.inr (Or.inr (Or.inr (Or.inr (Or.inr ⟨by omega, ?_⟩))))
            rcases s with _ | ⟨_ | _, _ | ⟨_ | _, r⟩⟩
            all_goals first | (cases h; done) | (cases h; exact ⟨r, rfl, rfl⟩)
theorem ty_step {n m i : Nat} {w : Row} {e : Int32} {c : Nat} {x : Int32} {s s' : List Bool} {v : Row} (hc : c ≤ 15) (h : tyS c s = some s') (hv : tyV s v) :
    tyV s' (opM (fcW n m w e i) c x (s.length, v)).2 := by
  unfold opM
  rcases tyS_inv hc h with ⟨k, rfl⟩ | ⟨k, rfl⟩ | ⟨rfl, r, rfl, rfl⟩ | ⟨rfl, r, rfl, rfl⟩ | ⟨k, r, rfl, rfl⟩ | ⟨k, r, rfl, rfl⟩
  · rw [if_pos (by omega)]
    exact ⟨fun q => Bool.noConfusion q, tyV_upd (Nat.le_refl _) hv⟩
  · rw [if_pos (by omega), if_neg (by omega)]
    refine ⟨fun _ => ?_, tyV_upd (Nat.le_refl _) hv⟩
    show upd v s.length _ s.length = 0 ∨ upd v s.length _ s.length = 1
    rw [upd_at]; exact fc01 k.1 k.2
  · rw [if_neg (by decide), if_pos rfl]
    have h0 := hv.1 rfl
    refine ⟨fun _ => ?_, tyV_upd (show r.length ≤ r.length + 1 - 1 by omega) hv.2⟩
    show upd v (r.length + 1 - 1) (1 - v (r.length + 1 - 1)) r.length = 0 ∨ upd v (r.length + 1 - 1) (1 - v (r.length + 1 - 1)) r.length = 1
    rw [show r.length + 1 - 1 = r.length from by omega, upd_at]
    rcases h0 with q | q <;> rw [q]
    · exact Or.inr (by decide)
    · exact Or.inl (by decide)
  · rw [if_neg (by decide), if_neg (by decide)]
    exact ⟨fun q => Bool.noConfusion q, tyV_upd (show r.length ≤ r.length + 1 + 1 - 2 by omega) hv.2.2⟩
  · rw [if_neg (by omega), if_neg (by omega)]
    refine ⟨fun _ => ?_, tyV_upd (show r.length ≤ r.length + 1 + 1 - 2 by omega) hv.2.2⟩
    show upd v (r.length + 1 + 1 - 2) (jnM c (v (r.length + 1 + 1 - 2)) (v (r.length + 1 + 1 - 1))) r.length = 0 ∨ upd v (r.length + 1 + 1 - 2) (jnM c (v (r.length + 1 + 1 - 2)) (v (r.length + 1 + 1 - 1))) r.length = 1
    rw [show r.length + 1 + 1 - 2 = r.length from by omega, upd_at]
    rcases k with rfl | rfl <;> exact bI01 _
  · rw [if_neg (by omega), if_neg (by omega)]
    refine ⟨fun _ => ?_, tyV_upd (show r.length ≤ r.length + 1 + 1 - 2 by omega) hv.2.2⟩
    show upd v (r.length + 1 + 1 - 2) (jnM c (v (r.length + 1 + 1 - 2)) (v (r.length + 1 + 1 - 1))) r.length = 0 ∨ upd v (r.length + 1 + 1 - 2) (jnM c (v (r.length + 1 + 1 - 2)) (v (r.length + 1 + 1 - 1))) r.length = 1
    rw [show r.length + 1 + 1 - 2 = r.length from by omega, upd_at]
    rcases k with rfl | rfl <;> exact bI01 _
/-- one step of the class's machine over a typed stack -/
theorem c_holdsStep {r : Nat} {h : Hp} {n m i e c : Nat} {E : Int32} {w : Row} {x : Int32} {v : Row} {s s' : List Bool} {b : Nat} (q : Int32 → Int32 → Hp → Option (Bool × Hp)) (hr : 500 ≤ r) (hf : ∀ k, k < 9 → h 14 k = fcW n m w E i k)
    (he : e < b) (hb : b ≤ 400) (h5 : h (r + 5) e = nI (ccd c)) (h6 : c = 9 → h (r + 6) e = x) (hc : c ≤ 15) (ht : tyS c s = some s') (hs : s.length ≤ 20) (hv : tyV s v) :
    S_X4_holds_6 r (nI b) q (nI s.length) (nI e) (upA h (r + 7) v) = q (nI s'.length) (nI (e + 1)) (upA h (r + 7) (opM (fcW n m w E i) c x (s.length, v)).2) := by
  obtain ⟨ok, len⟩ := tyS_ok hc ht hs
  obtain ⟨o1, o2, o3, o4⟩ := ok
  rw [len]
  generalize hl : s.length = t at hs o2 o3 o4 hv
  unfold S_X4_holds_6
  by_cases c9 : c ≤ 9
  · have ec : ccd c = c := by unfold ccd; rw [if_neg (by omega), if_neg (by omega), if_neg (by omega), if_neg (by omega)]
    rw [ec] at h5
    unfold opM F_X4_holds_167 F_X4_holds_174
    by_cases d : c = 9
    · subst d
      have h6 := h6 rfl
      simp (disch := omega) only [reduceIte, ↓zbn, zgd, zcl, zlt, zeq, zn0, zp0, ze0, zem, zsuc, zob, ztl, zfl, ztle, zfle, zte, zfe, zft, toB0, toB1, i10, i01, upA_ob, h5, h6, zl400, zq10, zg10, zl32, zl9, up1_upA]
    · simp (disch := omega) only [reduceIte, ↓zbn, zgd, zcl, zlt, zeq, zn0, zp0, ze0, zem, zsuc, zob, ztl, zfl, ztle, zfle, zte, zfe, zft, toB0, toB1, i10, i01, upA_ob, h5, zl400, zq10, zg10, zl32, zl9, up1_upA, hf c (by omega)]
  · by_cases c13 : c = 13
    · subst c13
      obtain ⟨t1, _⟩ := o3 rfl
      have ec : ccd 13 = 10 := by decide
      rw [ec] at h5
      unfold opM
      simp (disch := omega) only [reduceIte, ↓zbn, zgd, zcl, zlt, zeq, zn0, zp0, ze0, zem, zsuc, zob, ztl, zfl, ztle, zfle, zte, zfe, zft, toB0, toB1, i10, i01, upA_ob, upA_at, h5, zl400, zq10, zg10, zl1, zg32, zl9, up1_upA, zprs]
    · obtain ⟨t2, _⟩ := o4 (by omega) c13
      have k : c = 10 ∨ c = 11 ∨ c = 12 ∨ c = 14 ∨ c = 15 := by omega
      have e2 : nI t - 2 = nI (t - 2) := by rw [show (2 : Int32) = nI 2 from rfl, zsub t2]
      have J : ∀ h', f_X4_joined (nI (ccd c)) (v (t - 2)) (v (t - 1)) h' = jnM c (v (t - 2)) (v (t - 1)) := by
        intro h'
        rcases k with rfl | rfl | rfl | rfl | rfl
        · rfl
        · show (if v (t - 2) < v (t - 1) then 1 else 0) = bI (decide _)
          by_cases z : v (t - 2) < v (t - 1)
          · rw [if_pos z, decide_eq_true z]; rfl
          · rw [if_neg z, decide_eq_false z]; rfl
        · show (if v (t - 1) < v (t - 2) then 1 else 0) = bI (decide _)
          by_cases z : v (t - 1) < v (t - 2)
          · rw [if_pos z, decide_eq_true z]; rfl
          · rw [if_neg z, decide_eq_false z]; rfl
        all_goals
          have B : (v (t - 2) = 0 ∨ v (t - 2) = 1) ∧ (v (t - 1) = 0 ∨ v (t - 1) = 1) := by
            rcases tyS_inv hc ht with ⟨k, _⟩ | ⟨k, _⟩ | ⟨k, _⟩ | ⟨k, _⟩ | ⟨k, _⟩ | ⟨k, r', rfl, _⟩
            · omega
            · omega
            · omega
            · omega
            · omega
            · have hl' : r'.length + 1 + 1 = t := hl
              have a1 : v (r'.length + 1) = 0 ∨ v (r'.length + 1) = 1 := hv.1 rfl
              have a2 := hv.2.1 rfl
              rw [show t - 2 = r'.length from by omega, show t - 1 = r'.length + 1 from by omega]
              exact ⟨a2, a1⟩
        · exact (or01 B.1 B.2).1.symm
        · exact (or01 B.1 B.2).2.symm
      have g10 : ∃ d, ccd c = d ∧ 10 < d ∧ d ≤ 15 := by
        rcases k with rfl | rfl | rfl | rfl | rfl
        · exact ⟨11, rfl, by decide, by decide⟩
        · exact ⟨12, rfl, by decide, by decide⟩
        · exact ⟨13, rfl, by decide, by decide⟩
        · exact ⟨14, rfl, by decide, by decide⟩
        · exact ⟨15, rfl, by decide, by decide⟩
      obtain ⟨d, ed, d1, d2⟩ := g10
      rw [ed] at h5 J
      unfold opM
      simp (disch := omega) only [reduceIte, ↓zbn, zgd, zcl, zlt, zeq, zn0, zp0, ze0, zem, zsuc, zob, ztl, zfl, ztle, zfle, zte, zfe, zft, toB0, toB1, i10, i01, upA_ob, upA_at, h5, zl400, zq10, zg10, zl2, zg32, up1_upA, zprs, zprd, e2, J]
theorem c_holds {r : Nat} {h : Hp} {n m i l : Nat} {E : Int32} {w : Row} (hr : 500 ≤ r) (hf : ∀ k, k < 9 → h 14 k = fcW n m w E i k) (ok : lnOk w l)
    (hj : ∀ j, fromW w l ≤ j → j < toW w l → h (r + 5) j = nI (ccd (cdW w j)) ∧ (cdW w j = 9 → h (r + 6) j = nmW w j)) :
    ∃ v, f_X4_holds r (w (493 + 4 * l + 2)) (w (493 + 4 * l + 3)) h = some (hlW (fcW n m w E i) w l, upA h (r + 7) v) := by
  obtain ⟨_, _, hfr, hto, hle, hcd, hty, hend⟩ := ok
  obtain ⟨ef, lf⟩ := bd_cl hfr (by decide)
  obtain ⟨et, lt⟩ := bd_cl hto (by decide)
  have ef' : w (493 + 4 * l + 2) = nI (fromW w l) := ef
  have et' : w (493 + 4 * l + 3) = nI (toW w l) := et
  have lt' : toW w l ≤ 400 := lt
  rw [ef', et']
  have hc15 : ∀ i, i < toW w l - fromW w l → cdW w (fromW w l + i) ≤ 15 := fun i hi => (bd_cl (hcd (fromW w l + i) (by omega) (by omega)) (by decide)).2
  have R := fun j (hj : j ≤ toW w l - fromW w l) => run_ty (F := fcW n m w E i) (nm := nmW w) (v := z0) j (fun i hi => hc15 i (by omega)) (fun i hi => hty i (by omega))
  have Q := loopW (S_X4_holds_6 r (nI (toW w l))) (fun _ _ _ => none) (fun q (s : (Nat × List Bool) × Row) => q (nI s.1.2.length) (nI (fromW w l + s.1.1)) (upA h (r + 7) s.2)) (toW w l - fromW w l)
    (fun j s => s.1.1 = j ∧ tyR (cdW w) (fromW w l) j = some s.1.2 ∧ tyV s.1.2 s.2 ∧ ∀ k, k < s.1.2.length → s.2 k = (runM (fcW n m w E i) (cdW w) (nmW w) (fromW w l) z0 j).2 k)
    (fun x => ∃ v, x = some (hlW (fcW n m w E i) w l, upA h (r + 7) v)) (by omega) (fun j s hj' hs => ?_) (fun s hs => ?_) ((0, []), h (r + 7)) ⟨rfl, rfl, trivial, fun k hk => absurd hk (Nat.not_lt_zero k)⟩
  · obtain ⟨v, e⟩ := Q
    refine ⟨v, ?_⟩
    rw [show upA h (r + 7) (((0, []), h (r + 7)) : (Nat × List Bool) × Row).2 = h from upA_self] at e
    exact e
  · obtain ⟨⟨j', st⟩, v⟩ := s
    obtain ⟨hj1, ht, hv, heq⟩ := hs
    obtain rfl : j' = j := hj1
    have ht' : tyR (cdW w) (fromW w l) j' = some st := ht
    obtain ⟨s0, hs0, hl0, hr1, _⟩ := R j' (by omega)
    obtain rfl : s0 = st := by rw [ht'] at hs0; cases hs0; rfl
    obtain ⟨s', hs', hl'⟩ := hty (j' + 1) (by omega)
    have hb : tyS (cdW w (fromW w l + j')) s0 = some s' := by
      have e : tyR (cdW w) (fromW w l) (j' + 1) = Option.bind (tyR (cdW w) (fromW w l) j') (tyS (cdW w (fromW w l + j'))) := rfl
      rw [ht', hs'] at e; exact e.symm
    obtain ⟨a5, a6⟩ := hj (fromW w l + j') (by omega) (by omega)
    refine ⟨((j' + 1, s'), (opM (fcW n m w E i) (cdW w (fromW w l + j')) (nmW w (fromW w l + j')) (s0.length, v)).2), ⟨rfl, hs', ty_step (hc15 j' hj') hb hv, fun k hk => ?_⟩, fun q => ?_⟩
    · have len := (tyS_ok (hc15 j' hj') hb hl0)
      have hk' : k < s'.length := hk
      have eq' : ∀ k, k < s0.length → v k = (runM (fcW n m w E i) (cdW w) (nmW w) (fromW w l) z0 j').2 k := heq
      obtain ⟨⟨_, _, o3, o4⟩, len⟩ := len
      show (opM (fcW n m w E i) (cdW w (fromW w l + j')) (nmW w (fromW w l + j')) (s0.length, v)).2 k = (opM (fcW n m w E i) (cdW w (fromW w l + j')) (nmW w (fromW w l + j')) (runM (fcW n m w E i) (cdW w) (nmW w) (fromW w l) z0 j')).2 k
      unfold opM
      rw [hr1]
      rw [len] at hk'
      by_cases c9 : cdW w (fromW w l + j') ≤ 9
      · rw [if_pos c9] at hk' ⊢
        rw [if_pos c9]
        unfold upd
        dsimp only
        by_cases z : k = s0.length
        · rw [if_pos z, if_pos z]
        · rw [if_neg z, if_neg z]; exact eq' k (by omega)
      · rw [if_neg c9] at hk' ⊢
        rw [if_neg c9]
        by_cases c13 : cdW w (fromW w l + j') = 13
        · obtain ⟨t1, _⟩ := o3 c13
          rw [if_pos c13] at hk' ⊢
          rw [if_pos c13]
          show upd v (s0.length - 1) (1 - v (s0.length - 1)) k = upd _ (s0.length - 1) (1 - _) k
          rw [eq' (s0.length - 1) (by omega)]
          unfold upd
          by_cases z : k = s0.length - 1
          · rw [if_pos z, if_pos z]
          · rw [if_neg z, if_neg z]; exact eq' k (by omega)
        · obtain ⟨t1, _⟩ := o4 (by omega) c13
          rw [if_neg c13] at hk' ⊢
          rw [if_neg c13]
          show upd v (s0.length - 2) (jnM _ (v (s0.length - 2)) (v (s0.length - 1))) k = upd _ (s0.length - 2) _ k
          rw [eq' (s0.length - 1) (by omega), eq' (s0.length - 2) (by omega)]
          unfold upd
          by_cases z : k = s0.length - 2
          · rw [if_pos z, if_pos z]
          · rw [if_neg z, if_neg z]; exact eq' k (by omega)
    · exact c_holdsStep q hr hf (show fromW w l + j' < toW w l by omega) lt' a5 a6 (hc15 j' hj') hb hl0 hv
  · obtain ⟨⟨j', st⟩, v⟩ := s
    obtain ⟨hj1, ht, hv, heq⟩ := hs
    obtain rfl : j' = toW w l - fromW w l := hj1
    have ht' : tyR (cdW w) (fromW w l) (toW w l - fromW w l) = some st := ht
    obtain ⟨s0, hs0, hl0, hr1, _⟩ := R (toW w l - fromW w l) (Nat.le_refl _)
    obtain rfl : s0 = st := by rw [ht'] at hs0; cases hs0; rfl
    refine ⟨_, ⟨v, rfl⟩, fun q => ?_⟩
    show S_X4_holds_6 r (nI (toW w l)) q (nI s0.length) (nI (fromW w l + (toW w l - fromW w l))) (upA h (r + 7) v) = _
    rw [show fromW w l + (toW w l - fromW w l) = toW w l from by omega]
    unfold S_X4_holds_6 F_X4_holds_184 hlW runW
    simp (disch := omega) only [reduceIte, ↓zbn, zgd, zcl, zlt, zeq, zn0, zp0, ze0, zem, zsuc, zob, ztl, zfl, ztle, zfle, zte, zfe, zft, toB0, toB1, i10, i01, upA_at]
    rw [hr1]
    by_cases z : s0.length = 0
    · rw [if_pos z, decide_eq_true z]; rfl
    · rw [if_neg z, decide_eq_false z, Bool.false_or]
      have e0 : v 0 = (runM (fcW n m w E i) (cdW w) (nmW w) (fromW w l) z0 (toW w l - fromW w l)).2 0 := heq 0 (by show 0 < s0.length; omega)
      rw [← e0]
      have b01 : v 0 = 0 ∨ v 0 = 1 := by
        rcases hend with q | q
        · exact absurd (by rw [q, Nat.sub_self] at ht'; cases ht'; rfl) z
        · rw [q] at ht'; cases ht'
          exact hv.1 rfl
      rcases b01 with q | q <;> rw [q] <;> rfl
theorem c_sumOf {r : Nat} {h : Hp} {n m i k : Nat} {E : Int32} {w : Row} (hr : 500 ≤ r) (g : GdN n m w) (H : LV r h w) (hf : ∀ k, k < 9 → h 14 k = fcW n m w E i k) :
    ∃ v, f_X4_sumOf r (nI k) h = some (smW n m w E (nI k) i, upA h (r + 7) v) := by
  obtain ⟨_, _, _, _, g3, gl⟩ := g
  have Q := loopW (S_X4_sumOf_5 r (nI k)) (fun _ _ _ => none) (fun q (s : Nat × Row) => q (sumTo (smF (fcW n m w E i) w (nI k)) s.1) (nI s.1) (upA h (r + 7) s.2)) (lnW w) (fun j s => s.1 = j)
    (fun x => ∃ v, x = some (smW n m w E (nI k) i, upA h (r + 7) v)) (by
      unfold lnW; split
      · have := (bd_cl (gl ‹_›).1 (by decide)).2; omega
      · omega) (fun j s hj hs => ?_) (fun s hs => ?_) (0, h (r + 7)) rfl
  · obtain ⟨v, e⟩ := Q
    refine ⟨v, ?_⟩
    rw [show upA h (r + 7) ((0, h (r + 7)) : Nat × Row).2 = h from upA_self] at e
    exact e
  · obtain ⟨j', v⟩ := s
    obtain rfl : j' = j := hs
    have h3 : w 3 = 1 := by
      by_cases c : w 3 = 1
      · exact c
      · unfold lnW at hj; rw [if_neg c] at hj; omega
    obtain ⟨h8', hl⟩ := H
    rw [if_pos h3] at h8'
    obtain ⟨a1, a2, a3, a4, a5⟩ := hl j' hj
    unfold lnW at hj
    rw [if_pos h3] at hj
    obtain ⟨b12, lok⟩ := gl h3
    obtain ⟨eL, lL⟩ := bd_cl b12 (by decide)
    have ok := lok j' hj
    have ln : (nI j' < w 492) = True := by
      rw [eL, zlt (by omega) (by omega)]; exact eq_true hj
    obtain ⟨v', hv'⟩ := c_holds (h := upA h (r + 7) v) (n := n) (m := m) (i := i) (l := j') (E := E) (w := w) hr (fun k hk => by rw [upA_ob (by omega)]; exact hf k hk) ok (fun j x y => by
      rw [upA_ob (by omega), upA_ob (by omega)]; exact a5 j x y)
    rw [upA_upA] at hv'
    by_cases ck : w (493 + 4 * j') = nI k
    · refine ⟨(j' + 1, v'), rfl, fun q => ?_⟩
      show S_X4_sumOf_5 r (nI k) q (sumTo (smF (fcW n m w E i) w (nI k)) j') (nI j') (upA h (r + 7) v) = q (sumTo (smF (fcW n m w E i) w (nI k)) j' + smF (fcW n m w E i) w (nI k) j') (nI (j' + 1)) (upA h (r + 7) v')
      unfold S_X4_sumOf_5
      rw [show smF (fcW n m w E i) w (nI k) j' = if hlW (fcW n m w E i) w j' then w (493 + 4 * j' + 1) else 0 from if_pos ck]
      simp (disch := omega) only [reduceIte, ↓zbn, zgd, zcl, zlt, zeq, zn0, zp0, ze0, zem, zsuc, zob, ztl, zfl, ztle, zfle, zte, zfe, zft, toB0, toB1, i10, i01, upA_ob, h8', ln, tT, zl12, a1, a3, a4, ck, hv']
      cases hlW (fcW n m w E i) w j'
      · simp (disch := omega) only [tff, tF, Int32.add_zero, zft]
      · simp (disch := omega) only [ttt, tT, upA_ob, a2, eq_self]
    · refine ⟨(j' + 1, v), rfl, fun q => ?_⟩
      show S_X4_sumOf_5 r (nI k) q (sumTo (smF (fcW n m w E i) w (nI k)) j') (nI j') (upA h (r + 7) v) = q (sumTo (smF (fcW n m w E i) w (nI k)) j' + smF (fcW n m w E i) w (nI k) j') (nI (j' + 1)) (upA h (r + 7) v)
      unfold S_X4_sumOf_5
      rw [show smF (fcW n m w E i) w (nI k) j' = 0 from if_neg ck, Int32.add_zero]
      simp (disch := omega) only [reduceIte, ↓zbn, zgd, zcl, zlt, zeq, zn0, zp0, ze0, zem, zsuc, zob, ztl, zfl, ztle, zfle, zte, zfe, zft, toB0, toB1, i10, i01, upA_ob, h8', ln, tT, zl12, a1, ck]
  · obtain ⟨j', v⟩ := s
    obtain rfl : j' = lnW w := hs
    refine ⟨_, ⟨v, rfl⟩, fun q => ?_⟩
    show S_X4_sumOf_5 r (nI k) q (sumTo (smF (fcW n m w E i) w (nI k)) (lnW w)) (nI (lnW w)) (upA h (r + 7) v) = _
    unfold S_X4_sumOf_5 smW
    rw [upA_ob (by omega)]
    obtain ⟨h8', _⟩ := H
    by_cases h3 : w 3 = 1
    · rw [if_pos h3] at h8'
      have eL := (bd_cl (gl h3).1 (by decide)).1
      have : ¬ nI (lnW w) < w 492 := by
        unfold lnW; rw [if_pos h3, ← eL]; exact Int32.lt_irrefl
      rw [h8', if_neg this]
    · rw [if_neg h3] at h8'
      rw [h8', if_neg (by unfold lnW; rw [if_neg h3]; decide)]
