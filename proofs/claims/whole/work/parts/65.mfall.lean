/-! LAYER 4. What the spec does not look at; the model's FALL -/
theorem sumTo_congr {f g : Nat → Int32} : ∀ n, (∀ j, j < n → f j = g j) → sumTo f n = sumTo g n
  | 0, _ => rfl
  | n + 1, h => by
    show sumTo f n + f n = sumTo g n + g n
    rw [sumTo_congr n (fun j hj => h j (by omega)), h n (by omega)]
theorem anyTo_congr {f g : Nat → Bool} : ∀ n, (∀ j, j < n → f j = g j) → anyTo f n = anyTo g n
  | 0, _ => rfl
  | n + 1, h => by
    show (anyTo f n || f n) = (anyTo g n || g n)
    rw [anyTo_congr n (fun j hj => h j (by omega)), h n (by omega)]
theorem rounds_congr {n : Nat} {wt wt' : Nat → Int32} {pt pt' : Nat → Nat → Int32} {s : (Nat → Int32) × (Nat → Int32)} (hw : ∀ i, i < n → wt' i = wt i) (hp : ∀ i o, i < n → o < n → pt' i o = pt i o) :
    ∀ k, roundsS n wt' pt' s k = roundsS n wt pt s k := by
  have G : ∀ (pr nx : Nat → Int32) i, i ≤ n → givesAll n wt' pt' pr nx i = givesAll n wt pt pr nx i := by
    intro pr nx i
    induction i with
    | zero => intro _; rfl
    | succ i ih =>
      intro hi
      show givesS n wt' pt' pr i (givesAll n wt' pt' pr nx i) = givesS n wt pt pr i (givesAll n wt pt pr nx i)
      rw [ih (by omega)]
      unfold givesS
      rw [hw i (by omega), sumTo_congr n (fun j hj => hp i j (by omega) hj)]
      split
      · funext o
        unfold givS
        by_cases c : o < n
        · rw [if_pos c, if_pos c, hp i o (by omega) c]
        · rw [if_neg c, if_neg c]
      · rfl
  intro k
  induction k with
  | zero => rfl
  | succ k ih =>
    show roundS n wt' pt' (roundsS n wt' pt' s k) = roundS n wt pt (roundsS n wt pt s k)
    rw [ih]
    unfold roundS
    simp only [G _ _ n (Nat.le_refl n)]
/-- same leans, people, law, prop -/
def SC (w w' : Row) : Prop := ∀ k, (k = 3 ∨ k = 7 ∨ (10 ≤ k ∧ k < 74) ∨ (114 ≤ k ∧ k < 132) ∨ 492 ≤ k) → w' k = w k
def SE (w w' : Row) : Prop := ∀ k, (k = 3 ∨ k = 7 ∨ (10 ≤ k ∧ k < 132) ∨ 492 ≤ k) → w' k = w k
theorem SE_SC {w w' : Row} (h : SE w w') : SC w w' := fun k hk => h k (by omega)
theorem SE_refl (w : Row) : SE w w := fun _ _ => rfl
theorem SE_trans {a b c : Row} (x : SE a b) (y : SE b c) : SE a c := fun k hk => (y k hk).trans (x k hk)
theorem pr_congr {n : Nat} {w w' : Row} (h8 : n ≤ 8) (hc : SC w w') (hw : ∀ j, j < 8 → wtR w' j = wtR w j) : prW n w' = prW n w := by
  unfold prW
  rw [rounds_congr (wt := wtR w) (wt' := wtR w') (pt := ptR w) (pt' := ptR w') (fun i hi => hw i (by omega)) (fun i o hi ho => hc (10 + 8 * i + o) (by omega)) 12]
theorem ps_congr {n i : Nat} {w w' : Row} (h8 : n ≤ 8) (hi : i < 8) (hc : SC w w') : psW n w' i = psW n w i :=
  sumTo_congr n fun o ho => hc (10 + 8 * i + o) (by omega)
theorem th_congr {i p : Nat} {w w' : Row} {e : Int32} (hp : p < 6) (hc : SC w w') : thB w' e i p = thB w e i p := by
  unfold thB atR cmR
  rw [hc (114 + 3 * p) (by omega), hc (114 + 3 * p + 2) (by omega)]
theorem fc_c0 {n m i : Nat} {w w' : Row} {e : Int32} (h8 : n ≤ 8) (h6 : m ≤ 6) (hi : i < 8) (hc : SC w w') (hw : ∀ j, j < 8 → wtR w' j = wtR w j) (hv : ivR w' i = ivR w i) (ha : agR w' i = agR w i) : fcW n m w' e i 0 = fcW n m w e i 0 := (show fcW n m w' e i 0 = nI i from rfl).trans (show fcW n m w e i 0 = nI i from rfl).symm
theorem fc_c1 {n m i : Nat} {w w' : Row} {e : Int32} (h8 : n ≤ 8) (h6 : m ≤ 6) (hi : i < 8) (hc : SC w w') (hw : ∀ j, j < 8 → wtR w' j = wtR w j) (hv : ivR w' i = ivR w i) (ha : agR w' i = agR w i) : fcW n m w' e i 1 = fcW n m w e i 1 := hw i hi
theorem fc_c2 {n m i : Nat} {w w' : Row} {e : Int32} (h8 : n ≤ 8) (h6 : m ≤ 6) (hi : i < 8) (hc : SC w w') (hw : ∀ j, j < 8 → wtR w' j = wtR w j) (hv : ivR w' i = ivR w i) (ha : agR w' i = agR w i) : fcW n m w' e i 2 = fcW n m w e i 2 := hv
theorem fc_c3 {n m i : Nat} {w w' : Row} {e : Int32} (h8 : n ≤ 8) (h6 : m ≤ 6) (hi : i < 8) (hc : SC w w') (hw : ∀ j, j < 8 → wtR w' j = wtR w j) (hv : ivR w' i = ivR w i) (ha : agR w' i = agR w i) : fcW n m w' e i 3 = fcW n m w e i 3 := ha
theorem fc_c4 {n m i : Nat} {w w' : Row} {e : Int32} (h8 : n ≤ 8) (h6 : m ≤ 6) (hi : i < 8) (hc : SC w w') (hw : ∀ j, j < 8 → wtR w' j = wtR w j) (hv : ivR w' i = ivR w i) (ha : agR w' i = agR w i) : fcW n m w' e i 4 = fcW n m w e i 4 := (show fcW n m w' e i 4 = e from rfl).trans (show fcW n m w e i 4 = e from rfl).symm
theorem fc_c5 {n m i : Nat} {w w' : Row} {e : Int32} (h8 : n ≤ 8) (h6 : m ≤ 6) (hi : i < 8) (hc : SC w w') (hw : ∀ j, j < 8 → wtR w' j = wtR w j) (hv : ivR w' i = ivR w i) (ha : agR w' i = agR w i) : fcW n m w' e i 5 = fcW n m w e i 5 := by
  show prW n w' i = prW n w i
  rw [pr_congr h8 hc hw]
theorem fc_c6 {n m i : Nat} {w w' : Row} {e : Int32} (h8 : n ≤ 8) (h6 : m ≤ 6) (hi : i < 8) (hc : SC w w') (hw : ∀ j, j < 8 → wtR w' j = wtR w j) (hv : ivR w' i = ivR w i) (ha : agR w' i = agR w i) : fcW n m w' e i 6 = fcW n m w e i 6 := by
  show bI (decide (0 < psW n w' i)) = bI (decide (0 < psW n w i))
  rw [ps_congr h8 hi hc]
theorem fc_c7 {n m i : Nat} {w w' : Row} {e : Int32} (h8 : n ≤ 8) (h6 : m ≤ 6) (hi : i < 8) (hc : SC w w') (hw : ∀ j, j < 8 → wtR w' j = wtR w j) (hv : ivR w' i = ivR w i) (ha : agR w' i = agR w i) : fcW n m w' e i 7 = fcW n m w e i 7 := by
  show bI (anyTo _ n) = bI (anyTo _ n)
  rw [anyTo_congr (f := fun o => decide (0 < ptR w' o i)) (g := fun o => decide (0 < ptR w o i)) n (fun o ho => by
      show decide (0 < w' (10 + 8 * o + i)) = decide (0 < w (10 + 8 * o + i))
      rw [hc (10 + 8 * o + i) (by omega)])]
theorem fc_c8 {n m i : Nat} {w w' : Row} {e : Int32} (h8 : n ≤ 8) (h6 : m ≤ 6) (hi : i < 8) (hc : SC w w') (hw : ∀ j, j < 8 → wtR w' j = wtR w j) (hv : ivR w' i = ivR w i) (ha : agR w' i = agR w i) : fcW n m w' e i 8 = fcW n m w e i 8 := by
  show bI (anyTo _ m) = bI (anyTo _ m)
  rw [anyTo_congr m (fun p hp => th_congr (by omega) hc)]
theorem fc_congr {n m i : Nat} {w w' : Row} {e : Int32} (h8 : n ≤ 8) (h6 : m ≤ 6) (hi : i < 8) (hc : SC w w') (hw : ∀ j, j < 8 → wtR w' j = wtR w j) (hv : ivR w' i = ivR w i) (ha : agR w' i = agR w i) : fcW n m w' e i = fcW n m w e i := by
  funext k
  rcases k with _ | _ | _ | _ | _ | _ | _ | _ | _ | k
  · exact fc_c0 h8 h6 hi hc hw hv ha
  · exact fc_c1 h8 h6 hi hc hw hv ha
  · exact fc_c2 h8 h6 hi hc hw hv ha
  · exact fc_c3 h8 h6 hi hc hw hv ha
  · exact fc_c4 h8 h6 hi hc hw hv ha
  · exact fc_c5 h8 h6 hi hc hw hv ha
  · exact fc_c6 h8 h6 hi hc hw hv ha
  · exact fc_c7 h8 h6 hi hc hw hv ha
  · exact fc_c8 h8 h6 hi hc hw hv ha
  · exact (show fcW n m w' e i (k + 9) = 0 from rfl).trans (show fcW n m w e i (k + 9) = 0 from rfl).symm
theorem law_congr {w w' : Row} (hc : ∀ k, (k = 3 ∨ 492 ≤ k) → w' k = w k) (F : Nat → Int32) (k : Int32) : smF F w' k = smF F w k ∧ lnW w' = lnW w := by
  constructor
  · funext l
    have e1 : cdW w' = cdW w := by funext j; unfold cdW; rw [hc _ (by omega)]
    have e2 : nmW w' = nmW w := by funext j; unfold nmW; rw [hc _ (by omega)]
    unfold smF hlW runW fromW toW
    rw [e1, e2, hc _ (by omega), hc _ (by omega), hc _ (by omega), hc _ (by omega)]
  · unfold lnW; rw [hc 3 (by omega), hc 492 (by omega)]
theorem sm_congr {n m i : Nat} {w w' : Row} {e k : Int32} (h8 : n ≤ 8) (h6 : m ≤ 6) (hi : i < 8) (hc : SC w w') (hw : ∀ j, j < 8 → wtR w' j = wtR w j) (hv : ivR w' i = ivR w i) (ha : agR w' i = agR w i) : smW n m w' e k i = smW n m w e k i := by
  unfold smW
  have L := law_congr (w := w) (w' := w') (fun k hk => hc k (by omega)) (fcW n m w e i) k
  rw [fc_congr h8 h6 hi hc hw hv ha, L.1, L.2]
theorem hp_congr {m i : Nat} {w w' : Row} {e : Int32} (h6 : m ≤ 6) (hc : SC w w') : hpW m w' e i = hpW m w e i :=
  sumTo_congr m fun p hp => by
    rw [th_congr (by omega) hc]; unfold hdR; rw [hc (114 + 3 * p + 1) (by omega)]
theorem sg_congr {n m i : Nat} {w w' : Row} {e pp : Int32} (h8 : n ≤ 8) (h6 : m ≤ 6) (hi : i < 8) (hc : SC w w') (hw : ∀ j, j < 8 → wtR w' j = wtR w j) (hf : fmR w' i = fmR w i) (hv : ivR w' i = ivR w i) (ha : agR w' i = agR w i) :
    brW n w' i = brW n w i ∧ stW n m w' e i = stW n m w e i ∧ sgW n m w' e pp i = sgW n m w e pp i := by
  have a : brW n w' i = brW n w i := by
    unfold brW; rw [pr_congr h8 hc hw, ps_congr h8 hi hc, hw i hi]
  have b : stW n m w' e i = stW n m w e i := by
    unfold stW; rw [hf, hv, hp_congr h6 hc, sm_congr h8 h6 hi hc hw hv ha, sm_congr h8 h6 hi hc hw hv ha]
  refine ⟨a, b, ?_⟩
  unfold sgW; rw [a, b, hc 7 (by omega)]
theorem se_w {w w' : Row} (h : SE w w') : ∀ j, j < 8 → wtR w' j = wtR w j := fun j hj => h (74 + 5 * j) (by omega)
theorem se_sg {n m i : Nat} {w w' : Row} {e pp : Int32} (h8 : n ≤ 8) (h6 : m ≤ 6) (hi : i < 8) (h : SE w w') : sgW n m w' e pp i = sgW n m w e pp i :=
  (sg_congr h8 h6 hi (SE_SC h) (se_w h) (h (74 + 5 * i + 1) (by omega)) (h (74 + 5 * i + 2) (by omega)) (h (74 + 5 * i + 3) (by omega))).2.2
theorem se_fal {i : Nat} {w w' : Row} (hi : i < 8) (h : SE w w') : falB w' i = falB w i := by
  unfold falB; rw [h (74 + 5 * i + 4) (by omega)]
theorem se_sgB {n m i : Nat} {w w' : Row} {e pp : Int32} (h8 : n ≤ 8) (h6 : m ≤ 6) (hi : i < 8) (h : SE w w') : sgB n m w' e pp i = sgB n m w e pp i := by
  unfold sgB; rw [se_sg h8 h6 hi h, se_fal hi h]
theorem tell_ob {x1 x2 x3 x4 : Int32} {w : Row} {k : Nat} (h8 : k ≠ 8) (h : k < 132 ∨ 492 ≤ k) : tellW x1 x2 x3 x4 w k = w k := by
  unfold tellW
  rw [upd_ob h8, upd_ob (by omega), upd_ob (by omega), upd_ob (by omega), upd_ob (by omega), upd_ob (by omega), upd_ob (by omega)]
  exact if_neg (by omega)
theorem tell_SE {x1 x2 x3 x4 : Int32} {w : Row} : SE w (tellW x1 x2 x3 x4 w) := fun k hk => tell_ob (by omega) (by omega)
theorem gone_ob {i m k : Nat} {w : Row} (hi : i < 8) (hm : m ≤ 6) (h : k < 10 ∨ (74 ≤ k ∧ k < 114 ∧ k ≠ 74 + 5 * i + 4) ∨ (114 ≤ k ∧ k < 132 ∧ (k - 114) % 3 ≠ 0) ∨ 132 ≤ k) : goneW i m w k = w k := by
  have Q : ∀ j, j ≤ 6 → ∀ v : Row, goneQ (nI i) v j k = v k := by
    intro j
    induction j with
    | zero => intro _ v; rfl
    | succ j ih =>
      intro hj v
      show (if goneQ (nI i) v j (114 + 3 * j) = nI i then upd (goneQ (nI i) v j) (114 + 3 * j) (-1) else goneQ (nI i) v j) k = v k
      split
      · rw [upd_ob (by omega), ih (by omega)]
      · exact ih (by omega) v
  unfold goneW
  rw [Q m hm, goneP_ob (by omega) hi 8 (by omega), upd_ob (by omega)]
theorem gone_fal {i m j : Nat} {w : Row} (hi : i < 8) (hj : j < 8) (hm : m ≤ 6) : falB (goneW i m w) j = (decide (j = i) || falB w j) := by
  unfold falB
  by_cases c : j = i
  · subst c
    unfold goneW
    rw [goneQ_ob (by omega), goneP_ob (by omega) hi 8 (by omega), upd_at, decide_eq_true rfl, decide_eq_true rfl]; rfl
  · rw [gone_ob hi hm (by omega), decide_eq_false c]; rfl
theorem rdT_SE {n m : Nat} {w : Row} {e pp t : Int32} (j : Nat) : SE w (fldN (tlF n m w e pp t) w j) :=
  fldN_ind (fun _ (v : Row) => SE w v) (SE_refl w) j fun i v _ h => by
    unfold tlF
    split
    · exact SE_trans h tell_SE
    · exact h
theorem rdT_ob {n m j k : Nat} {w : Row} {e pp t : Int32} (h8 : k ≠ 8) (h : k < 132 ∨ 492 ≤ k) : fldN (tlF n m w e pp t) w j k = w k :=
  fldN_ind (fun _ (v : Row) => v k = w k) rfl j fun i v _ h' => by
    unfold tlF
    split
    · rw [tell_ob h8 h, h']
    · exact h'
theorem rdG_ob {n m k j : Nat} {w v : Row} {e pp : Int32} (hj : j ≤ 8) (hm : m ≤ 6) (h : k < 10 ∨ (74 ≤ k ∧ k < 114 ∧ (k - 74) % 5 ≠ 4) ∨ (114 ≤ k ∧ k < 132 ∧ (k - 114) % 3 ≠ 0) ∨ 132 ≤ k) : fldN (gnF n m w e pp) v j k = v k :=
  fldN_ind (fun _ (v' : Row) => v' k = v k) rfl j fun i v' hi h' => by
    unfold gnF
    split
    · rw [gone_ob (by omega) hm (by omega), h']
    · exact h'
theorem rdG_fal {n m j : Nat} {w v : Row} {e pp : Int32} (hm : m ≤ 6) (hj : j < 8) : ∀ k, k ≤ 8 → falB (fldN (gnF n m w e pp) v k) j = ((decide (j < k) && sgB n m w e pp j) || falB v j)
  | 0, _ => by rw [decide_eq_false (Nat.not_lt_zero j)]; rfl
  | k + 1, hk => by
    rw [fldN_s, gnF]
    have ih := rdG_fal (n := n) (m := m) (j := j) (w := w) (v := v) (e := e) (pp := pp) hm hj k (by omega)
    by_cases c : j = k
    · subst c
      rw [decide_eq_false (Nat.lt_irrefl j), Bool.false_and, Bool.false_or] at ih
      rw [decide_eq_true (Nat.lt_succ_self j), Bool.true_and]
      cases hs : sgB n m w e pp j
      · rw [tff, ih]; rfl
      · rw [ttt, gone_fal hj hj hm, decide_eq_true rfl]; rfl
    · rw [show decide (j < k + 1) = decide (j < k) from decide_eq_decide.mpr (by omega), ← ih]
      cases sgB n m w e pp k
      · rfl
      · rw [ttt, gone_fal (by omega) hj hm, decide_eq_false c]; rfl
theorem rd_fal {n m j : Nat} {w : Row} {e pp t : Int32} (h8 : n ≤ 8) (hm : m ≤ 6) (hj : j < n) : falB (rdW n m w e pp t) j = (sgB n m w e pp j || falB w j) := by
  unfold rdW rdG
  rw [rdG_fal hm (by omega) n h8, decide_eq_true hj, Bool.true_and]
  congr 1
  exact se_fal (by omega) (rdT_SE n)
theorem rd_ob {n m k : Nat} {w : Row} {e pp t : Int32} (h8 : n ≤ 8) (hm : m ≤ 6) (h : (k < 10 ∧ k ≠ 8) ∨ (74 ≤ k ∧ k < 114 ∧ (k - 74) % 5 ≠ 4) ∨ (114 ≤ k ∧ k < 132 ∧ (k - 114) % 3 ≠ 0) ∨ 492 ≤ k) : rdW n m w e pp t k = w k := by
  unfold rdW rdG
  rw [rdG_ob h8 hm (by omega)]
  exact rdT_ob (by omega) (by omega)
theorem GdL_congr {w w' : Row} (hc : ∀ k, (k = 3 ∨ 492 ≤ k) → w' k = w k) (g : GdL w) : GdL w' := by
  obtain ⟨g3, gl⟩ := g
  refine ⟨by unfold bd at g3 ⊢; rw [hc 3 (by omega)]; exact g3, fun h3 => ?_⟩
  rw [hc 3 (by omega)] at h3
  obtain ⟨b, l⟩ := gl h3
  rw [hc 492 (by omega)]
  refine ⟨by unfold bd at b ⊢; rw [hc 492 (by omega)]; exact b, fun i hi => ?_⟩
  have e1 : cdW w' = cdW w := by funext j; unfold cdW; rw [hc _ (by omega)]
  have e2 : fromW w' i = fromW w i := by unfold fromW; rw [hc _ (by omega)]
  have e3 : toW w' i = toW w i := by unfold toW; rw [hc _ (by omega)]
  have L := l i hi
  unfold lnOk at L ⊢
  rw [e1, e2, e3]
  unfold bd at L ⊢
  rw [hc (493 + 4 * i) (by omega), hc (493 + 4 * i + 1) (by omega), hc (493 + 4 * i + 2) (by omega), hc (493 + 4 * i + 3) (by omega)]
  obtain ⟨a1, a2, a3, a4, a5, a6, a7⟩ := L
  refine ⟨a1, a2, a3, a4, a5, fun j h1 h2 => ?_, a7⟩
  rw [hc (541 + 2 * j) (by omega)]
  exact a6 j h1 h2
theorem GdN_congr {n m : Nat} {w w' : Row} (hc : ∀ k, (k = 0 ∨ k = 1 ∨ k = 3 ∨ 492 ≤ k) → w' k = w k) (g : GdN n m w) : GdN n m w' :=
  ⟨(hc 0 (by omega)).trans g.1, g.2.1, (hc 1 (by omega)).trans g.2.2.1, g.2.2.2.1, GdL_congr (fun k hk => hc k (by omega)) g.2.2.2.2⟩
theorem cnt_lt {p q : Nat → Bool} : ∀ n, (∀ k, k < n → p k = true → q k = true) → (∃ k, k < n ∧ p k = false ∧ q k = true) → cnt p n < cnt q n
  | 0, _, ⟨k, hk, _⟩ => absurd hk (Nat.not_lt_zero k)
  | n + 1, h, ⟨k, hk, hp, hq⟩ => by
    show cnt p n + (if p n then 1 else 0) < cnt q n + (if q n then 1 else 0)
    have le : ∀ j, j ≤ n → cnt p j ≤ cnt q j := by
      intro j
      induction j with
      | zero => intro _; exact Nat.le_refl 0
      | succ j ih =>
        intro hj
        show cnt p j + (if p j then 1 else 0) ≤ cnt q j + (if q j then 1 else 0)
        have a := ih (by omega)
        have b := h j (by omega)
        cases hpj : p j
        · simp; split <;> omega
        · rw [b hpj]; simp; omega
    by_cases c : k = n
    · subst c
      rw [hp, hq]
      have := le k (Nat.le_refl k)
      simp; omega
    · have a := cnt_lt n (fun j hj => h j (by omega)) ⟨k, by omega, hp, hq⟩
      have b := h n (by omega)
      cases hpn : p n
      · simp; split <;> omega
      · rw [b hpn]; simp; omega
theorem orTo_0 {p : Nat → Bool} {n : Nat} (hn : n ≤ 32) : orTo p n = 0 ↔ ∀ k, k < n → p k = false := by
  constructor
  · intro h k hk
    have := orTo_tb p n hn k (by omega)
    rw [h, tb_0, decide_eq_true hk, Bool.true_and] at this
    exact this.symm
  · intro h
    apply tb_ext
    intro k hk
    rw [orTo_tb p n hn k hk, tb_0]
    by_cases c : k < n
    · rw [h k c, Bool.and_false]
    · rw [decide_eq_false c, Bool.false_and]
theorem rd_cnt {n m : Nat} {w : Row} {e pp t : Int32} (h8 : n ≤ 8) (hm : m ≤ 6) (h : ¬ sgS n m w e pp = 0) : cnt (fun i => !falB (rdW n m w e pp t) i) n < cnt (fun i => !falB w i) n := by
  refine cnt_lt n (fun k hk q => ?_) ?_
  · simp only [rd_fal h8 hm hk] at q
    cases c : falB w k
    · rfl
    · rw [c] at q; simp at q
  · apply Classical.byContradiction
    intro q
    refine h ((orTo_0 (by omega)).mpr fun k hk => ?_)
    cases c : sgB n m w e pp k
    · rfl
    · exfalso
      refine q ⟨k, hk, ?_, ?_⟩
      · simp only [rd_fal h8 hm hk, c]; rfl
      · unfold sgB at c
        cases d : falB w k
        · rfl
        · rw [d] at c; simp at c
theorem rd_GdN {n m : Nat} {w : Row} {e pp t : Int32} (g : GdN n m w) : GdN n m (rdW n m w e pp t) :=
  GdN_congr (fun k hk => rd_ob g.2.1 g.2.2.2.1 (by omega)) g
