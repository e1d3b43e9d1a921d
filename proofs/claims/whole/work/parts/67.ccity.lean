/-! LAYER 4. The class's City c shows the row w -/
def CV0 (c : Nat) (h : Hp) (n m : Nat) (w : Row) : Prop :=
  (∀ i, i < 8 → h (c + 1) i = wtR w i ∧ h (c + 2) i = fmR w i ∧ h (c + 3) i = ivR w i ∧ h (c + 4) i = agR w i) ∧
  (∀ i, i < 64 → h (c + 5) i = w (10 + i)) ∧
  (∀ p, p < m → h (c + 6) p = atR w p ∧ h (c + 7) p = hdR w p ∧ h (c + 8) p = cmR w p) ∧
  (h c 9 = nI n ∧ h c 10 = nI m ∧ h c 11 = orTo (upB n w) 8) ∧
  (h c 12 = w 4 ∧ h c 13 = w 5 ∧ h c 14 = w 6 ∧ h c 15 = w 7 ∧ h c 16 = w 2 ∧ h c 17 = w 9)
/-- the log's rows, the latest last -/
def LG (c : Nat) (h : Hp) (w : Row) : Prop := ∃ L, L ≤ 60 ∧ w 8 = nI L ∧ h (c + 9) 1 = nI L ∧ ∀ k f, k < L → f < 6 → h (c + 10) (6 * (L - 1 - k) + f) = w (132 + 6 * k + f)
/-- all in its bounds -/
def Gd (n m : Nat) (w : Row) : Prop := GdN n m w ∧
  (∀ i, i < 8 → bd w (74 + 5 * i) 99 ∧ bd w (74 + 5 * i + 1) 999 ∧ bd w (74 + 5 * i + 2) 9 ∧ bd w (74 + 5 * i + 3) 99 ∧ bd w (74 + 5 * i + 4) 1) ∧
  (∀ i o, i < 8 → o < 8 → bd w (10 + 8 * i + o) 9 ∧ ((upB n w i = false ∨ upB n w o = false ∨ i = o) → w (10 + 8 * i + o) = 0)) ∧
  (∀ p, p < m → (w (114 + 3 * p) = -1 ∨ ∃ i, i < n ∧ falB w i = false ∧ w (114 + 3 * p) = nI i) ∧ bd w (114 + 3 * p + 1) 99 ∧ bd w (114 + 3 * p + 2) 127) ∧
  bd w 4 6 ∧ bd w 5 9999 ∧ bd w 6 100 ∧ bd w 7 99 ∧ bd w 2 12 ∧ bd w 8 60
theorem CV0_fr {c : Nat} {h h' : Hp} {n m : Nat} {w : Row} (H : CV0 c h n m w) (f : ∀ k, c ≤ k → k ≤ c + 8 → h' k = h k) : CV0 c h' n m w := by
  unfold CV0 at H ⊢
  rw [f c (by omega) (by omega), f (c + 1) (by omega) (by omega), f (c + 2) (by omega) (by omega), f (c + 3) (by omega) (by omega), f (c + 4) (by omega) (by omega), f (c + 5) (by omega) (by omega), f (c + 6) (by omega) (by omega), f (c + 7) (by omega) (by omega), f (c + 8) (by omega) (by omega)]
  exact H
theorem LG_fr {c : Nat} {h h' : Hp} {w : Row} (H : LG c h w) (f : ∀ k, c + 9 ≤ k → k ≤ c + 10 → h' k = h k) : LG c h' w := by
  unfold LG at H ⊢
  rw [f (c + 9) (by omega) (by omega), f (c + 10) (by omega) (by omega)]
  exact H
section CR
variable {c : Nat} {h : Hp} {n m : Nat} {w : Row}
theorem c_isHouse {i : Nat} (hn : h c 9 = nI n) (h8 : n ≤ 8) (hi : i < 2 ^ 31) : f_X1_isHouse c (nI i) h = decide (i < n) := by
  unfold f_X1_isHouse
  rw [hn]
  simp (disch := omega) only [zn0, zlt, zl8, tF]
  by_cases d : i < n
  · simp (disch := omega) only [if_pos, decide_eq_true]
  · simp (disch := omega) only [if_neg, decide_eq_false]
theorem c_isHouseX (hn : h c 9 = nI n) (h8 : n ≤ 8) {x : Int32} (hx : x < 0 ∨ nI n ≤ x) : f_X1_isHouse c x h = false := by
  unfold f_X1_isHouse
  rw [hn]
  rcases hx with q | q
  · rw [if_pos q]
  · rw [if_neg (fun r => absurd r (fun r => by
      have := Int32.lt_of_le_of_lt q r
      exact nI_pos (by omega) this)), if_neg (Int32.not_lt.mpr q)]
theorem c_isUp {i : Nat} (H : CV0 c h n m w) (h8 : n ≤ 8) (hi : i < 2 ^ 31) : f_X1_isUp c (nI i) h = upB n w i := by
  unfold f_X1_isUp
  rw [c_isHouse H.2.2.2.1.1 h8 hi, H.2.2.2.1.2.2]
  by_cases d : i < n
  · rw [decide_eq_true d, ttt]
    simp (disch := omega) only [shr_tb, tb8]
    cases upB n w i <;> rfl
  · rw [decide_eq_false d, tff]
    unfold upB; rw [decide_eq_false d]; rfl
theorem c_isUpX (H : CV0 c h n m w) (h8 : n ≤ 8) {x : Int32} (hx : x < 0 ∨ nI n ≤ x) : f_X1_isUp c x h = false := by
  unfold f_X1_isUp
  rw [c_isHouseX H.2.2.2.1.1 h8 hx, tff]
theorem c_isPerson {p : Nat} (hm : h c 10 = nI m) (h6 : m ≤ 6) (hp : p < 2 ^ 31) : f_X1_isPerson c (nI p) h = decide (p < m) := by
  unfold f_X1_isPerson
  rw [hm]
  simp (disch := omega) only [zn0, zlt, zl6, tF]
  by_cases d : p < m
  · simp (disch := omega) only [if_pos, decide_eq_true]
  · simp (disch := omega) only [if_neg, decide_eq_false]
theorem c_isPersonX (hm : h c 10 = nI m) (h6 : m ≤ 6) {x : Int32} (hx : x < 0 ∨ nI m ≤ x) : f_X1_isPerson c x h = false := by
  unfold f_X1_isPerson
  rw [hm]
  rcases hx with q | q
  · rw [if_pos q]
  · rw [if_neg (fun r => absurd r (fun r => by
      have := Int32.lt_of_le_of_lt q r
      exact nI_pos (by omega) this)), if_neg (Int32.not_lt.mpr q)]
theorem c_partOf {i o : Nat} (H : CV0 c h n m w) (g : Gd n m w) (hi : i < 8) (ho : o < 8) : f_X1_partOf c (nI i) (nI o) h = some (ptR w i o) := by
  have h8 := g.1.2.1
  have z := (g.2.2.1 i o hi ho).2
  unfold f_X1_partOf
  rw [c_isHouse H.2.2.2.1.1 h8 (by omega), c_isHouse H.2.2.2.1.1 h8 (by omega)]
  by_cases d : i < n
  · by_cases d2 : o < n
    · simp (disch := omega) only [decide_eq_true, ttt, tT, tF, ix64, zgd, zcl, H.2.1 (8 * i + o) (by omega)]
      unfold ptR; rw [Nat.add_assoc]
    · rw [decide_eq_true d, ttt, decide_eq_false d2, tff]
      unfold ptR; rw [z (Or.inr (Or.inl (by unfold upB; rw [decide_eq_false d2]; rfl)))]
  · rw [decide_eq_false d, tff]
    unfold ptR; rw [z (Or.inl (by unfold upB; rw [decide_eq_false d]; rfl))]
theorem c_placeOf {p : Nat} (H : CV0 c h n m w) (h6 : m ≤ 6) (hp : p < 2 ^ 31) : f_X1_placeOf c (nI p) h = some (if p < m then atR w p else -1) := by
  unfold f_X1_placeOf
  rw [c_isPerson H.2.2.2.1.2.1 h6 hp]
  by_cases d : p < m
  · simp (disch := omega) only [decide_eq_true, ttt, tT, tF, zgd, zcl, (H.2.2.1 p d).1, if_pos]
  · simp only [decide_eq_false d, tff, if_neg d]
theorem c_holdOf {p : Nat} (H : CV0 c h n m w) (h6 : m ≤ 6) (hp : p < 2 ^ 31) : f_X1_holdOf c (nI p) h = some (if p < m then hdR w p else 0) := by
  unfold f_X1_holdOf
  rw [c_isPerson H.2.2.2.1.2.1 h6 hp]
  by_cases d : p < m
  · simp (disch := omega) only [decide_eq_true, ttt, tT, tF, zgd, zcl, (H.2.2.1 p d).2.1, if_pos]
  · simp only [decide_eq_false d, tff, if_neg d]
theorem c_daysOf {p : Nat} (H : CV0 c h n m w) (h6 : m ≤ 6) (hp : p < 2 ^ 31) : f_X1_daysOf c (nI p) h = some (if p < m then cmR w p else 0) := by
  unfold f_X1_daysOf
  rw [c_isPerson H.2.2.2.1.2.1 h6 hp]
  by_cases d : p < m
  · simp (disch := omega) only [decide_eq_true, ttt, tT, tF, zgd, zcl, (H.2.2.1 p d).2.2, if_pos]
  · simp only [decide_eq_false d, tff, if_neg d]
theorem c_isThere {p e : Nat} (H : CV0 c h n m w) (h6 : m ≤ 6) (hp : p < 2 ^ 31) (he : e < 7) : f_X1_isThere c (nI p) (nI e) h = some (decide (p < m) && tb (cmR w p) e) := by
  unfold f_X1_isThere
  rw [c_isPerson H.2.2.2.1.2.1 h6 hp]
  by_cases d : p < m
  · simp (disch := omega) only [decide_eq_true, ttt, tT, tF, zgd, zcl, (H.2.2.1 p d).2.2, if_pos, zn0, tF, zl7, shr_tb, Bool.true_and]
    cases tb (cmR w p) e <;> rfl
  · simp only [decide_eq_false d, tff, Bool.false_and]
end CR
/-! what is gone -/
theorem goneP_pt {i a o : Nat} {w : Row} (hi : i < 8) (ha : a < 8) (ho : o < 8) : ∀ j, j ≤ 8 → goneP i w j (10 + 8 * a + o) = if (a = i ∧ o < j) ∨ (o = i ∧ a < j) then 0 else w (10 + 8 * a + o)
  | 0, _ => by rw [if_neg (by omega)]; rfl
  | j + 1, hj => by
    show upd (upd (goneP i w j) (10 + 8 * i + j) 0) (10 + 8 * j + i) 0 (10 + 8 * a + o) = _
    unfold upd
    by_cases c1 : 10 + 8 * a + o = 10 + 8 * j + i
    · rw [if_pos c1, if_pos (by omega)]
    · rw [if_neg c1]
      by_cases c2 : 10 + 8 * a + o = 10 + 8 * i + j
      · rw [if_pos c2, if_pos (by omega)]
      · rw [if_neg c2, goneP_pt hi ha ho j (by omega)]
        by_cases c3 : (a = i ∧ o < j) ∨ (o = i ∧ a < j)
        · rw [if_pos c3, if_pos (by omega)]
        · rw [if_neg c3, if_neg (by omega)]
theorem goneQ_at {x : Int32} {w : Row} {p : Nat} : ∀ m, goneQ x w m (114 + 3 * p) = if p < m ∧ w (114 + 3 * p) = x then -1 else w (114 + 3 * p)
  | 0 => by rw [if_neg (fun q => absurd q.1 (Nat.not_lt_zero p))]; rfl
  | m + 1 => by
    show (if goneQ x w m (114 + 3 * m) = x then upd (goneQ x w m) (114 + 3 * m) (-1) else goneQ x w m) (114 + 3 * p) = _
    have e0 : goneQ x w m (114 + 3 * m) = w (114 + 3 * m) := by rw [goneQ_at m, if_neg (fun q => absurd q.1 (Nat.lt_irrefl m))]
    rw [e0]
    by_cases c : p = m
    · subst c
      by_cases d : w (114 + 3 * p) = x
      · rw [if_pos d, upd_at, if_pos ⟨Nat.lt_succ_self p, d⟩]
      · rw [if_neg d, e0, if_neg (fun q => d q.2)]
    · have e1 : (if w (114 + 3 * m) = x then upd (goneQ x w m) (114 + 3 * m) (-1) else goneQ x w m) (114 + 3 * p) = goneQ x w m (114 + 3 * p) := by
        split
        · exact upd_ob (by omega)
        · rfl
      rw [e1, goneQ_at m]
      by_cases d : p < m ∧ w (114 + 3 * p) = x
      · rw [if_pos d, if_pos ⟨by omega, d.2⟩]
      · rw [if_neg d, if_neg (fun q => d ⟨by omega, q.2⟩)]
theorem gone_pt {i m a o : Nat} {w : Row} (hi : i < 8) (ha : a < 8) (ho : o < 8) : ptR (goneW i m w) a o = if a = i ∨ o = i then 0 else ptR w a o := by
  unfold ptR goneW
  rw [goneQ_ob (by omega), goneP_pt hi ha ho 8 (Nat.le_refl 8)]
  by_cases c : a = i ∨ o = i
  · rw [if_pos c, if_pos (by omega)]
  · rw [if_neg c, if_neg (by omega), upd_ob (by omega)]
theorem gone_at {i m p : Nat} {w : Row} (hi : i < 8) (hp : p < m) : atR (goneW i m w) p = if atR w p = nI i then -1 else atR w p := by
  unfold atR goneW
  rw [goneQ_at m, goneP_ob (by omega) hi 8 (by omega), upd_ob (by omega)]
  by_cases c : w (114 + 3 * p) = nI i
  · rw [if_pos c, if_pos ⟨hp, c⟩]
  · rw [if_neg c, if_neg (fun q => c q.2)]
theorem gone_up {n i m j : Nat} {w : Row} (hi : i < 8) (hj : j < 8) (hm : m ≤ 6) : upB n (goneW i m w) j = (upB n w j && !decide (j = i)) := by
  unfold upB
  rw [gone_fal hi hj hm]
  cases decide (j < n) <;> cases decide (j = i) <;> cases falB w j <;> rfl
/-- a house is taken down: the heap -/
theorem c_takeDown {c : Nat} {h : Hp} {n m : Nat} {w : Row} {i : Nat} (H : CV0 c h n m w) (h8 : n ≤ 8) (h6 : m ≤ 6) (hi : i < n) :
    ∃ h', f_X1_takeDown c (nI i) h = some h' ∧ CV0 c h' n m (goneW i m w) ∧ ∀ k, k ≠ c → k ≠ c + 5 → k ≠ c + 6 → h' k = h k := by
  let h2 : Hp := up1 h c 11 ((h c 11) &&& ((shl 1 (nI i)) ^^^ (-1)))
  let P : Nat → Row := fun j k => if (k / 8 = i ∧ k % 8 < j) ∨ (k % 8 = i ∧ k / 8 < j) then 0 else h (c + 5) k
  let A : Nat → Row := fun j p => if p < j ∧ h (c + 6) p = nI i then -1 else h (c + 6) p
  have L2 : ∀ g : Hp, g (c + 6) = h (c + 6) → F_X1_takeDown_63 c (nI i) FU 0 g = some (upA g (c + 6) (A 6)) := by
    intro g hg
    have Q := loop0 (S_X1_takeDown_63 c (nI i)) (fun _ _ => none) (fun j q => q (nI j) (upA g (c + 6) (A j))) 6 (some (upA g (c + 6) (A 6))) (by omega) (fun j hj q => ?_) (fun q => ?_)
    · rw [show A 0 = g (c + 6) from by funext p; rw [hg]; exact if_neg (fun q => absurd q.1 (Nat.not_lt_zero p)), upA_self] at Q
      exact Q
    · show S_X1_takeDown_63 c (nI i) q (nI j) (upA g (c + 6) (A j)) = q (nI (j + 1)) (upA g (c + 6) (A (j + 1)))
      unfold S_X1_takeDown_63
      simp (disch := omega) only [zl6, if_pos, zgd, zcl, upA_at, ↓zbn, zsuc, up1_upA]
      have e0 : A j j = h (c + 6) j := if_neg (fun q => absurd q.1 (Nat.lt_irrefl j))
      rw [e0]
      by_cases d : h (c + 6) j = nI i
      · rw [if_pos d]
        congr 2
        funext p
        show upd (A j) j (-1) p = A (j + 1) p
        unfold upd
        by_cases z : p = j
        · rw [if_pos z, z]; exact (if_pos ⟨Nat.lt_succ_self j, d⟩).symm
        · rw [if_neg z]
          show (if p < j ∧ h (c + 6) p = nI i then -1 else h (c + 6) p) = (if p < j + 1 ∧ h (c + 6) p = nI i then -1 else h (c + 6) p)
          by_cases y : p < j ∧ h (c + 6) p = nI i
          · rw [if_pos y, if_pos ⟨by omega, y.2⟩]
          · rw [if_neg y, if_neg (fun q => y ⟨by omega, q.2⟩)]
      · rw [if_neg d]
        congr 2
        funext p
        show (if p < j ∧ h (c + 6) p = nI i then -1 else h (c + 6) p) = (if p < j + 1 ∧ h (c + 6) p = nI i then -1 else h (c + 6) p)
        by_cases y : p < j ∧ h (c + 6) p = nI i
        · rw [if_pos y, if_pos ⟨by omega, y.2⟩]
        · rw [if_neg y, if_neg (fun q => y ⟨by
            rcases Nat.lt_succ_iff_lt_or_eq.mp q.1 with z | z
            · exact z
            · rw [z] at q; exact absurd q.2 d, q.2⟩)]
    · show S_X1_takeDown_63 c (nI i) q (nI 6) (upA g (c + 6) (A 6)) = _
      unfold S_X1_takeDown_63
      simp (disch := omega) only [zl6, if_neg]
  have L1 : F_X1_takeDown_25 c (nI i) FU 0 h2 = some (upA (upA h2 (c + 5) (P 8)) (c + 6) (A 6)) := by
    have Q := loop0 (S_X1_takeDown_25 c (nI i)) (fun _ _ => none) (fun j q => q (nI j) (upA h2 (c + 5) (P j))) 8 (some (upA (upA h2 (c + 5) (P 8)) (c + 6) (A 6))) (by omega) (fun j hj q => ?_) (fun q => ?_)
    · rw [show P 0 = h2 (c + 5) from by
        funext k
        show (if (k / 8 = i ∧ k % 8 < 0) ∨ (k % 8 = i ∧ k / 8 < 0) then 0 else h (c + 5) k) = h2 (c + 5) k
        rw [if_neg (by omega), show h2 (c + 5) = h (c + 5) from up1_ob (by omega)], upA_self] at Q
      exact Q
    · show S_X1_takeDown_25 c (nI i) q (nI j) (upA h2 (c + 5) (P j)) = q (nI (j + 1)) (upA h2 (c + 5) (P (j + 1)))
      unfold S_X1_takeDown_25
      simp (disch := omega) only [zl8, if_pos, ix64, zgd, zcl, upA_at, ↓zbn, zsuc, up1_upA]
      congr 2
      funext k
      show upd (upd (P j) (8 * i + j) 0) (8 * j + i) 0 k = P (j + 1) k
      unfold upd
      by_cases c1 : k = 8 * j + i
      · rw [if_pos c1]
        refine (if_pos ?_).symm
        omega
      · rw [if_neg c1]
        by_cases c2 : k = 8 * i + j
        · rw [if_pos c2]
          refine (if_pos ?_).symm
          omega
        · rw [if_neg c2]
          show (if (k / 8 = i ∧ k % 8 < j) ∨ (k % 8 = i ∧ k / 8 < j) then 0 else h (c + 5) k) = (if (k / 8 = i ∧ k % 8 < j + 1) ∨ (k % 8 = i ∧ k / 8 < j + 1) then 0 else h (c + 5) k)
          by_cases y : (k / 8 = i ∧ k % 8 < j) ∨ (k % 8 = i ∧ k / 8 < j)
          · rw [if_pos y, if_pos (by omega)]
          · rw [if_neg y, if_neg (by omega)]
    · show S_X1_takeDown_25 c (nI i) q (nI 8) (upA h2 (c + 5) (P 8)) = _
      unfold S_X1_takeDown_25
      simp (disch := omega) only [zl8, if_neg]
      exact L2 _ (by rw [upA_ob (by omega)]; exact up1_ob (by omega))
  refine ⟨upA (upA h2 (c + 5) (P 8)) (c + 6) (A 6), ?_, ?_, fun k a b d => ?_⟩
  · unfold f_X1_takeDown
    rw [c_isHouse H.2.2.2.1.1 h8 (by omega), decide_eq_true hi, ttt, bnd_eq]
    exact L1
  · have r5 : (upA (upA h2 (c + 5) (P 8)) (c + 6) (A 6)) (c + 5) = P 8 := by rw [upA_ob (by omega), upA_at]
    have r6 : (upA (upA h2 (c + 5) (P 8)) (c + 6) (A 6)) (c + 6) = A 6 := upA_at
    have r0 : (upA (upA h2 (c + 5) (P 8)) (c + 6) (A 6)) c = upd (h c) 11 ((h c 11) &&& ((shl 1 (nI i)) ^^^ (-1))) := by rw [upA_ob (by omega), upA_ob (by omega)]; exact up1_at
    have ro : ∀ k, k ≠ c → k ≠ c + 5 → k ≠ c + 6 → (upA (upA h2 (c + 5) (P 8)) (c + 6) (A 6)) k = h k := fun k a b d => by rw [upA_ob d, upA_ob b]; exact up1_ob a
    obtain ⟨H1, H2, H3, H4, H5⟩ := H
    have k4 : goneW i m w 4 = w 4 ∧ goneW i m w 5 = w 5 ∧ goneW i m w 6 = w 6 ∧ goneW i m w 7 = w 7 ∧ goneW i m w 2 = w 2 ∧ goneW i m w 9 = w 9 := by
      refine ⟨?_, ?_, ?_, ?_, ?_, ?_⟩ <;> exact gone_ob (by omega) h6 (by omega)
    refine ⟨fun a ha => ?_, fun k hk => ?_, fun p hp => ?_, ⟨?_, ?_, ?_⟩, ?_, ?_, ?_, ?_, ?_, ?_⟩
    · rw [ro _ (by omega) (by omega) (by omega), ro _ (by omega) (by omega) (by omega), ro _ (by omega) (by omega) (by omega), ro _ (by omega) (by omega) (by omega)]
      unfold wtR fmR ivR agR
      rw [gone_ob (by omega) h6 (by omega), gone_ob (by omega) h6 (by omega), gone_ob (by omega) h6 (by omega), gone_ob (by omega) h6 (by omega)]
      exact H1 a ha
    · rw [r5]
      have e := gone_pt (i := i) (m := m) (a := k / 8) (o := k % 8) (w := w) (by omega) (by omega) (by omega)
      unfold ptR at e
      rw [show 10 + 8 * (k / 8) + k % 8 = 10 + k from by omega] at e
      rw [e, ← H2 k hk]
      show (if (k / 8 = i ∧ k % 8 < 8) ∨ (k % 8 = i ∧ k / 8 < 8) then 0 else h (c + 5) k) = _
      by_cases y : k / 8 = i ∨ k % 8 = i
      · rw [if_pos y, if_pos (by omega)]
      · rw [if_neg y, if_neg (by omega)]
    · rw [r6, ro _ (by omega) (by omega) (by omega), ro _ (by omega) (by omega) (by omega)]
      obtain ⟨a1, a2, a3⟩ := H3 p hp
      refine ⟨?_, ?_, ?_⟩
      · rw [gone_at (by omega) hp, ← a1]
        show (if p < 6 ∧ h (c + 6) p = nI i then -1 else h (c + 6) p) = _
        by_cases y : h (c + 6) p = nI i
        · rw [if_pos y, if_pos ⟨by omega, y⟩]
        · rw [if_neg y, if_neg (fun q => y q.2)]
      · unfold hdR; rw [gone_ob (by omega) h6 (by omega)]; exact a2
      · unfold cmR; rw [gone_ob (by omega) h6 (by omega)]; exact a3
    · rw [r0, upd_ob (by decide)]; exact H4.1
    · rw [r0, upd_ob (by decide)]; exact H4.2.1
    · rw [r0, upd_at, H4.2.2]
      apply tb_ext
      intro k hk
      rw [tb_and, tb_not hk, tb_s1 (by omega) hk]
      by_cases y : k < 8
      · rw [tb8 y, tb8 y, gone_up (by omega) y h6]
      · rw [tb_8hi (by omega) hk, tb_8hi (by omega) hk, Bool.false_and]
    · rw [r0, upd_ob (by decide), k4.1]; exact H5.1
    · rw [r0, upd_ob (by decide), k4.2.1]; exact H5.2.1
    · rw [r0, upd_ob (by decide), k4.2.2.1]; exact H5.2.2.1
    · rw [r0, upd_ob (by decide), k4.2.2.2.1]; exact H5.2.2.2.1
    · rw [r0, upd_ob (by decide), k4.2.2.2.2.1]; exact H5.2.2.2.2.1
    · rw [r0, upd_ob (by decide), k4.2.2.2.2.2]; exact H5.2.2.2.2.2
  · rw [upA_ob d, upA_ob b]; exact up1_ob a
