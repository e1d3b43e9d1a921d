/-! LAYER 4. A house is built -/
def zR (n : Nat) (w : Row) : Nat → Row
  | 0 => w
  | j + 1 => upd (upd (zR n w j) (10 + 8 * n + j) 0) (10 + 8 * j + n) 0
theorem zR_k {n : Nat} {w : Row} (hn : n < 8) {k : Nat} : ∀ j, j ≤ 8 → zR n w j k = if 10 ≤ k ∧ k < 74 ∧ (((k - 10) / 8 = n ∧ (k - 10) % 8 < j) ∨ ((k - 10) % 8 = n ∧ (k - 10) / 8 < j)) then 0 else w k
  | 0, _ => (if_neg (by omega)).symm
  | j + 1, hj => by
    have ih := zR_k (w := w) hn (k := k) j (by omega)
    show upd (upd (zR n w j) (10 + 8 * n + j) 0) (10 + 8 * j + n) 0 k = _
    by_cases c : k = 10 + 8 * j + n
    · rw [c, upd_at, if_pos (by omega)]
    · rw [upd_ob c]
      by_cases d : k = 10 + 8 * n + j
      · rw [d, upd_at, if_pos (by omega)]
      · rw [upd_ob d, ih]
        by_cases e : 10 ≤ k ∧ k < 74 ∧ (((k - 10) / 8 = n ∧ (k - 10) % 8 < j) ∨ ((k - 10) % 8 = n ∧ (k - 10) / 8 < j))
        · rw [if_pos e, if_pos (by omega)]
        · rw [if_neg e, if_neg (by omega)]
def fvW (n : Nat) (a b : Int32) (w : Row) : Row := upd (upd (upd (upd (upd w (74 + 5 * n) a) (74 + 5 * n + 1) b) (74 + 5 * n + 2) 0) (74 + 5 * n + 3) 0) (74 + 5 * n + 4) 0
def blW (n : Nat) (a b : Int32) (w : Row) : Row := upd (zR n (fvW n a b w) 8) 0 (nI (n + 1))
theorem fv_ob {n k : Nat} {a b : Int32} {w : Row} (h : k < 74 + 5 * n ∨ 74 + 5 * n + 4 < k) : fvW n a b w k = w k := by
  unfold fvW
  rw [upd_ob (by omega), upd_ob (by omega), upd_ob (by omega), upd_ob (by omega), upd_ob (by omega)]
theorem bl_ob {n k : Nat} {a b : Int32} {w : Row} (hn : n < 8) (h0 : k ≠ 0) (h1 : k < 10 ∨ 74 ≤ k) (h2 : k < 74 + 5 * n ∨ 74 + 5 * n + 4 < k) : blW n a b w k = w k := by
  unfold blW
  rw [upd_ob h0, zR_k hn 8 (by omega), if_neg (by omega), fv_ob h2]
theorem bl_0 {n : Nat} {a b : Int32} {w : Row} : blW n a b w 0 = nI (n + 1) := upd_at
theorem bl_pt {n i o : Nat} {a b : Int32} {w : Row} (hn : n < 8) (hi : i < 8) (ho : o < 8) : blW n a b w (10 + 8 * i + o) = if i = n ∨ o = n then 0 else w (10 + 8 * i + o) := by
  unfold blW
  rw [upd_ob (by omega), zR_k hn 8 (by omega), fv_ob (by omega)]
  have e1 : (10 + 8 * i + o - 10) / 8 = i := by omega
  have e2 : (10 + 8 * i + o - 10) % 8 = o := by omega
  rw [e1, e2]
  by_cases c : i = n ∨ o = n
  · rw [if_pos c, if_pos (by omega)]
  · rw [if_neg c, if_neg (by omega)]
theorem bl_hs {n x : Nat} {a b : Int32} {w : Row} (hn : n < 8) (hx : x < 5) : blW n a b w (74 + 5 * n + x) = if x = 0 then a else if x = 1 then b else 0 := by
  unfold blW
  rw [upd_ob (by omega), zR_k hn 8 (by omega), if_neg (by omega)]
  unfold fvW
  by_cases c0 : x = 0
  · subst c0; rw [upd_ob (by omega), upd_ob (by omega), upd_ob (by omega), upd_ob (by omega)]; rw [show 74 + 5 * n + 0 = 74 + 5 * n from rfl, upd_at]; rfl
  by_cases c1 : x = 1
  · subst c1; rw [upd_ob (by omega), upd_ob (by omega), upd_ob (by omega), upd_at]; rfl
  rw [if_neg c0, if_neg c1]
  by_cases c2 : x = 2
  · subst c2; rw [upd_ob (by omega), upd_ob (by omega), upd_at]
  by_cases c3 : x = 3
  · subst c3; rw [upd_ob (by omega), upd_at]
  obtain rfl : x = 4 := by omega
  rw [upd_at]
theorem up1_A {h : Hp} {k i : Nat} {v : Int32} : up1 h k i v = upA h k (upd (h k) i v) := funext fun j => by
  by_cases c : j = k
  · rw [c, up1_at, upA_at]
  · rw [up1_ob c, upA_ob c]
theorem m_isBuilt {h : Hp} {n : Nat} {a b : Int32} (hn : h 31 0 = nI n) (h7 : n < 8) : f_X12_isBuilt a b h = some (upA h 31 (blW n a b (h 31))) := by
  obtain ⟨W, hW⟩ : ∃ W, fvW n a b (h 31) = W := ⟨_, rfl⟩
  have W0 : W 0 = nI n := by rw [← hW, fv_ob (by omega)]; exact hn
  have Q := loop0 (S_X12_isBuilt_63 (nI n)) (fun _ _ => none) (fun j q => q (nI j) (upA h 31 (zR n W j))) 8 (some (upA h 31 (upd (zR n W 8) 0 (nI (n + 1))))) (by omega) (fun j hj q => ?_) (fun q => ?_)
  · have at_ : ∀ (x : Nat) (u : Hp), f_X12_at (nI n) (nI x) u = nI (74 + 5 * n + x) := fun x u => m_atI
    unfold f_X12_isBuilt blW
    rw [bnd_eq, m_houses, hn, show ∀ u, f_X12_at (nI n) 0 u = nI (74 + 5 * n + 0) from at_ 0, gdT (nI_ix (by omega) (by omega)), bnd_eq, nI_clamp (by omega), show ∀ u, f_X12_at (nI n) 1 u = nI (74 + 5 * n + 1) from at_ 1, gdT (nI_ix (by omega) (by omega)), bnd_eq, nI_clamp (by omega),
      show ∀ u, f_X12_at (nI n) 2 u = nI (74 + 5 * n + 2) from at_ 2, gdT (nI_ix (by omega) (by omega)), bnd_eq, nI_clamp (by omega), show ∀ u, f_X12_at (nI n) 3 u = nI (74 + 5 * n + 3) from at_ 3, gdT (nI_ix (by omega) (by omega)), bnd_eq, nI_clamp (by omega),
      show ∀ u, f_X12_at (nI n) 4 u = nI (74 + 5 * n + 4) from at_ 4, gdT (nI_ix (by omega) (by omega)), bnd_eq, nI_clamp (by omega), up1_A (h := h), up1_upA, up1_upA, up1_upA, up1_upA, hW]
    show F_X12_isBuilt_63 (nI n) FU 0 (upA h 31 (fvW n a b (h 31))) = _
    rw [hW]
    exact Q
  · show S_X12_isBuilt_63 (nI n) q (nI j) (upA h 31 (zR n W j)) = q (nI (j + 1)) (upA h 31 (upd (upd (zR n W j) (10 + 8 * n + j) 0) (10 + 8 * j + n) 0))
    have p1 : ∀ u : Hp, f_X12_partAt (nI n) (nI j) u = nI (10 + 8 * n + j) := fun u => m_partAtI
    have p2 : ∀ u : Hp, f_X12_partAt (nI j) (nI n) u = nI (10 + 8 * j + n) := fun u => m_partAtI
    unfold S_X12_isBuilt_63
    rw [show (8 : Int32) = nI 8 from rfl, if_pos ((nI_ltI (by omega) (by omega)).mpr hj), p1, gdT (nI_ix (by omega) (by omega)), bnd_eq, nI_clamp (by omega), p2, gdT (nI_ix (by omega) (by omega)), bnd_eq, nI_clamp (by omega), up1_upA, up1_upA, nI_1]
  · show S_X12_isBuilt_63 (nI n) q (nI 8) (upA h 31 (zR n W 8)) = _
    unfold S_X12_isBuilt_63
    rw [show (8 : Int32) = nI 8 from rfl, if_neg (by decide), bnd_eq, upA_at, zR_k h7 8 (by omega), if_neg (by omega), W0, nI_1, up1_upA]
/-- the house's ivy and age as told -/
def biW (n : Nat) (a b c d : Int32) (w : Row) : Row := upd (upd (blW n a b w) (74 + 5 * n + 2) c) (74 + 5 * n + 3) d
theorem upd_eq {w : Row} {k : Nat} {v : Int32} (h : w k = v) : upd w k v = w := by rw [← h]; exact upd_id
theorem bi_00 {n : Nat} {a b : Int32} {w : Row} (hn : n < 8) : biW n a b 0 0 w = blW n a b w := by
  unfold biW
  rw [upd_eq (w := blW n a b w) (k := 74 + 5 * n + 2) (by rw [bl_hs hn (by omega)]; rfl), upd_eq (by rw [bl_hs hn (by omega)]; rfl)]
theorem bi_ob {n k : Nat} {a b c d : Int32} {w : Row} (hn : n < 8) (h0 : k ≠ 0) (h1 : k < 10 ∨ 74 ≤ k) (h2 : k < 74 + 5 * n ∨ 74 + 5 * n + 4 < k) : biW n a b c d w k = w k := by
  unfold biW
  rw [upd_ob (by omega), upd_ob (by omega), bl_ob hn h0 h1 h2]
theorem bi_0 {n : Nat} {a b c d : Int32} {w : Row} : biW n a b c d w 0 = nI (n + 1) := by
  unfold biW
  rw [upd_ob (by omega), upd_ob (by omega), bl_0]
theorem bi_pt {n i o : Nat} {a b c d : Int32} {w : Row} (hn : n < 8) (hi : i < 8) (ho : o < 8) : biW n a b c d w (10 + 8 * i + o) = if i = n ∨ o = n then 0 else w (10 + 8 * i + o) := by
  unfold biW
  rw [upd_ob (by omega), upd_ob (by omega), bl_pt hn hi ho]
theorem bi_w {n : Nat} {a b c d : Int32} {w : Row} (hn : n < 8) : biW n a b c d w (74 + 5 * n) = a ∧ biW n a b c d w (74 + 5 * n + 1) = b ∧ biW n a b c d w (74 + 5 * n + 2) = c ∧ biW n a b c d w (74 + 5 * n + 3) = d ∧ biW n a b c d w (74 + 5 * n + 4) = 0 := by
  unfold biW
  refine ⟨?_, ?_, ?_, ?_, ?_⟩
  · rw [upd_ob (by omega), upd_ob (by omega)]; exact bl_hs (x := 0) hn (by omega)
  · rw [upd_ob (by omega), upd_ob (by omega)]; exact bl_hs (x := 1) hn (by omega)
  · rw [upd_ob (by omega), upd_at]
  · rw [upd_at]
  · rw [upd_ob (by omega), upd_ob (by omega)]; exact bl_hs (x := 4) hn (by omega)
theorem bi_up {n i : Nat} {a b c d : Int32} {w : Row} (hn : n < 8) : upB (n + 1) (biW n a b c d w) i = if i = n then true else upB n w i := by
  unfold upB falB
  by_cases e : i = n
  · rw [e, if_pos rfl, (bi_w hn).2.2.2.2, decide_eq_true (show n < n + 1 by omega)]; rfl
  · rw [if_neg e, bi_ob hn (by omega) (by omega) (by omega)]
    by_cases l : i < n
    · rw [decide_eq_true l, decide_eq_true (show i < n + 1 by omega)]
    · rw [decide_eq_false l, decide_eq_false (show ¬ i < n + 1 by omega)]
theorem bi_Gd {n m a b c d : Nat} {w : Row} (g : Gd n m w) (hn : n < 8) (ha : a ≤ 99) (hb : b ≤ 999) (hc : c ≤ 9) (hd : d ≤ 99) : Gd (n + 1) m (biW n (nI a) (nI b) (nI c) (nI d) w) := by
  obtain ⟨⟨gn0, gn1, gn2, gn3, gnL⟩, g1, g2, g3, g4, g5, g6, g7, g9, g8⟩ := g
  have o : ∀ k, k ≠ 0 → (k < 10 ∨ 114 ≤ k) → biW n (nI a) (nI b) (nI c) (nI d) w k = w k := fun k x y => bi_ob hn x (by omega) (by omega)
  obtain ⟨w0, w1, w2, w3, w4⟩ := bi_w (a := nI a) (b := nI b) (c := nI c) (d := nI d) (w := w) hn
  refine ⟨⟨bi_0, by omega, by rw [o 1 (by omega) (by omega)]; exact gn2, gn3, GdL_cg (fun k hk => o k (by omega) (by omega)) gnL⟩, fun i hi => ?_, fun i j hi hj => ?_, fun p hp => ?_, bd_eq (o _ (by omega) (by omega)) g4, bd_eq (o _ (by omega) (by omega)) g5, bd_eq (o _ (by omega) (by omega)) g6, bd_eq (o _ (by omega) (by omega)) g7, bd_eq (o _ (by omega) (by omega)) g9, bd_eq (o _ (by omega) (by omega)) g8⟩
  · by_cases e : i = n
    · rw [e]
      exact ⟨⟨a, ha, w0⟩, ⟨b, hb, w1⟩, ⟨c, hc, w2⟩, ⟨d, hd, w3⟩, ⟨0, by omega, w4⟩⟩
    · obtain ⟨x0, x1, x2, x3, x4⟩ := g1 i hi
      exact ⟨bd_eq (bi_ob hn (by omega) (by omega) (by omega)) x0, bd_eq (bi_ob hn (by omega) (by omega) (by omega)) x1, bd_eq (bi_ob hn (by omega) (by omega) (by omega)) x2, bd_eq (bi_ob hn (by omega) (by omega) (by omega)) x3, bd_eq (bi_ob hn (by omega) (by omega) (by omega)) x4⟩
  · obtain ⟨x, y⟩ := g2 i j hi hj
    rw [bi_up hn, bi_up hn, bi_pt hn hi hj]
    by_cases e : i = n ∨ j = n
    · exact ⟨⟨0, by omega, by rw [bi_pt hn hi hj, if_pos e]; rfl⟩, fun _ => if_pos e⟩
    · refine ⟨bd_eq (by rw [bi_pt hn hi hj, if_neg e]) x, fun q => ?_⟩
      rw [if_neg (fun z => e (Or.inl z)), if_neg (fun z => e (Or.inr z))] at q
      rw [if_neg e]
      exact y q
  · obtain ⟨x, y, z⟩ := g3 p hp
    refine ⟨?_, bd_eq (o _ (by omega) (by omega)) y, bd_eq (o _ (by omega) (by omega)) z⟩
    rw [o _ (by omega) (by omega)]
    exact x.imp id fun ⟨i, l, f, e⟩ => ⟨i, by omega, by unfold falB; rw [bi_ob hn (by omega) (by omega) (by omega)]; exact f, e⟩
theorem c_addHouse {c n m : Nat} {h : Hp} {w : Row} {x1 x2 x3 x4 : Int32} (H : CV0 c h n m w) (g : Gd n m w) (hn : n < 8) :
    ∃ h', f_X1_addHouse c x1 x2 x3 x4 h = some (nI n, h') ∧ CV0 c h' (n + 1) m (biW n x1 x2 x3 x4 w) ∧ ∀ k, (k < c ∨ c + 4 < k) → h' k = h k := by
  have hc9 := H.2.2.2.1.1
  have h6 := g.1.2.2.2.1
  obtain ⟨u, hu⟩ : ∃ u, up1 (up1 (up1 (up1 h (c + 1) n x1) (c + 2) n x2) (c + 3) n x3) (c + 4) n x4 = u := ⟨_, rfl⟩
  have uc : u c = h c := by rw [← hu, up1_ob (by omega), up1_ob (by omega), up1_ob (by omega), up1_ob (by omega)]
  obtain ⟨v, hv⟩ : ∃ v, up1 (up1 u c 11 (u c 11 ||| shl 1 (nI n))) c 9 (nI (n + 1)) = v := ⟨_, rfl⟩
  have vo : ∀ k, k ≠ c → v k = u k := fun k x => by rw [← hv, up1_ob x, up1_ob x]
  have vc : ∀ i, i ≠ 9 → i ≠ 11 → v c i = h c i := fun i x y => by rw [← hv, up1_at, upd_ob x, up1_at, upd_ob y, uc]
  refine ⟨v, ?_, ?_, fun k hk => by rw [vo k (by omega), ← hu, up1_ob (by omega), up1_ob (by omega), up1_ob (by omega), up1_ob (by omega)]⟩
  · unfold f_X1_addHouse
    rw [hc9, if_neg (nI_pos (by omega)), show (8 : Int32) = nI 8 from rfl, if_pos ((nI_ltI (by omega) (by omega)).mpr hn), gdT (nI_ix (by omega) (by omega)), bnd_eq, gdT (nI_ix (by omega) (by omega)), bnd_eq, gdT (nI_ix (by omega) (by omega)), bnd_eq, gdT (nI_ix (by omega) (by omega)), nI_clamp (by omega), bnd_eq, hu, bnd_eq, bnd_eq, up1_at, upd_ob (by decide), uc, hc9, nI_1, ← hv, uc]
  · have u4 : ∀ i, (u (c + 1) i = if i = n then x1 else h (c + 1) i) ∧ (u (c + 2) i = if i = n then x2 else h (c + 2) i) ∧ (u (c + 3) i = if i = n then x3 else h (c + 3) i) ∧ (u (c + 4) i = if i = n then x4 else h (c + 4) i) := fun i => by
      rw [← hu]
      simp (disch := omega) only [up1_ob, up1_at]
      exact ⟨rfl, rfl, rfl, rfl⟩
    obtain ⟨w0, w1, w2, w3, w4⟩ := bi_w (a := x1) (b := x2) (c := x3) (d := x4) (w := w) hn
    obtain ⟨a1, a2, a3, ⟨b1, b2, b3⟩, a5⟩ := H
    have o : ∀ k, k ≠ 0 → (k < 10 ∨ 114 ≤ k) → biW n x1 x2 x3 x4 w k = w k := fun k x y => bi_ob hn x (by omega) (by omega)
    refine ⟨fun i hi => ?_, fun k hk => ?_, fun p hp => ?_, ⟨?_, ?_, ?_⟩, ?_⟩
    · obtain ⟨y1, y2, y3, y4⟩ := u4 i
      obtain ⟨z1, z2, z3, z4⟩ := a1 i hi
      rw [vo _ (by omega), vo _ (by omega), vo _ (by omega), vo _ (by omega), y1, y2, y3, y4]
      unfold wtR fmR ivR agR
      by_cases e : i = n
      · rw [if_pos e, if_pos e, if_pos e, if_pos e, e]
        exact ⟨w0.symm, w1.symm, w2.symm, w3.symm⟩
      · rw [if_neg e, if_neg e, if_neg e, if_neg e, bi_ob hn (by omega) (by omega) (by omega), bi_ob hn (by omega) (by omega) (by omega), bi_ob hn (by omega) (by omega) (by omega), bi_ob hn (by omega) (by omega) (by omega)]
        exact ⟨z1, z2, z3, z4⟩
    · rw [vo _ (by omega), ← hu, up1_ob (by omega), up1_ob (by omega), up1_ob (by omega), up1_ob (by omega), a2 k hk]
      have bp := bi_pt (a := x1) (b := x2) (c := x3) (d := x4) (w := w) (i := k / 8) (o := k % 8) hn (by omega) (by omega)
      rw [show 10 + 8 * (k / 8) + k % 8 = 10 + k by omega] at bp
      rw [bp]
      by_cases e : k / 8 = n ∨ k % 8 = n
      · rw [if_pos e]
        have z := (g.2.2.1 (k / 8) (k % 8) (by omega) (by omega)).2 (e.elim (fun q => Or.inl (upB_hi (by omega))) (fun q => Or.inr (Or.inl (upB_hi (by omega)))))
        rw [show 10 + 8 * (k / 8) + k % 8 = 10 + k by omega] at z
        exact z
      · rw [if_neg e]
    · rw [vo _ (by omega), vo _ (by omega), vo _ (by omega), ← hu]
      simp (disch := omega) only [up1_ob]
      unfold atR hdR cmR
      rw [o _ (by omega) (by omega), o _ (by omega) (by omega), o _ (by omega) (by omega)]
      exact a3 p hp
    · rw [← hv, up1_at, upd_at]
    · rw [vc 10 (by decide) (by decide)]; exact b2
    · rw [← hv, up1_at, upd_ob (by decide), up1_at, upd_at, uc, b3]
      refine tb_ext fun k hk => ?_
      rw [tb_or, orTo_tb _ _ (by omega) _ hk, orTo_tb _ _ (by omega) _ hk, tb_s1 (by omega) hk, bi_up hn]
      by_cases e : k = n
      · rw [if_pos e, decide_eq_true e, decide_eq_true (show k < 8 by omega)]
        exact Bool.or_true _
      · rw [if_neg e, decide_eq_false e, Bool.or_false]
    · rw [vc 12 (by decide) (by decide), vc 13 (by decide) (by decide), vc 14 (by decide) (by decide), vc 15 (by decide) (by decide), vc 16 (by decide) (by decide), vc 17 (by decide) (by decide), o 4 (by omega) (by omega), o 5 (by omega) (by omega), o 6 (by omega) (by omega), o 7 (by omega) (by omega), o 2 (by omega) (by omega), o 9 (by omega) (by omega)]
      exact a5
