/-! LAYER 4. order, means: the model's rows -/
def rowO (E f p : Nat) : Nat := (f / 8 ^ (E - 1 - p)) % 8
def KZ (h u : Hp) : Prop := (∀ k, (k < 30 ∨ 46 < k ∨ k = 31 ∨ k = 32 ∨ k = 35 ∨ k = 38) → u k = h k) ∧ ∀ i, i ≠ 20 → i ≠ 22 → u 30 i = h 30 i
theorem KZ_refl (h : Hp) : KZ h h := ⟨fun _ _ => rfl, fun _ _ _ => rfl⟩
theorem KZ_trans {a b c : Hp} (x : KZ a b) (y : KZ b c) : KZ a c := ⟨fun k hk => (y.1 k hk).trans (x.1 k hk), fun i p q => (y.2 i p q).trans (x.2 i p q)⟩
theorem KZ_1 {h : Hp} {k i : Nat} {v : Int32} (hk : 40 ≤ k ∧ k ≤ 46) : KZ h (up1 h k i v) := ⟨fun j hj => up1_ob (by omega), fun i _ _ => by rw [up1_ob (by omega)]⟩
theorem KZ_KM {h u : Hp} (K : KZ h u) : KM h u := ⟨K.1, fun i _ y z => K.2 i y z⟩
section MO
variable {n m E : Nat} {w : Row} {h u : Hp} {b : Nat → Nat}
def rvB (f j x : Nat) : Bool := anyTo (fun i => decide ((f / 8 ^ i) % 8 = x)) j
theorem rv_ds {f x : Nat} : rvB f E x = dsB (rowO E f) E x := by
  rw [Bool.eq_iff_iff]
  unfold rvB dsB
  rw [anyTo_t, anyTo_t]
  constructor
  · rintro ⟨i, hi, e⟩
    refine ⟨E - 1 - i, by omega, ?_⟩
    unfold rowO
    rw [show E - 1 - (E - 1 - i) = i by omega]
    exact e
  · rintro ⟨i, hi, e⟩
    exact ⟨E - 1 - i, by omega, e⟩
theorem rv_or {f j : Nat} : orTo (rvB f j) 8 ||| shl 1 (nI ((f / 8 ^ j) % 8)) = orTo (rvB f (j + 1)) 8 := by
  rw [shl_8 (Nat.mod_lt _ (by omega)), orTo_or (by omega)]
  exact orTo_congr 8 fun k _ => by
    show (rvB f j k || decide (k = f / 8 ^ j % 8)) = (rvB f j k || decide (f / 8 ^ j % 8 = k))
    congr 1
    exact decide_eq_decide.mpr ⟨Eq.symm, Eq.symm⟩
theorem m_laysRow {f : Nat} (hE : E ≤ 5) (hf : f < 2 ^ 20) (e13 : h 30 13 = nI E) (hb : ∀ i, i < E → b i < 8 ∧ h 38 i = nI (b i)) :
    ∃ u, f_X12_laysRow (nI f) h = some (prmB (dsB b E) E (rowO E f), u) ∧ (∀ p, p < E → u 41 p = nI (rowO E f p)) ∧ KZ h u ∧ u 42 = h 42 := by
  have Q := loopW S_X12_laysRow_12 (fun _ _ _ _ => none) (fun q (s : Nat × Hp) => q (nI (f / 8 ^ s.1)) (orTo (rvB f s.1) 8) (nI E - nI (s.1 + 1)) s.2) E (fun j s => s.1 = j ∧ (∀ i, i < j → s.2 41 (E - 1 - i) = nI ((f / 8 ^ i) % 8)) ∧ KZ h s.2 ∧ s.2 42 = h 42)
    (fun r => ∃ u, r = some (prmB (dsB b E) E (rowO E f), u) ∧ (∀ p, p < E → u 41 p = nI (rowO E f p)) ∧ KZ h u ∧ u 42 = h 42) (by omega) (fun j s hj hs => ?_) (fun s hs => ?_) (0, h) ⟨rfl, fun i hi => absurd hi (Nat.not_lt_zero i), KZ_refl h, rfl⟩
  · unfold f_X12_laysRow
    rw [bnd_eq, e13]
    dsimp only at Q
    rw [Nat.pow_zero, Nat.div_one, show orTo (rvB f 0) 8 = 0 from or0_8.mpr fun _ _ => rfl] at Q
    exact Q
  · obtain ⟨j', v⟩ := s
    dsimp only at hs
    obtain ⟨hj', v1, K, v42⟩ := hs
    obtain rfl : j' = j := hj'
    obtain ⟨x1, x2, x3⟩ := dm E (by omega) j' hj
    have fb : f / 8 ^ j' ≤ f := Nat.div_le_self _ _
    refine ⟨(j' + 1, up1 v 41 (E - 1 - j') (nI ((f / 8 ^ j') % 8))), ⟨rfl, fun i hi => ?_, KZ_trans K (KZ_1 (by omega)), by dsimp only; rw [up1_ob (by decide), v42]⟩, fun q => ?_⟩
    · dsimp only
      rw [up1_at]
      by_cases z : i = j'
      · rw [z, upd_at]
      · rw [upd_ob (by omega), v1 i (by omega)]
    · show S_X12_laysRow_12 q (nI (f / 8 ^ j')) (orTo (rvB f j') 8) (nI E - nI (j' + 1)) v = q (nI (f / 8 ^ (j' + 1))) (orTo (rvB f (j' + 1)) 8) (nI E - nI (j' + 1 + 1)) _
      unfold S_X12_laysRow_12
      rw [if_neg x2, x1, x3, gdT (nI_ix (by omega) (by omega)), bnd_eq, nI_clamp (by omega), show (8 : Int32) = nI 8 from rfl, zrm (by omega) (by omega) (by omega), zdv (by omega) (by omega) (by omega), bnd_eq, rv_or, Nat.div_div_eq_div_mul, ← Nat.pow_succ]
  · obtain ⟨j', v⟩ := s
    dsimp only at hs
    obtain ⟨hj', v1, K, v42⟩ := hs
    subst hj'
    have Q2 := loop0 (S_X12_laysRow_56 (orTo (rvB f j') 8)) (fun _ _ _ => none) (fun i r => r (orTo (dsB b i) 8) (nI i) v) j' (some (prmB (dsB b j') j' (rowO j' f), v)) (by omega) (fun i hi r => ?_) (fun r => ?_)
    · refine ⟨_, ⟨v, rfl, fun p hp => ?_, K, v42⟩, fun q => ?_⟩
      · have := v1 (j' - 1 - p) (by omega)
        rw [show j' - 1 - (j' - 1 - p) = p by omega] at this
        exact this
      · show S_X12_laysRow_12 q (nI (f / 8 ^ j')) (orTo (rvB f j') 8) (nI j' - nI (j' + 1)) v = _
        unfold S_X12_laysRow_12
        rw [if_pos (dme j' (by omega))]
        rw [show orTo (dsB b 0) 8 = 0 from or0_8.mpr fun _ _ => rfl] at Q2
        exact Q2
    · show S_X12_laysRow_56 (orTo (rvB f j') 8) r (orTo (dsB b i) 8) (nI i) v = r (orTo (dsB b (i + 1)) 8) (nI (i + 1)) v
      have ⟨b8, e38⟩ := hb i hi
      unfold S_X12_laysRow_56
      rw [K.2 13 (by decide) (by decide), e13, if_pos ((nI_ltI (by omega) (by omega)).mpr hi), gdT (nI_ix (by omega) (by omega)), nI_clamp (by omega), K.1 38 (by omega), e38, bnd_eq, ds_or b8, nI_1]
    · show S_X12_laysRow_56 (orTo (rvB f j') 8) r (orTo (dsB b j') 8) (nI j') v = _
      have er : orTo (rvB f j') 8 = orTo (dsB (rowO j' f) j') 8 := orTo_congr 8 fun x _ => rv_ds
      unfold S_X12_laysRow_56 prmB
      rw [K.2 13 (by decide) (by decide), e13, if_neg (fun z => absurd ((nI_ltI (by omega) (by omega)).mp z) (Nat.lt_irrefl _)), er]
      by_cases z : orTo (dsB (rowO j' f) j') 8 = orTo (dsB b j') 8
      · rw [if_pos z, decide_eq_true z]
      · rw [if_neg z, decide_eq_false z]
theorem m_stepsOfRow {path : Nat → Nat} (g : Gd n m w) (hE : E ≤ 5) (e31 : h 31 = w) (e13 : h 30 13 = nI E) (h21 : h 30 21 = 0) (h41 : ∀ p, p < E → h 41 p = nI (path p)) (hp : ∀ p, p < E → path p < n) :
    ∃ u, f_X12_stepsOfRow h = some (nI (stepsO n m w E path), u) ∧ KZ h u ∧ u 41 = h 41 ∧ u 42 = h 42 := by
  have h8 := g.1.2.1
  have h6 := g.1.2.2.2.1
  obtain ⟨r, hr⟩ : ∃ r, upA h 34 (mixR (h 31) (h 34) 492) = r := ⟨_, rfl⟩
  have ro : ∀ k, k ≠ 34 → r k = h k := fun k x => by rw [← hr, upA_ob x]
  have Kr : KEPT w r := by
    rw [← hr, ← e31]
    exact keep_K
  have Q := loopW S_X12_stepsOfRow_8 (fun _ _ _ => none) (fun q (s : Nat × Hp) => q (nI (runO n m w path s.1).2) (nI s.1) s.2) E (fun j s => s.1 = j ∧ s.2 31 = (runO n m w path j).1 ∧ KT r s.2 ∧ s.2 41 = h 41 ∧ s.2 42 = h 42)
    (fun x => ∃ u, x = some (nI (stepsO n m w E path), u) ∧ KZ h u ∧ u 41 = h 41 ∧ u 42 = h 42) (by omega) (fun j s hj hs => ?_) (fun s hs => ?_) (0, r) ⟨rfl, by dsimp only; rw [ro 31 (by decide), e31]; rfl, ⟨fun _ _ => rfl, fun _ _ _ => rfl⟩, ro 41 (by decide), ro 42 (by decide)⟩
  · unfold f_X12_stepsOfRow
    rw [m_keepsM, obS, hr]
    exact Q
  · obtain ⟨j', v⟩ := s
    dsimp only at hs
    obtain ⟨hj', v31, K, v41, v42⟩ := hs
    obtain rfl : j' = j := hj'
    have pn := hp j' hj
    have gj := run_Gd (path := path) g j' (fun i hi => hp i (by omega))
    have v13 : v 30 13 = nI E := by rw [K.2 13 (by decide) (by decide), ro 30 (by decide), e13]
    have v21 : v 30 21 = 0 := by rw [K.2 21 (by decide) (by decide), ro 30 (by decide), h21]
    have vr : v 41 j' = nI (path j') := by rw [v41]; exact h41 j' hj
    have rs : runO n m w path (j' + 1) = stO n m j' (path j') (runO n m w path j') := rfl
    cases fj : falB (runO n m w path j').1 (path j')
    · have g2 := gone_Gd pn gj
      have e4 : goneW (path j') m (runO n m w path j').1 4 = (runO n m w path j').1 4 := gone_4 gj pn
      obtain ⟨t, et, w1, r1, f1, _⟩ := m_allFall (h := upA v 31 (goneW (path j') m (runO n m w path j').1)) (n := n) (m := m) (e := (runO n m w path j').1 4) (by rw [upA_at]; exact g2.1)
      rw [upA_at, upA_ob (by decide), v21] at et w1 r1
      have rs2 : runO n m w path (j' + 1) = ((fallW n m ((runO n m w path j').1 4) 0 (goneW (path j') m (runO n m w path j').1)).2.2, (runO n m w path j').2 + j' * (1 + fcN n m ((runO n m w path j').1 4) (goneW (path j') m (runO n m w path j').1))) := by
        rw [rs]; unfold stO; rw [fj, tff]
      refine ⟨(j' + 1, t), ⟨rfl, by dsimp only; rw [w1, rs2], ⟨fun k hk => ?_, fun i a c => by dsimp only; rw [r1, upd_ob c, upd_ob a, K.2 i a c]⟩, by dsimp only; rw [f1 41 (by decide) (by decide) (by decide) (by decide) (by decide), upA_ob (by decide), v41], by dsimp only; rw [f1 42 (by decide) (by decide) (by decide) (by decide) (by decide), upA_ob (by decide), v42]⟩, fun q => ?_⟩
      · dsimp only
        rw [f1 k (by omega) (by omega) (by omega) (by omega) (by omega), upA_ob (by omega), K.1 k hk]
      · show S_X12_stepsOfRow_8 q (nI (runO n m w path j').2) (nI j') v = q (nI (runO n m w path (j' + 1)).2) (nI (j' + 1)) t
        unfold S_X12_stepsOfRow_8
        rw [v13, if_pos ((nI_ltI (by omega) (by omega)).mpr hj), gdT (nI_ix (by omega) (by omega)), gdT (nI_ix (by omega) (by omega)), nI_clamp (by omega), vr, m_isF (by omega), v31, fj, obS, tff, m_isGone (m := m) (by rw [v31]; exact gj.1.2.2.1) h6 (by omega), obS, v31, upA_at, e4, et, obS]
        dsimp only
        rw [fc_bc g2.1, show (1 : Int32) + nI (fcN n m ((runO n m w path j').1 4) (goneW (path j') m (runO n m w path j').1)) = nI (1 + fcN n m ((runO n m w path j').1 4) (goneW (path j') m (runO n m w path j').1)) from zadd 1 _, zmul, zadd, bnd_eq, nI_1, rs2]
    · have rs2 : runO n m w path (j' + 1) = runO n m w path j' := by
        rw [rs]; unfold stO; rw [fj, ttt]
      refine ⟨(j' + 1, v), ⟨rfl, by dsimp only; rw [v31, rs2], K, v41, v42⟩, fun q => ?_⟩
      show S_X12_stepsOfRow_8 q (nI (runO n m w path j').2) (nI j') v = q (nI (runO n m w path (j' + 1)).2) (nI (j' + 1)) v
      unfold S_X12_stepsOfRow_8
      rw [v13, if_pos ((nI_ltI (by omega) (by omega)).mpr hj), gdT (nI_ix (by omega) (by omega)), gdT (nI_ix (by omega) (by omega)), nI_clamp (by omega), vr, m_isF (by omega), v31, fj, obS, ttt, nI_1, rs2]
  · obtain ⟨j', v⟩ := s
    dsimp only at hs
    obtain ⟨hj', v31, K, v41, v42⟩ := hs
    subst hj'
    have v13 : v 30 13 = nI j' := by rw [K.2 13 (by decide) (by decide), ro 30 (by decide), e13]
    have Kv : KEPT w v := ⟨fun k hk => by rw [K.1 34 (by omega)]; exact Kr.1 k hk, fun k hk => by rw [v31]; exact run_law h8 h6 (by omega) j' (fun i hi => by have := hp i hi; omega)⟩
    refine ⟨_, ⟨upA v 31 (mixR (v 34) (v 31) 492), rfl, ⟨fun k hk => ?_, fun i a c => by rw [upA_ob (by decide), K.2 i a c, ro 30 (by decide)]⟩, by rw [upA_ob (by decide), v41], by rw [upA_ob (by decide), v42]⟩, fun q => ?_⟩
    · by_cases c : k = 31
      · rw [c, back_31 Kv, e31]
      · rw [upA_ob c, K.1 k (by omega), ro k (by omega)]
    · show S_X12_stepsOfRow_8 q (nI (runO n m w path j').2) (nI j') v = _
      unfold S_X12_stepsOfRow_8
      rw [v13, if_neg (fun z => absurd ((nI_ltI (by omega) (by omega)).mp z) (Nat.lt_irrefl _)), m_backM, obS]
      rfl
def stM (n m E : Nat) (w : Row) (b : Nat → Nat) (f : Nat) : OS := fldN (fun r s => leafM (dsB b E) E (stepsO n m w E) (rowO E r) s) (-1, path0) f
theorem stM_ok (h8 : n ≤ 8) (hE : E ≤ 5) (f : Nat) : stOk (stM n m E w b f) :=
  fldN_ind (fun _ (s : OS) => stOk s) (Or.inl rfl) f fun j s _ o => by
    show stOk (if prmB (dsB b E) E (rowO E j) then keepO E (stepsO n m w E (rowO E j)) (rowO E j) s else s)
    split
    · exact Or.inr (keep_set (st_1000 h8 hE _) o)
    · exact o
theorem stM_end {told : Nat → Bool} (ht : told = dsB b E) (cE : cnt (dsB b E) 8 = E) : stM n m E w b (8 ^ E) = bstO n m E w told := by
  rw [ht]
  unfold bstO
  have cn0 : cnt (dsB path0 0) 8 = 0 := cnt_ext (n := 0) 8 (Nat.zero_le _) fun _ _ _ => rfl
  have v0 : vldP (dsB b E) path0 0 := ⟨fun x _ q => Bool.noConfusion (show false = true from q), cn0⟩
  rw [← en_cs cE E path0 0 _ (by omega) v0, ← en_num (E := E) (leaf := leafM (dsB b E) E (stepsO n m w E)) (fun p q e st => ?_) E 0 path0 (by omega)]
  · refine fldN_congr _ fun r _ s => ?_
    have : (fun p => if p < 0 then path0 p else (r / 8 ^ (E - 1 - p)) % 8) = rowO E r := funext fun p => if_neg (Nat.not_lt_zero p)
    rw [this]
  · have e1 : prmB (dsB b E) E p = prmB (dsB b E) E q := by
      unfold prmB
      rw [orTo_congr 8 fun x _ => show dsB p E x = dsB q E x from anyTo_congr E fun i hi => by rw [e i hi]]
    have e2 : stepsO n m w E p = stepsO n m w E q := by unfold stepsO; rw [run_congr e]
    have e3 : cutP E p = cutP E q := funext fun i => by
      unfold cutP
      by_cases c : i < E
      · rw [if_pos c, if_pos c, e i c]
      · rw [if_neg c, if_neg c]
    unfold leafM keepO
    rw [e1, e2, e3]
theorem m_bo52 {x1 x3 x2 : Int32} {s : Nat} {path : Nat → Nat} (hE : E ≤ 5) (e13 : h 30 13 = nI E) (h41 : ∀ p, p < E → h 41 p = nI (path p)) :
    ∃ u, (∀ q : Int32 → Int32 → Hp → Option (Int32 × Hp), F_X12_bestOrder_52 q x1 x2 x3 (nI s) FU 0 h = q (if x2 < nI s then nI s else x2) (x3 + 1) u) ∧ KZ h u ∧ if x2 < nI s then ∀ p, p < E → u 42 p = nI (path p) else u 42 = h 42 := by
  by_cases c : x2 < nI s
  · have Q := loopQ (fun (q : Int32 → Int32 → Hp → Option (Int32 × Hp)) k => F_X12_bestOrder_52 q x1 x2 x3 (nI s) k) (fun q r => S_X12_bestOrder_52 q x1 x2 x3 (nI s) r) (fun q k => rfl) (fun r (t : Nat × Hp) => r (nI t.1) t.2) E (fun j t => t.1 = j ∧ (∀ p, p < j → t.2 42 p = nI (path p)) ∧ t.2 41 = h 41 ∧ KZ h t.2)
      (fun x => ∃ u, (x = fun q => q (nI s) (x3 + 1) u) ∧ KZ h u ∧ ∀ p, p < E → u 42 p = nI (path p)) (by omega) (fun j t hj ht => ?_) (fun t ht => ?_) (0, h) ⟨rfl, fun p hp => absurd hp (Nat.not_lt_zero p), rfl, KZ_refl h⟩
    · obtain ⟨u, e, K, u42⟩ := Q
      exact ⟨u, fun q => by rw [if_pos c]; exact congrFun e q, K, by rw [if_pos c]; exact u42⟩
    · obtain ⟨j', v⟩ := t
      dsimp only at ht
      obtain ⟨hj', v1, v41, K⟩ := ht
      obtain rfl : j' = j := hj'
      refine Or.inl ⟨(j' + 1, up1 v 42 j' (nI (path j'))), ⟨rfl, fun p hp => ?_, by dsimp only; rw [up1_ob (by decide), v41], KZ_trans K (KZ_1 (by omega))⟩, fun q r => ?_⟩
      · dsimp only
        rw [up1_at]
        by_cases z : p = j'
        · rw [z, upd_at]
        · rw [upd_ob z, v1 p (by omega)]
      · show S_X12_bestOrder_52 q x1 x2 x3 (nI s) r (nI j') v = r (nI (j' + 1)) _
        unfold S_X12_bestOrder_52
        rw [K.2 13 (by decide) (by decide), e13, if_pos ((nI_ltI (by omega) (by omega)).mpr hj), if_pos c, gdT (nI_ix (by omega) (by omega)), gdT (nI_ix (by omega) (by omega)), bnd_eq, nI_clamp (by omega), v41, h41 j' hj, nI_1]
    · obtain ⟨j', v⟩ := t
      dsimp only at ht
      obtain ⟨hj', v1, v41, K⟩ := ht
      subst hj'
      refine ⟨_, ⟨v, rfl, K, v1⟩, fun q r => ?_⟩
      show S_X12_bestOrder_52 q x1 x2 x3 (nI s) r (nI j') v = _
      unfold S_X12_bestOrder_52 F_X12_bestOrder_87 imax
      rw [K.2 13 (by decide) (by decide), e13, if_neg (fun z => absurd ((nI_ltI (by omega) (by omega)).mp z) (Nat.lt_irrefl _)), if_pos c, bnd_eq]
  · refine ⟨h, fun q => ?_, KZ_refl h, by rw [if_neg c]⟩
    rw [if_neg c]
    have Q := loopV (S_X12_bestOrder_52 q x1 x2 x3 (nI s)) (fun _ _ => none) (fun r (_ : Unit) => r 0 h) 1 (fun _ _ => True)
      (fun r => r = q x2 (x3 + 1) h) (by omega) (fun j s hj hs => ?_) (fun s hs => ?_) () trivial
    · exact Q
    · refine Or.inr ⟨_, rfl, fun r => ?_⟩
      show S_X12_bestOrder_52 q x1 x2 x3 (nI _) r 0 h = _
      unfold S_X12_bestOrder_52 F_X12_bestOrder_87 imax
      rw [if_neg c, if_neg c, bnd_eq, ite_self]
    · refine ⟨_, rfl, fun r => ?_⟩
      show S_X12_bestOrder_52 q x1 x2 x3 (nI _) r 0 h = _
      unfold S_X12_bestOrder_52 F_X12_bestOrder_87 imax
      rw [if_neg c, if_neg c, bnd_eq, ite_self]
theorem m_bestOrder (g : Gd n m w) (hE : E ≤ 5) (e31 : h 31 = w) (e13 : h 30 13 = nI E) (h21 : h 30 21 = 0) (hb : ∀ i, i < E → b i < n ∧ h 38 i = nI (b i)) :
    ∃ u, f_X12_bestOrder h = some ((stM n m E w b (8 ^ E)).1, u) ∧ KZ h u ∧ (stSet (stM n m E w b (8 ^ E)) → ∀ p, p < E → u 42 p = nI ((stM n m E w b (8 ^ E)).2 p)) := by
  have h8 := g.1.2.1
  have p8 : 8 ^ E ≤ 32768 := Nat.le_trans (Nat.pow_le_pow_right (by omega) hE) (by decide)
  have Q1 := loop0 (S_X12_bestOrder_6 (-1)) (fun _ _ _ => none) (fun j q => q (nI (8 ^ j)) (nI j) h) E (F_X12_bestOrder_27 (nI (8 ^ E)) FU (-1) 0 h) (by omega) (fun j hj q => ?_) (fun q => ?_)
  · have Q := loopW (S_X12_bestOrder_27 (nI (8 ^ E))) (fun _ _ _ => none) (fun q (s : Nat × Hp) => q (stM n m E w b s.1).1 (nI s.1) s.2) (8 ^ E) (fun f s => s.1 = f ∧ KZ h s.2 ∧ (stSet (stM n m E w b f) → ∀ p, p < E → s.2 42 p = nI ((stM n m E w b f).2 p)))
      (fun x => ∃ u, x = some ((stM n m E w b (8 ^ E)).1, u) ∧ KZ h u ∧ (stSet (stM n m E w b (8 ^ E)) → ∀ p, p < E → u 42 p = nI ((stM n m E w b (8 ^ E)).2 p))) (by omega) (fun f s hf hs => ?_) (fun s hs => ?_) (0, h) ⟨rfl, KZ_refl h, fun ⟨x, hx, e⟩ => absurd e.symm (fun y => (zem (by omega)).mp y)⟩
    · unfold f_X12_bestOrder
      have Q1' : F_X12_bestOrder_6 (-1) FU 1 0 h = F_X12_bestOrder_27 (nI (8 ^ E)) FU (-1) 0 h := Q1
      rw [Q1']
      exact Q
    · obtain ⟨f', v⟩ := s
      dsimp only at hs
      obtain ⟨hf', K, v42⟩ := hs
      obtain rfl : f' = f := hf'
      have sM : stM n m E w b (f' + 1) = if prmB (dsB b E) E (rowO E f') then keepO E (stepsO n m w E (rowO E f')) (rowO E f') (stM n m E w b f') else stM n m E w b f' := rfl
      obtain ⟨x, e1, x41, Kx, x42⟩ := m_laysRow (h := v) (b := b) (E := E) (f := f') hE (by omega) (by rw [K.2 13 (by decide) (by decide)]; exact e13) (fun i hi => ⟨by have := (hb i hi).1; omega, by rw [K.1 38 (by omega)]; exact (hb i hi).2⟩)
      have K1 := KZ_trans K Kx
      rw [sM]
      cases c : prmB (dsB b E) E (rowO E f')
      · refine ⟨(f' + 1, x), ⟨rfl, K1, ?_⟩, fun q => ?_⟩
        · rw [tff]
          intro a p hp
          dsimp only
          rw [x42]
          exact v42 a p hp
        · show S_X12_bestOrder_27 (nI (8 ^ E)) q (stM n m E w b f').1 (nI f') v = q (stM n m E w b (f' + 1)).1 (nI (f' + 1)) x
          rw [sM, c]
          unfold S_X12_bestOrder_27
          rw [if_pos ((nI_ltI (by omega) (by omega)).mpr hf), e1, obS, c]
          dsimp only
          rw [tff, tff, nI_1]
      · have pn : ∀ p, p < E → rowO E f' p < n := fun p hp => by
          have e := orTo_in.mp (of_decide_eq_true c)
          have r8 : rowO E f' p < 8 := Nat.mod_lt _ (by omega)
          have d1 : dsB (rowO E f') E (rowO E f' p) = true := anyTo_t.mpr ⟨p, hp, decide_eq_true rfl⟩
          rw [e _ r8] at d1
          obtain ⟨i, hi, q⟩ := anyTo_t.mp d1
          rw [← of_decide_eq_true q]
          exact (hb i hi).1
        obtain ⟨y, e2, Ky, y41, y42⟩ := m_stepsOfRow (h := x) (path := rowO E f') g hE (by rw [K1.1 31 (by omega)]; exact e31) (by rw [K1.2 13 (by decide) (by decide)]; exact e13) (by rw [K1.2 21 (by decide) (by decide)]; exact h21) x41 pn
        have K2 := KZ_trans K1 Ky
        obtain ⟨z, e3, Kz, z42⟩ := m_bo52 (h := y) (x1 := nI (8 ^ E)) (x3 := nI f') (x2 := (stM n m E w b f').1) (s := stepsO n m w E (rowO E f')) (path := rowO E f') hE (by rw [K2.2 13 (by decide) (by decide)]; exact e13) (fun p hp => by rw [y41]; exact x41 p hp)
        refine ⟨(f' + 1, z), ⟨rfl, KZ_trans K2 Kz, ?_⟩, fun q => ?_⟩
        · rw [ttt]
          unfold keepO
          intro a p hp
          dsimp only
          by_cases d : (stM n m E w b f').1 < nI (stepsO n m w E (rowO E f'))
          · rw [if_pos d] at z42 ⊢
            rw [z42 p hp]
            exact congrArg nI (show rowO E f' p = cutP E (rowO E f') p from (if_pos hp).symm)
          · rw [if_neg d] at z42 a ⊢
            rw [z42, y42, x42]
            exact v42 a p hp
        · show S_X12_bestOrder_27 (nI (8 ^ E)) q (stM n m E w b f').1 (nI f') v = q (stM n m E w b (f' + 1)).1 (nI (f' + 1)) z
          rw [sM, c]
          unfold S_X12_bestOrder_27
          rw [if_pos ((nI_ltI (by omega) (by omega)).mpr hf), e1, obS, c]
          dsimp only
          rw [ttt, ttt, e2, obS]
          dsimp only
          rw [e3, nI_1]
          unfold keepO
          by_cases d : (stM n m E w b f').1 < nI (stepsO n m w E (rowO E f'))
          · rw [if_pos d, if_pos d]
          · rw [if_neg d, if_neg d]
    · obtain ⟨f', v⟩ := s
      dsimp only at hs
      obtain ⟨hf', K, v42⟩ := hs
      subst hf'
      refine ⟨_, ⟨v, rfl, K, v42⟩, fun q => ?_⟩
      show S_X12_bestOrder_27 (nI (8 ^ E)) q (stM n m E w b (8 ^ E)).1 (nI (8 ^ E)) v = _
      unfold S_X12_bestOrder_27
      rw [if_neg (fun z => absurd ((nI_ltI (by omega) (by omega)).mp z) (Nat.lt_irrefl _))]
  · show S_X12_bestOrder_6 (-1) q (nI (8 ^ j)) (nI j) h = q (nI (8 ^ (j + 1))) (nI (j + 1)) h
    unfold S_X12_bestOrder_6
    rw [e13, if_pos ((nI_ltI (by omega) (by omega)).mpr hj), show (8 : Int32) = nI 8 from rfl, zmul, nI_1, ← Nat.pow_succ]
  · show S_X12_bestOrder_6 (-1) q (nI (8 ^ E)) (nI E) h = _
    unfold S_X12_bestOrder_6
    rw [e13, if_neg (fun z => absurd ((nI_ltI (by omega) (by omega)).mp z) (Nat.lt_irrefl _))]
end MO
