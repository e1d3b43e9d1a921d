/-! LAYER 4. law: codes told -/
def cdD (w : Row) (j : Nat) : Nat := (w (1390 + 2 * j)).toNatClampNeg
def CDr (u g : Hp) (j : Nat) : Prop := ∃ c, c ≤ 15 ∧ g 31 (1390 + 2 * j) = nI c ∧ u 521 j = nI (ccd c) ∧ (c = 9 → u 522 j = g 31 (1390 + 2 * j + 1))
def ES5 (B N : Nat) (s : List Bool) (u g : Hp) : Prop := u 516 7 = nI N ∧ g 30 18 = nI N ∧ B ≤ N ∧ (∀ j, B ≤ j → j < N → CDr u g j) ∧ tyR (cdD (g 31)) B (N - B) = some s ∧ tyOk (cdD (g 31)) B (N - B)
def FLc (N : Nat) (u u' : Hp) : Prop := (∀ k, k ≠ 2 → (k < 516 ∨ 522 < k) → u' k = u k) ∧ u' 2 1 = u 2 1 ∧ u' 516 8 = u 516 8 ∧ (∀ k, 517 ≤ k → k ≤ 520 → u' k = u k) ∧ ∀ j, j < N → u' 521 j = u 521 j ∧ u' 522 j = u 522 j
def FLm (N : Nat) (g g' : Hp) : Prop := (∀ k, k ≠ 30 → k ≠ 31 → g' k = g k) ∧ (∀ i, i ≠ 12 → i ≠ 14 → i ≠ 15 → i ≠ 18 → g' 30 i = g 30 i) ∧ ∀ k, k < 1390 + 2 * N → g' 31 k = g 31 k
theorem FLc_of {N : Nat} {u u' : Hp} (F : FRc u u') : FLc N u u' := ⟨fun k h _ => F.1 k h, F.2.1, by rw [F.1 516 (by decide)], fun k h _ => F.1 k (by omega), fun j _ => ⟨by rw [F.1 521 (by decide)], by rw [F.1 522 (by decide)]⟩⟩
theorem FLm_of {N : Nat} {g g' : Hp} (F : FRm g g') : FLm N g g' := ⟨fun k h _ => F.1 k h, fun i a b _ _ => F.2 i a b, fun k _ => by rw [F.1 31 (by decide)]⟩
theorem FLc_trans {N N' : Nat} {a c d : Hp} (x : FLc N a c) (y : FLc N' c d) (h : N ≤ N') : FLc N a d :=
  ⟨fun k p q => (y.1 k p q).trans (x.1 k p q), y.2.1.trans x.2.1, y.2.2.1.trans x.2.2.1, fun k p q => (y.2.2.2.1 k p q).trans (x.2.2.2.1 k p q), fun j hj => ⟨(y.2.2.2.2 j (by omega)).1.trans (x.2.2.2.2 j hj).1, (y.2.2.2.2 j (by omega)).2.trans (x.2.2.2.2 j hj).2⟩⟩
theorem FLm_trans {N N' : Nat} {a c d : Hp} (x : FLm N a c) (y : FLm N' c d) (h : N ≤ N') : FLm N a d :=
  ⟨fun k p q => (y.1 k p q).trans (x.1 k p q), fun i p q r s => (y.2.1 i p q r s).trans (x.2.1 i p q r s), fun k hk => (y.2.2 k (by omega)).trans (x.2.2 k hk)⟩
theorem FLc_22 {N : Nat} {u : Hp} {v : Int32} : FLc N u (up1 u 2 2 v) := ⟨fun k h _ => up1_ob h, by rw [up1_at, upd_ob (by decide)], by rw [up1_ob (by decide)], fun k h _ => up1_ob (by omega), fun j _ => ⟨by rw [up1_ob (by decide)], by rw [up1_ob (by decide)]⟩⟩
theorem FLm_15 {N : Nat} {g : Hp} {v : Int32} : FLm N g (up1 g 30 15 v) := ⟨fun k h _ => up1_ob h, fun i _ _ h _ => by rw [up1_at, upd_ob h], fun k _ => by rw [up1_ob (by decide)]⟩
theorem ty_cg {cd cd' : Nat → Nat} {B : Nat} : ∀ j, (∀ i, i < j → cd' (B + i) = cd (B + i)) → tyR cd' B j = tyR cd B j
  | 0, _ => rfl
  | j + 1, h => by
    show Option.bind (tyR cd' B j) (tyS (cd' (B + j))) = Option.bind (tyR cd B j) (tyS (cd (B + j)))
    rw [ty_cg j (fun i hi => h i (by omega)), h j (by omega)]
theorem ES5_mv {B N : Nat} {s : List Bool} {u g u' g' : Hp} (E : ES5 B N s u g) (h1 : u' 516 = u 516) (h2 : u' 521 = u 521) (h3 : u' 522 = u 522) (h4 : g' 31 = g 31) (h5 : g' 30 18 = g 30 18) : ES5 B N s u' g' := by
  obtain ⟨a, b, c, d, e, f⟩ := E
  exact ⟨by rw [h1]; exact a, by rw [h5]; exact b, c, fun j p q => by unfold CDr; rw [h2, h3, h4]; exact d j p q, by rw [h4]; exact e, by rw [h4]; exact f⟩
def adC (N : Nat) (x v : Int32) (u : Hp) : Hp := up1 (up1 (up1 u 521 N x) 522 N v) 516 7 (nI (N + 1))
def adM (N : Nat) (x v : Int32) (g : Hp) : Hp := up1 (up1 (up1 g 31 (1390 + 2 * N) x) 31 (1390 + 2 * N + 1) v) 30 18 (nI (N + 1))
theorem c_emit {N : Nat} {x v : Int32} {u : Hp} (h : u 516 7 = nI N) (hN : N < 400) : f_X4_addStep 516 x v u = some (true, adC N x v u) := by
  have a1 : (up1 u 521 N x) 516 7 = nI N := by rw [up1_ob (by decide)]; exact h
  have a2 : (up1 (up1 u 521 N x) 522 N v) 516 7 = nI N := by rw [up1_ob (by decide)]; exact a1
  unfold f_X4_addStep adC
  rw [h, if_neg (nI_pos (by omega)), if_pos (show nI N < 400 from (nI_ltI (b := 400) (by omega) (by omega)).mpr hN), gdT (nI_ix (by omega) (by omega)), bnd_eq, nI_clamp (by omega)]
  show gd (ix ((up1 u 521 N x) 516 7) 400) _ = _
  rw [a1, gdT (nI_ix (by omega) (by omega)), bnd_eq, nI_clamp (by omega)]
  show bnd (up1 (up1 (up1 u 521 N x) 522 N v) 516 7 (((up1 (up1 u 521 N x) 522 N v) 516 7) + 1)) _ = _
  rw [a2, bnd_eq, nI_1]
theorem m_emit {N : Nat} {x v : Int32} {g : Hp} (h : g 30 18 = nI N) (hN : N < 400) : f_X12_emits x v g = some (adM N x v g) := by
  have a1 : (up1 g 31 (1390 + 2 * N) x) 30 18 = nI N := by rw [up1_ob (by decide)]; exact h
  have a2 : (up1 (up1 g 31 (1390 + 2 * N) x) 31 (1390 + 2 * N + 1) v) 30 18 = nI N := by rw [up1_ob (by decide)]; exact a1
  have e1 : (1390 : Int32) + 2 * nI N = nI (1390 + 2 * N) := by rw [show (1390 : Int32) = nI 1390 from rfl, show (2 : Int32) = nI 2 from rfl, zmul, zadd]
  unfold f_X12_emits adM
  rw [h, e1, gdT (nI_ix (by omega) (by omega)), bnd_eq, nI_clamp (by omega), a1, e1, nI_1, gdT (nI_ix (by omega) (by omega)), bnd_eq, nI_clamp (by omega), a2, bnd_eq, nI_1]
theorem FLc_ad {N : Nat} {x v : Int32} {u : Hp} : FLc N u (adC N x v u) := by
  unfold adC
  refine ⟨fun k h1 h2 => by rw [up1_ob (by omega), up1_ob (by omega), up1_ob (by omega)], by rw [up1_ob (by decide), up1_ob (by decide), up1_ob (by decide)], by rw [up1_at, upd_ob (by decide), up1_ob (by decide), up1_ob (by decide)], fun k h1 h2 => by rw [up1_ob (by omega), up1_ob (by omega), up1_ob (by omega)], fun j hj => ⟨?_, ?_⟩⟩
  · rw [up1_ob (by decide), up1_ob (by decide), up1_at, upd_ob (by omega)]
  · rw [up1_ob (by decide), up1_at, upd_ob (by omega), up1_ob (by decide)]
theorem FLm_ad {N : Nat} {x v : Int32} {g : Hp} : FLm N g (adM N x v g) := by
  unfold adM
  refine ⟨fun k h1 h2 => by rw [up1_ob h1, up1_ob h2, up1_ob h2], fun i _ _ _ h => by rw [up1_at, upd_ob h, up1_ob (by decide), up1_ob (by decide)], fun k hk => by rw [up1_ob (by decide), up1_at, upd_ob (by omega), up1_at, upd_ob (by omega)]⟩
theorem em_1 {B N c : Nat} {s s' : List Bool} {u g : Hp} {v v' : Int32} (E : ES5 B N s u g) (hc : c ≤ 15) (t : tyS c s = some s') (h20 : s'.length ≤ 20) (hv : c = 9 → v = v') : ES5 B (N + 1) s' (adC N (nI (ccd c)) v u) (adM N (nI c) v' g) := by
  obtain ⟨e1, e2, e3, e4, e5, e6⟩ := E
  have g31 : (adM N (nI c) v' g) 31 = upd (upd (g 31) (1390 + 2 * N) (nI c)) (1390 + 2 * N + 1) v' := by
    unfold adM
    rw [up1_ob (by decide), up1_at, up1_at]
  have lo : ∀ i, i < N → cdD (upd (upd (g 31) (1390 + 2 * N) (nI c)) (1390 + 2 * N + 1) v') i = cdD (g 31) i := fun i hi => by
    unfold cdD; rw [upd_ob (by omega), upd_ob (by omega)]
  have ev : cdD (upd (upd (g 31) (1390 + 2 * N) (nI c)) (1390 + 2 * N + 1) v') N = c := by
    unfold cdD; rw [upd_ob (by omega), upd_at, nI_clamp (by omega)]
  have tj : ∀ j, B + j ≤ N → tyR (cdD (upd (upd (g 31) (1390 + 2 * N) (nI c)) (1390 + 2 * N + 1) v')) B j = tyR (cdD (g 31)) B j := fun j hj => ty_cg j fun i hi => lo _ (by omega)
  have tN : tyR (cdD (upd (upd (g 31) (1390 + 2 * N) (nI c)) (1390 + 2 * N + 1) v')) B (N + 1 - B) = some s' := by
    rw [show N + 1 - B = (N - B) + 1 by omega]
    show Option.bind (tyR _ B (N - B)) (tyS (cdD _ (B + (N - B)))) = _
    rw [tj _ (by omega), e5, show B + (N - B) = N by omega, ev]
    exact t
  have FC := FLc_ad (N := N) (x := nI (ccd c)) (v := v) (u := u)
  have FM := FLm_ad (N := N) (x := nI c) (v := v') (g := g)
  refine ⟨?_, ?_, by omega, fun j p q => ?_, by rw [g31]; exact tN, ?_⟩
  · unfold adC; rw [up1_same]
  · unfold adM; rw [up1_same]
  · by_cases z : j = N
    · refine ⟨c, hc, ?_, ?_, fun q9 => ?_⟩
      · rw [z, g31, upd_ob (by omega), upd_at]
      · rw [z]; unfold adC; rw [up1_ob (by decide), up1_ob (by decide), up1_same]
      · rw [z, g31, upd_at]; unfold adC; rw [up1_ob (by decide), up1_same]; exact hv q9
    · obtain ⟨y, y1, y2, y3, y4⟩ := e4 j p (by omega)
      exact ⟨y, y1, by rw [FM.2.2 _ (by omega)]; exact y2, by rw [(FC.2.2.2.2 j (by omega)).1]; exact y3, fun q9 => by rw [(FC.2.2.2.2 j (by omega)).2, FM.2.2 _ (by omega)]; exact y4 q9⟩
  · intro i hi
    rw [g31]
    by_cases z : i = N + 1 - B
    · exact ⟨s', by rw [z]; exact tN, h20⟩
    · rw [tj i (by omega)]; exact e6 i (by omega)
