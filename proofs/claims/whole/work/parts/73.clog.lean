/-! LAYER 4. The class's Log: a row more -/
def LW (c : Nat) (h : Hp) : Prop := ∃ L, L ≤ 60 ∧ h (c + 9) 1 = nI L
theorem LG_LW {c : Nat} {h : Hp} {w : Row} (H : LG c h w) : LW c h := by
  obtain ⟨L, a, _, b, _⟩ := H; exact ⟨L, a, b⟩
theorem c_set {k0 L f : Nat} {x v : Int32} {h : Hp} (hL : L < 60) (hf : f < 6) (hx : x = nI f) : f_X6_set k0 (nI L) x v h = some (up1 h (k0 + 1) (6 * L + f) v) := by
  subst hx
  unfold f_X6_set
  have e : nI L * 6 + nI f = nI (6 * L + f) := by rw [li6, zmul, zadd, Nat.mul_comm]
  simp (disch := omega) only [reduceIte, ↓zbn, zgd, zcl, zlt, zeq, zn0, zp0, ze0, zem, zsuc, zob, ztl, zfl, ztle, zfle, zte, zfe, zft, toB0, toB1, i10, i01, e, zl360]
def row6 (a b d e f g : Int32) : Nat → Int32
  | 0 => a
  | 1 => b
  | 2 => d
  | 3 => e
  | 4 => f
  | _ => g
theorem c_add32 {k0 L : Nat} {x1 x2 x3 x4 x5 x6 : Int32} {h : Hp} (hL : L < 60) (hr : h k0 1 = nI L) :
    ∃ h', F_X6_add_32 k0 x1 x2 x3 x4 x5 x6 h = some h' ∧ h' k0 1 = nI (L + 1) ∧ (∀ i, h' (k0 + 1) i = if 6 * L ≤ i ∧ i < 6 * L + 6 then row6 x1 x2 x3 x4 x5 x6 (i - 6 * L) else h (k0 + 1) i) ∧ ∀ k, k ≠ k0 → k ≠ k0 + 1 → h' k = h k := by
  unfold F_X6_add_32
  rw [bnd_eq, hr, nI_1]
  rw [c_set (x := 0) (f := 0) hL (by decide) rfl, obS, c_set (x := 1) (f := 1) hL (by decide) rfl, obS, c_set (x := 2) (f := 2) hL (by decide) rfl, obS, c_set (x := 3) (f := 3) hL (by decide) rfl, obS, c_set (x := 4) (f := 4) hL (by decide) rfl, obS, c_set (x := 5) (f := 5) hL (by decide) rfl, obS]
  refine ⟨_, rfl, ?_, fun i => ?_, fun k a b => ?_⟩
  · rw [up1_ob (by omega), up1_ob (by omega), up1_ob (by omega), up1_ob (by omega), up1_ob (by omega), up1_ob (by omega), up1_same]
  · simp only [up1_at]
    rw [up1_ob (show k0 + 1 ≠ k0 by omega)]
    by_cases z : 6 * L ≤ i ∧ i < 6 * L + 6
    · rw [if_pos z]
      have k : i = 6 * L + 0 ∨ i = 6 * L + 1 ∨ i = 6 * L + 2 ∨ i = 6 * L + 3 ∨ i = 6 * L + 4 ∨ i = 6 * L + 5 := by omega
      rcases k with rfl | rfl | rfl | rfl | rfl | rfl
      all_goals rw [show ∀ j, 6 * L + j - 6 * L = j from fun j => by omega]
      all_goals simp (disch := omega) only [upd_ob, upd_at]
      all_goals rfl
    · rw [if_neg z, upd_ob (by omega), upd_ob (by omega), upd_ob (by omega), upd_ob (by omega), upd_ob (by omega), upd_ob (by omega)]
  · rw [up1_ob b, up1_ob b, up1_ob b, up1_ob b, up1_ob b, up1_ob b, up1_ob a]
theorem tell_row {x1 x2 x3 x4 : Int32} {w : Row} {k f : Nat} (hk : k < 60) (hf : f < 6) :
    tellW x1 x2 x3 x4 w (132 + 6 * k + f) = if k = 0 then row6 (w 5) (w 4) x1 x2 x3 x4 f else w (132 + 6 * (k - 1) + f) := by
  unfold tellW
  by_cases z : k = 0
  · subst z
    rw [if_pos rfl]
    have q : f = 0 ∨ f = 1 ∨ f = 2 ∨ f = 3 ∨ f = 4 ∨ f = 5 := by omega
    rcases q with rfl | rfl | rfl | rfl | rfl | rfl
    all_goals simp (disch := omega) only [upd_ob, upd_at]
    all_goals rfl
  · rw [if_neg z]
    simp (disch := omega) only [upd_ob]
    unfold shW
    rw [if_pos (by omega)]
    congr 1
    omega
theorem tell_8 {x1 x2 x3 x4 : Int32} {w : Row} : tellW x1 x2 x3 x4 w 8 = imin 60 (w 8 + 1) := upd_at
theorem c_add {c : Nat} {x1 x2 x3 x4 x5 x6 : Int32} {h : Hp} (H : LW c h) :
    ∃ h', f_X6_add (c + 9) x1 x2 x3 x4 x5 x6 h = some h' ∧ LW c h' ∧ (∀ w, LG c h w → x1 = w 5 → x2 = w 4 → LG c h' (tellW x3 x4 x5 x6 w)) ∧ ∀ k, k ≠ c + 9 → k ≠ c + 10 → h' k = h k := by
  obtain ⟨L, hL, hr⟩ := H
  unfold f_X6_add
  rw [hr]
  by_cases z : L < 60
  · rw [if_pos (show nI L < 60 by rw [zl60 (by omega)]; exact z)]
    obtain ⟨h', e, e1, e2, e3⟩ := c_add32 (k0 := c + 9) (x1 := x1) (x2 := x2) (x3 := x3) (x4 := x4) (x5 := x5) (x6 := x6) z hr
    refine ⟨h', e, ⟨L + 1, by omega, e1⟩, fun w G y1 y2 => ?_, e3⟩
    obtain ⟨L', hL', w8, hr', rows⟩ := G
    have eL : L' = L := by
      rw [hr] at hr'
      exact ((nI_eq (by omega) (by omega)).mp hr').symm
    subst eL
    refine ⟨L' + 1, by omega, ?_, e1, fun k f hk hf => ?_⟩
    · rw [tell_8, w8, nI_1, show (60 : Int32) = nI 60 from rfl, zmin (by omega) (by omega), Nat.min_eq_right (by omega)]
    · rw [tell_row (by omega) hf, e2]
      by_cases y : k = 0
      · subst y
        rw [if_pos rfl, if_pos (by omega), y1, y2]
        congr 1
        omega
      · rw [if_neg y, if_neg (by omega), ← rows (k - 1) f (by omega) hf]
        congr 1
        omega
  · have L60 : L = 60 := by omega
    subst L60
    rw [if_neg (show ¬ nI 60 < 60 by decide), bnd_eq, bnd_eq]
    generalize hu : up1 (upA h (c + 9 + 1) (va_cpy (h (c + 9 + 1)) (h (c + 9 + 1)) 6 0 354)) (c + 9) 1 59 = u
    have u1 : u (c + 9) 1 = nI 59 := by rw [← hu, up1_same]; rfl
    have u10 : u (c + 9 + 1) = va_cpy (h (c + 9 + 1)) (h (c + 9 + 1)) 6 0 354 := by rw [← hu, up1_ob (by omega), upA_at]
    have uo : ∀ k, k ≠ c + 9 → k ≠ c + 10 → u k = h k := fun k a b => by rw [← hu, up1_ob a, upA_ob (by omega)]
    obtain ⟨h', e, e1, e2, e3⟩ := c_add32 (k0 := c + 9) (x1 := x1) (x2 := x2) (x3 := x3) (x4 := x4) (x5 := x5) (x6 := x6) (show 59 < 60 by decide) u1
    refine ⟨h', e, ⟨60, by omega, e1⟩, fun w G y1 y2 => ?_, fun k a b => (e3 k a b).trans (uo k a b)⟩
    obtain ⟨L', hL', w8, hr', rows⟩ := G
    have eL : L' = 60 := by
      rw [hr] at hr'
      exact ((nI_eq (by omega) (by omega)).mp hr').symm
    subst eL
    refine ⟨60, by omega, ?_, e1, fun k f hk hf => ?_⟩
    · rw [tell_8, w8, nI_1, show (60 : Int32) = nI 60 from rfl, zmin (by omega) (by omega), Nat.min_eq_left (by omega)]
    · rw [tell_row (by omega) hf]
      show h' (c + 9 + 1) _ = _
      rw [e2, u10]
      by_cases y : k = 0
      · subst y
        rw [if_pos rfl, if_pos (by omega), y1, y2, show 6 * (60 - 1 - 0) + f - 6 * 59 = f from by omega]
      · rw [if_neg y, if_neg (by omega), pk_cpy_in (by omega) (by omega), ← rows (k - 1) f (by omega) hf]
        show h (c + 10) _ = h (c + 10) _
        rw [show 6 + (6 * (60 - 1 - k) + f - 0) = 6 * (60 - 1 - (k - 1)) + f from by omega]
