/-! LAYER 4. What holds between two calls -/
def actR (h : Hp) (j : Nat) : Row := fun k => if k < 492 then h 35 (492 * j + k) else h 31 k
def slotN (F j : Nat) : Nat := 148 + 16 * ((F + j) % 12)
def NOW (n m : Nat) (h : Hp) : Prop := Gd n m (h 31) ∧ CV0 100 h n m (h 31) ∧ LG 100 h (h 31) ∧ LV 500 h (h 31)
/-- acts remembered -/
def PAs (h : Hp) : Prop := ∃ F C, F < 12 ∧ C ≤ 12 ∧ h 1 13 = nI F ∧ h 1 14 = nI C ∧ h 30 7 = nI C ∧ ∀ j, j < C → ∃ n m, Gd n m (actR h j) ∧ CV0 (slotN F j) h n m (actR h j) ∧ LG (slotN F j) h (actR h j) ∧ actR h j 3 = h 31 3
/-- the image -/
def IMs (h : Hp) : Prop := (∀ k, 1536 ≤ k → h 20 k = 0) ∧ ∃ b : Bool, h 1 11 = bI b ∧ h 30 6 = bI b ∧ (b = true → ∃ n m, Gd n m (h 32) ∧ CV0 132 h n m (h 32) ∧ LG 132 h (h 32) ∧ LV 532 h (h 32))
def byS (b : Nat) : Int32 := if b < 128 then nI b else nI b - 256
/-- the tape and the latest fault -/
def TPs (h : Hp) : Prop := ∃ L, L ≤ 400 ∧ h 2 1 = nI L ∧ h 30 11 = nI L ∧ (∀ i, i < L → ∃ b, b < 256 ∧ h 3 i = nI b ∧ h 38 i = byS b) ∧ h 2 2 = h 30 16
def Inv (h : Hp) : Prop := (∃ n m, NOW n m h) ∧ TPs h ∧ IMs h ∧ PAs h ∧ h 30 21 = 0
/-- what a call of the class that asks leaves -/
def KC (h h' : Hp) : Prop := ∀ k, (k ≤ 3 ∨ k = 20 ∨ (27 ≤ k ∧ k ≤ 110) ∨ (132 ≤ k ∧ k < 340) ∨ (500 ≤ k ∧ k ≤ 506) ∨ (532 ≤ k ∧ k ≤ 538)) → h' k = h k
/-- what a call of the model that asks leaves -/
def KM (h h' : Hp) : Prop := (∀ k, (k < 30 ∨ 46 < k ∨ k = 31 ∨ k = 32 ∨ k = 35 ∨ k = 38) → h' k = h k) ∧ ∀ i, i ≠ 0 → i ≠ 20 → i ≠ 22 → h' 30 i = h 30 i
theorem KC_refl (h : Hp) : KC h h := fun _ _ => rfl
theorem KC_trans {a b c : Hp} (x : KC a b) (y : KC b c) : KC a c := fun k hk => (y k hk).trans (x k hk)
theorem KM_refl (h : Hp) : KM h h := ⟨fun _ _ => rfl, fun _ _ _ _ => rfl⟩
theorem KM_trans {a b c : Hp} (x : KM a b) (y : KM b c) : KM a c := ⟨fun k hk => (y.1 k hk).trans (x.1 k hk), fun i p q r => (y.2 i p q r).trans (x.2 i p q r)⟩
theorem KM_0 {h : Hp} {v : Int32} : KM h (up1 h 30 0 v) := ⟨fun k hk => up1_ob (by omega), fun i p _ _ => by rw [up1_at, upd_ob p]⟩
theorem KM_ES {a b : Hp} (x : ES a b) : KM a b := ⟨fun k hk => x k (by omega) (by omega) (by omega), fun i _ _ _ => by rw [x 30 (by decide) (by decide) (by decide)]⟩
/-- the class's rows, the model's that last -/
theorem Inv_of {h h' : Hp} (I : Inv h) (hk : ∀ k, (k ≤ 3 ∨ k = 20 ∨ k = 31 ∨ k = 32 ∨ k = 35 ∨ k = 38 ∨ (100 ≤ k ∧ k ≤ 110) ∨ (132 ≤ k ∧ k < 340) ∨ (500 ≤ k ∧ k ≤ 506) ∨ (532 ≤ k ∧ k ≤ 538)) → h' k = h k) (h30 : ∀ i, i ≠ 0 → i ≠ 20 → i ≠ 22 → h' 30 i = h 30 i) : Inv h' := by
  obtain ⟨⟨n, m, g, a, b, d⟩, ⟨L, t1, t2, t3, t4, t5⟩, ⟨z20, b0, i1, i2, i3⟩, ⟨F, C, p1, p2, p3, p4, p5, p6⟩, h21⟩ := I
  have e31 := hk 31 (by omega)
  have eact : ∀ j, actR h' j = actR h j := fun j => by unfold actR; rw [e31, hk 35 (by omega)]
  refine ⟨⟨n, m, by rw [e31]; exact g, by rw [e31]; exact CV0_fr a fun k x y => hk k (by omega), by rw [e31]; exact LG_fr b fun k x y => hk k (by omega), by rw [e31]; exact LV_fr d fun k x y => hk k (by omega)⟩, ⟨L, t1, ?_, ?_, fun i hi => ?_, ?_⟩, ⟨fun k hk2 => by rw [hk 20 (by omega)]; exact z20 k hk2, b0, ?_, ?_, fun hb => ?_⟩, ⟨F, C, p1, p2, ?_, ?_, ?_, fun j hj => ?_⟩, ?_⟩
  · rw [hk 2 (by omega)]; exact t2
  · rw [h30 11 (by decide) (by decide) (by decide)]; exact t3
  · obtain ⟨x, y1, y2, y3⟩ := t4 i hi
    exact ⟨x, y1, by rw [hk 3 (by omega)]; exact y2, by rw [hk 38 (by omega)]; exact y3⟩
  · rw [hk 2 (by omega), h30 16 (by decide) (by decide) (by decide)]; exact t5
  · rw [hk 1 (by omega)]; exact i1
  · rw [h30 6 (by decide) (by decide) (by decide)]; exact i2
  · obtain ⟨n', m', x1, x2, x3, x4⟩ := i3 hb
    have e32 := hk 32 (by omega)
    exact ⟨n', m', by rw [e32]; exact x1, by rw [e32]; exact CV0_fr x2 fun k x y => hk k (by omega), by rw [e32]; exact LG_fr x3 fun k x y => hk k (by omega), by rw [e32]; exact LV_fr x4 fun k x y => hk k (by omega)⟩
  · rw [hk 1 (by omega)]; exact p3
  · rw [hk 1 (by omega)]; exact p4
  · rw [h30 7 (by decide) (by decide) (by decide)]; exact p5
  · obtain ⟨n', m', x1, x2, x3, x4⟩ := p6 j hj
    have sl : 148 ≤ slotN F j ∧ slotN F j + 10 < 340 := by unfold slotN; omega
    exact ⟨n', m', by rw [eact]; exact x1, by rw [eact]; exact CV0_fr x2 fun k x y => hk k (by omega), by rw [eact]; exact LG_fr x3 fun k x y => hk k (by omega), by rw [eact, e31]; exact x4⟩
  · rw [h30 21 (by decide) (by decide) (by decide)]; exact h21
theorem Inv_KC {h h' : Hp} (I : Inv h) (K : KC h h') : Inv h' := Inv_of I (fun k hk => K k (by omega)) (fun i _ _ _ => by rw [K 30 (by omega)])
theorem Inv_KM {h h' : Hp} (I : Inv h) (K : KM h h') : Inv h' := Inv_of I (fun k hk => K.1 k (by omega)) K.2
theorem Inv_50 {h : Hp} {v : Int32} (I : Inv h) : Inv (up1 h 50 0 v) := Inv_of I (fun k hk => up1_ob (by omega)) (fun i _ _ _ => by rw [up1_ob (by decide)])
theorem KC_31 {h h' : Hp} (K : KC h h') : h' 31 = h 31 := K 31 (by omega)
/-! throws -/
theorem exOk {α β : Type} {v : α} {h : Hp} {k : α → Hp → Option (Except String β × Hp)} : exB ((Except.ok v : Except String α), h) k = k v h := rfl
theorem exEr {α β : Type} {e : String} {h : Hp} {k : α → Hp → Option (Except String β × Hp)} : exB ((Except.error e : Except String α), h) k = some (Except.error e, h) := rfl
theorem tI0 {c : Int32} {h : Hp} : f_X12_throwsIf 0 c h = some (false, h) := rfl
theorem tI1 {c : Int32} {h : Hp} : f_X12_throwsIf 1 c h = some (true, up1 h 30 0 c) := rfl
theorem tIf {c : Int32} {h : Hp} : f_X12_throwsIf (b2i false) c h = some (false, h) := rfl
theorem tIt {c : Int32} {h : Hp} : f_X12_throwsIf (b2i true) c h = some (true, up1 h 30 0 c) := rfl
theorem in_ok {j a b : Nat} {h : Hp} (h1 : a ≤ j) (h2 : j ≤ b) (hb : b < 2 ^ 31) : f_X12_in (nI j) (nI a) (nI b) h = true := by
  unfold f_X12_in
  simp (disch := omega) only [reduceIte, ↓zbn, zgd, zcl, zlt, zeq, zn0, zp0, ze0, zem, zsuc, zob, ztl, zfl, ztle, zfle, zte, zfe, zft, toB0, toB1, i10, i01]
theorem in_lo {x lo hi : Int32} {h : Hp} (h1 : x < lo) : f_X12_in x lo hi h = false := by
  unfold f_X12_in; rw [if_pos h1]
theorem in_hi {x lo hi : Int32} {h : Hp} (h1 : hi < x) : f_X12_in x lo hi h = false := by
  unfold f_X12_in; rw [if_pos h1]; split <;> rfl
theorem le_hi {x : Int32} {b : Nat} (hb : b + 1 < 2 ^ 31) (h : nI (b + 1) ≤ x) : nI b < x :=
  Int32.lt_of_lt_of_le ((nI_ltI (by omega) hb).mpr (Nat.lt_succ_self b)) h
theorem noH_i {n i : Nat} {h : Hp} (hn : h 31 0 = nI n) (h8 : n ≤ 8) (hi : i < n) : f_X12_noHouse (nI i) h = false := by
  unfold f_X12_noHouse
  rw [m_houses, hn, zprs (by omega), show (0 : Int32) = nI 0 from rfl, in_ok (by omega) (by omega) (by omega), ttt]
theorem noH_x {n : Nat} {x : Int32} {h : Hp} (hn : h 31 0 = nI n) (h8 : n ≤ 8) (hx : x < 0 ∨ nI n ≤ x) : f_X12_noHouse x h = true := by
  unfold f_X12_noHouse
  rw [m_houses, hn]
  have : f_X12_in x 0 (nI n - 1) h = false := by
    rcases hx with q | q
    · exact in_lo q
    · rcases n with _ | n
      · exact in_hi (Int32.lt_of_lt_of_le (by decide) q)
      · rw [zprs (by omega)]
        exact in_hi (le_hi (by omega) q)
  rw [this, tff]
theorem noP_i {m p : Nat} {h : Hp} (hn : h 31 1 = nI m) (h8 : m ≤ 6) (hi : p < m) : f_X12_noPerson (nI p) h = false := by
  unfold f_X12_noPerson
  rw [m_people, hn, zprs (by omega), show (0 : Int32) = nI 0 from rfl, in_ok (by omega) (by omega) (by omega), ttt]
theorem noP_x {m : Nat} {x : Int32} {h : Hp} (hn : h 31 1 = nI m) (h8 : m ≤ 6) (hx : x < 0 ∨ nI m ≤ x) : f_X12_noPerson x h = true := by
  unfold f_X12_noPerson
  rw [m_people, hn]
  have : f_X12_in x 0 (nI m - 1) h = false := by
    rcases hx with q | q
    · exact in_lo q
    · rcases m with _ | m
      · exact in_hi (Int32.lt_of_lt_of_le (by decide) q)
      · rw [zprs (by omega)]
        exact in_hi (le_hi (by omega) q)
  rw [this, tff]
theorem noE_i {e : Nat} {h : Hp} (he : e < 7) : f_X12_noEvening (nI e) h = false := by
  unfold f_X12_noEvening
  rw [show (0 : Int32) = nI 0 from rfl, show (6 : Int32) = nI 6 from rfl, in_ok (by omega) (by omega) (by omega), ttt]
theorem noE_x {x : Int32} {h : Hp} (hx : x < 0 ∨ nI 7 ≤ x) : f_X12_noEvening x h = true := by
  unfold f_X12_noEvening
  have : f_X12_in x 0 6 h = false := by
    rcases hx with q | q
    · exact in_lo q
    · exact in_hi (le_hi (b := 6) (by omega) q)
  rw [this, tff]
theorem argI (x : Int32) {n : Nat} (hn : n < 2 ^ 31) : (∃ i, i < n ∧ x = nI i) ∨ (x < 0 ∨ nI n ≤ x) := by
  rcases pk_ix x hn with h | h | ⟨j, hj, e⟩
  · exact Or.inr (Or.inl h)
  · exact Or.inr (Or.inr h)
  · exact Or.inl ⟨j, hj, e⟩
theorem ckH_i {n i : Nat} {h : Hp} (hn : h 100 9 = nI n) (h8 : n ≤ 8) (hi : i < n) : f_X11_checkHouse (nI i) h = some (Except.ok (), h) := by
  unfold f_X11_checkHouse; rw [c_isHouse hn h8 (by omega), decide_eq_true hi, ttt]
theorem ckH_x {n : Nat} {x : Int32} {h : Hp} (hn : h 100 9 = nI n) (h8 : n ≤ 8) (hx : x < 0 ∨ nI n ≤ x) : f_X11_checkHouse x h = some (Except.error "java/lang/IndexOutOfBoundsException", h) := by
  unfold f_X11_checkHouse; rw [c_isHouseX hn h8 hx, tff]
theorem ckP_i {m i : Nat} {h : Hp} (hn : h 100 10 = nI m) (h8 : m ≤ 6) (hi : i < m) : f_X11_checkPerson (nI i) h = some (Except.ok (), h) := by
  unfold f_X11_checkPerson; rw [c_isPerson hn h8 (by omega), decide_eq_true hi, ttt]
theorem ckP_x {m : Nat} {x : Int32} {h : Hp} (hn : h 100 10 = nI m) (h8 : m ≤ 6) (hx : x < 0 ∨ nI m ≤ x) : f_X11_checkPerson x h = some (Except.error "java/lang/IndexOutOfBoundsException", h) := by
  unfold f_X11_checkPerson; rw [c_isPersonX hn h8 hx, tff]
theorem ckE_i {e : Nat} {h : Hp} (he : e < 7) : f_X11_checkEvening (nI e) h = some (Except.ok (), h) := by
  unfold f_X11_checkEvening
  simp (disch := omega) only [reduceIte, ↓zbn, zgd, zcl, zlt, zeq, zn0, zp0, ze0, zem, zsuc, zob, ztl, zfl, ztle, zfle, zte, zfe, zft, toB0, toB1, i10, i01, zl7]
theorem ckE_x {x : Int32} {h : Hp} (hx : x < 0 ∨ nI 7 ≤ x) : f_X11_checkEvening x h = some (Except.error "java/lang/IndexOutOfBoundsException", h) := by
  unfold f_X11_checkEvening F_X11_checkEvening_10
  rcases hx with q | q
  · rw [if_pos q]
  · have : ¬ x < 7 := Int32.not_lt.mpr q
    rw [if_neg this]; split <;> rfl
theorem ckA_i {j a b : Nat} {h : Hp} (h1 : a ≤ j) (h2 : j ≤ b) (hb : b < 2 ^ 31) : f_X11_checkAmount (nI j) (nI a) (nI b) h = some (Except.ok (), h) := by
  unfold f_X11_checkAmount
  simp (disch := omega) only [reduceIte, ↓zbn, zgd, zcl, zlt, zeq, zn0, zp0, ze0, zem, zsuc, zob, ztl, zfl, ztle, zfle, zte, zfe, zft, toB0, toB1, i10, i01]
theorem ckA_lo {x lo hi : Int32} {h : Hp} (q : x < lo) : f_X11_checkAmount x lo hi h = some (Except.error "java/lang/IllegalArgumentException", h) := by
  unfold f_X11_checkAmount F_X11_checkAmount_10; rw [if_pos q]
theorem ckA_hi {x lo hi : Int32} {h : Hp} (q : hi < x) : f_X11_checkAmount x lo hi h = some (Except.error "java/lang/IllegalArgumentException", h) := by
  unfold f_X11_checkAmount F_X11_checkAmount_10; rw [if_pos q]; split <;> rfl
theorem ckU_i {n m i : Nat} {h : Hp} {w : Row} (H : CV0 100 h n m w) (h8 : n ≤ 8) (hi : upB n w i = true) : f_X11_checkUp (nI i) h = some (Except.ok (), h) := by
  have := upB_lt hi
  unfold f_X11_checkUp; rw [c_isUp H h8 (by omega), hi, ttt]
theorem ckU_x {n m i : Nat} {h : Hp} {w : Row} (H : CV0 100 h n m w) (h8 : n ≤ 8) (hi8 : i < 8) (hi : upB n w i = false) : f_X11_checkUp (nI i) h = some (Except.error "java/lang/IllegalStateException", h) := by
  unfold f_X11_checkUp; rw [c_isUp H h8 (by omega), hi, tff]
theorem m_isF {h : Hp} {i : Nat} (hi : i < 8) : f_X12_isFallen (nI i) h = some (falB (h 31) i) := m_isFallen hi
