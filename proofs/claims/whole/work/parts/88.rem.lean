/-! LAYER 4. An act is remembered -/
def nxF (F C : Nat) : Nat := if C < 12 then F else (F + 1) % 12
def nxC (C : Nat) : Nat := if C < 12 then C + 1 else 12
def putR (a b : Row) (s j : Nat) : Row := fun k => if s ≤ k ∧ k < s + j then a (k - s) else b k
theorem put_s {a b : Row} {s j : Nat} : upd (putR a b s j) (s + j) (a j) = putR a b s (j + 1) :=
  funext fun k => by
    unfold putR
    by_cases c : k = s + j
    · rw [c, upd_at, if_pos (by omega), Nat.add_sub_cancel_left]
    · rw [upd_ob c]
      by_cases d : s ≤ k ∧ k < s + j
      · rw [if_pos d, if_pos (by omega)]
      · rw [if_neg d, if_neg (by omega)]
theorem put_0 {a b : Row} {s : Nat} : putR a b s 0 = b := funext fun k => if_neg (by omega)
theorem c_rem28 {h : Hp} {F C : Nat} (hF : F < 12) (hC : C < 12) (e13 : h 1 13 = nI F) (e14 : h 1 14 = nI C) :
    ∃ u, f_X1_copyFrom (slotN F C) 100 h = some u ∧ CP (slotN F C) 100 h u ∧ F_X11_remember_28 h = some (up1 u 1 14 (nI (C + 1))) := by
  obtain ⟨pa, cb⟩ := c_pastAt (h := h) hF (show C < 100 by omega) e13
  have sl : 148 ≤ slotN F C ∧ slotN F C + 10 < 340 := by unfold slotN; omega
  obtain ⟨u, c1, p1⟩ := c_copyFrom (k0 := slotN F C) (k1 := 100) (h := h) (by omega)
  refine ⟨u, c1, p1, ?_⟩
  have u14 : u 1 14 = nI C := by rw [CP_fr p1 1 (by omega)]; exact e14
  unfold F_X11_remember_28
  rw [e14, pa, obS]
  show gd (cityB (slotN F C) = true) _ = _
  rw [gdT cb, c1, obS, bnd_eq, u14, nI_1]
theorem c_remember {h : Hp} {F C : Nat} (hF : F < 12) (hC : C ≤ 12) (e13 : h 1 13 = nI F) (e14 : h 1 14 = nI C) :
    ∃ r, f_X11_remember h = some r ∧ (∀ k, k ≠ 1 → ¬ (148 ≤ k ∧ k < 340) → r k = h k) ∧ (∀ i, i ≠ 13 → i ≠ 14 → r 1 i = h 1 i) ∧ r 1 13 = nI (nxF F C) ∧ r 1 14 = nI (nxC C) ∧
      (∀ j, j + 1 < nxC C → ∀ k, slotN (nxF F C) j ≤ k → k ≤ slotN (nxF F C) j + 10 → r k = h k) ∧
      ∀ n m w, m ≤ 6 → CV0 100 h n m w → LG 100 h w → CV0 (slotN (nxF F C) (nxC C - 1)) r n m w ∧ LG (slotN (nxF F C) (nxC C - 1)) r w := by
  by_cases c : C < 12
  · have sl : 148 ≤ slotN F C ∧ slotN F C + 10 < 340 := by unfold slotN; omega
    obtain ⟨u, c1, p1, e⟩ := c_rem28 hF c e13 e14
    have f1 := CP_fr p1
    rw [show nxF F C = F from if_pos c, show nxC C = C + 1 from if_pos c, Nat.add_sub_cancel]
    refine ⟨up1 u 1 14 (nI (C + 1)), ?_, fun k x y => by rw [up1_ob x, f1 k (by omega)], fun i x y => by rw [up1_at, upd_ob y, f1 1 (by omega)], by rw [up1_at, upd_ob (by decide), f1 1 (by omega)]; exact e13, by rw [up1_at, upd_at], fun j hj k x y => ?_, fun n m w h6 V L => ⟨?_, ?_⟩⟩
    · unfold f_X11_remember
      rw [e14, show (12 : Int32) = nI 12 from rfl, if_pos ((nI_ltI (by omega) (by omega)).mpr c), e]
    · have : 148 ≤ slotN F j ∧ (k < slotN F C ∨ slotN F C + 10 < k) := by unfold slotN at *; omega
      rw [up1_ob (by omega), f1 k this.2]
    · exact CV0_fr (CP_CV0 p1 h6 V) fun k x y => up1_ob (by omega)
    · exact LG_fr (CP_LG p1 L) fun k x y => up1_ob (by omega)
  · obtain rfl : C = 12 := by omega
    have lt : (F + 1) % 12 < 12 := Nat.mod_lt _ (by omega)
    obtain ⟨h4, hh4⟩ : ∃ h4, up1 (up1 h 1 13 (nI ((F + 1) % 12))) 1 14 11 = h4 := ⟨_, rfl⟩
    have o4 : ∀ k, k ≠ 1 → h4 k = h k := fun k x => by rw [← hh4, up1_ob x, up1_ob x]
    have g13 : h4 1 13 = nI ((F + 1) % 12) := by rw [← hh4, up1_at, upd_ob (by decide), up1_at, upd_at]
    have g14 : h4 1 14 = nI 11 := by rw [← hh4, up1_at, upd_at]; rfl
    have gi : ∀ i, i ≠ 13 → i ≠ 14 → h4 1 i = h 1 i := fun i x y => by rw [← hh4, up1_at, upd_ob y, up1_at, upd_ob x]
    have sl : 148 ≤ slotN ((F + 1) % 12) 11 ∧ slotN ((F + 1) % 12) 11 + 10 < 340 := by unfold slotN; omega
    obtain ⟨u, c1, p1, e⟩ := c_rem28 (h := h4) lt (show 11 < 12 by omega) g13 g14
    have f1 := CP_fr p1
    rw [show nxF F 12 = (F + 1) % 12 from if_neg c, show nxC 12 = 12 from if_neg c, show 12 - 1 = 11 from rfl]
    refine ⟨up1 u 1 14 (nI 12), ?_, fun k x y => by rw [up1_ob x, f1 k (by omega), o4 k x], fun i x y => by rw [up1_at, upd_ob y, f1 1 (by omega), gi i x y], by rw [up1_at, upd_ob (by decide), f1 1 (by omega)]; exact g13, by rw [up1_at, upd_at], fun j hj k x y => ?_, fun n m w h6 V L => ⟨?_, ?_⟩⟩
    · unfold f_X11_remember
      rw [e14, e13, if_neg (by decide), bnd_eq, bnd_eq, nI_1, show (12 : Int32) = nI 12 from rfl, zrm (by omega) (by omega) (by omega), hh4, e]
    · have : 148 ≤ slotN ((F + 1) % 12) j ∧ (k < slotN ((F + 1) % 12) 11 ∨ slotN ((F + 1) % 12) 11 + 10 < k) := by unfold slotN at *; omega
      rw [up1_ob (by omega), f1 k this.2, o4 k (by omega)]
    · exact CV0_fr (CP_CV0 p1 h6 (CV0_fr V fun k x y => o4 k (by omega))) fun k x y => up1_ob (by omega)
    · exact LG_fr (CP_LG p1 (LG_fr L fun k x y => o4 k (by omega))) fun k x y => up1_ob (by omega)
theorem m_rem55 {u : Hp} {C : Nat} (hC : C < 12) (e7 : u 30 7 = nI (C + 1)) : F_X12_remembers_55 FU 0 u = some (upA u 35 (putR (u 31) (u 35) (492 * C) 492)) := by
  have Q := loop0 S_X12_remembers_55 (fun _ _ => none) (fun j q => q (nI j) (upA u 35 (putR (u 31) (u 35) (492 * C) j))) 492 (some (upA u 35 (putR (u 31) (u 35) (492 * C) 492))) (by omega) (fun j hj q => ?_) (fun q => ?_)
  · rw [put_0, up_id] at Q
    exact Q
  · show S_X12_remembers_55 q (nI j) (upA u 35 (putR (u 31) (u 35) (492 * C) j)) = q (nI (j + 1)) (upA u 35 (putR (u 31) (u 35) (492 * C) (j + 1)))
    unfold S_X12_remembers_55
    rw [show (492 : Int32) = nI 492 from rfl, if_pos ((nI_ltI (by omega) (by omega)).mpr hj), upA_ob (by decide), upA_ob (by decide), e7, zprs (by omega), Nat.add_sub_cancel, zmul, zadd, gdT (nI_ix (by omega) (by omega)), gdT (nI_ix (by omega) (by omega)), bnd_eq, nI_clamp (by omega), nI_clamp (by omega), up1_upA, put_s, nI_1]
  · show S_X12_remembers_55 q (nI 492) _ = _
    unfold S_X12_remembers_55
    rw [show (492 : Int32) = nI 492 from rfl, if_neg (by decide)]
theorem m_remembers {g : Hp} {C : Nat} (hC : C ≤ 12) (e7 : g 30 7 = nI C) :
    ∃ r, f_X12_remembers g = some r ∧ (∀ k, k ≠ 30 → k ≠ 35 → r k = g k) ∧ (∀ i, i ≠ 7 → r 30 i = g 30 i) ∧ r 30 7 = nI (nxC C) ∧
      ∀ j, j < nxC C → ∀ k, k < 492 → r 35 (492 * j + k) = if j + 1 < nxC C then g 35 (492 * (j + (if C < 12 then 0 else 1)) + k) else g 31 k := by
  by_cases c : C < 12
  · have e := m_rem55 (u := up1 g 30 7 (nI (C + 1))) c (by rw [up1_at, upd_at])
    rw [show nxC C = C + 1 from if_pos c, if_pos c]
    have eq : f_X12_remembers g = some (upA (up1 g 30 7 (nI (C + 1))) 35 (putR (up1 g 30 7 (nI (C + 1)) 31) (up1 g 30 7 (nI (C + 1)) 35) (492 * C) 492)) := by
      unfold f_X12_remembers
      rw [e7, if_neg (by rw [show (12 : Int32) = nI 12 from rfl, nI_eq (by omega) (by omega)]; omega), bnd_eq, nI_1]
      exact e
    refine ⟨_, eq, fun k x y => by rw [upA_ob y, up1_ob x], fun i x => by rw [upA_ob (by decide), up1_at, upd_ob x], by rw [upA_ob (by decide), up1_at, upd_at], fun j hj k hk => ?_⟩
    · rw [upA_at, up1_ob (by decide), up1_ob (by decide)]
      unfold putR
      by_cases d : j + 1 < C + 1
      · rw [if_pos d, if_neg (by omega)]; rfl
      · obtain rfl : j = C := by omega
        rw [if_neg d, if_pos (by omega), Nat.add_sub_cancel_left]
  · obtain rfl : C = 12 := by omega
    have cg : g 30 7 = nI (11 + 1) := e7
    have Q := loop0 S_X12_remembers_11 (fun _ _ => none) (fun j q => q (nI j) (upA g 35 (mixR (fun k => g 35 (k + 492)) (g 35) j))) 5412 (some (upA (upA g 35 (mixR (fun k => g 35 (k + 492)) (g 35) 5412)) 35 (putR (g 31) (mixR (fun k => g 35 (k + 492)) (g 35) 5412) (492 * 11) 492))) (by omega) (fun j hj q => ?_) (fun q => ?_)
    · rw [mix_0, up_id] at Q
      rw [show nxC 12 = 12 from if_neg c, if_neg c]
      have eq : f_X12_remembers g = some (upA (upA g 35 (mixR (fun k => g 35 (k + 492)) (g 35) 5412)) 35 (putR (g 31) (mixR (fun k => g 35 (k + 492)) (g 35) 5412) (492 * 11) 492)) := by
        unfold f_X12_remembers
        rw [e7, if_pos (show nI 12 = 12 from rfl)]
        exact Q
      refine ⟨_, eq, fun k x y => by rw [upA_ob y, upA_ob y], fun i x => by rw [upA_ob (by decide), upA_ob (by decide)], by rw [upA_ob (by decide), upA_ob (by decide)]; exact e7, fun j hj k hk => ?_⟩
      · rw [upA_at]
        unfold putR
        by_cases d : j + 1 < 12
        · rw [if_pos d, if_neg (by omega), mix_i (by omega), show 492 * j + k + 492 = 492 * (j + 1) + k by omega]
        · obtain rfl : j = 11 := by omega
          rw [if_neg d, if_pos (by omega), Nat.add_sub_cancel_left]
    · show S_X12_remembers_11 q (nI j) (upA g 35 (mixR (fun k => g 35 (k + 492)) (g 35) j)) = q (nI (j + 1)) (upA g 35 (mixR (fun k => g 35 (k + 492)) (g 35) (j + 1)))
      unfold S_X12_remembers_11
      rw [show (5412 : Int32) = nI 5412 from rfl, if_pos ((nI_ltI (by omega) (by omega)).mpr hj), show (492 : Int32) = nI 492 from rfl, zadd, gdT (nI_ix (by omega) (by omega)), gdT (nI_ix (by omega) (by omega)), bnd_eq, nI_clamp (by omega), nI_clamp (by omega), up1_upA, upA_at, mix_o (by omega), ← mix_s, nI_1]
    · show S_X12_remembers_11 q (nI 5412) _ = _
      unfold S_X12_remembers_11
      rw [show (5412 : Int32) = nI 5412 from rfl, if_neg (by decide), m_rem55 (C := 11) (by omega) (by rw [upA_ob (by decide)]; exact cg), upA_ob (by decide), upA_at]
