/-! LAYER 4. texts: the class's steps -/
section CL
variable {b : Nat → Nat} {L f : Nat} {u : Hp}
theorem fi_1 {w : List Nat} : fiW b L [w] f 0 = if wdB b L w f then 0 else -1 := rfl
/-- a number stands there -/
def nbB (b : Nat → Nat) (L f lo h1 : Nat) : Bool := decide (f < L ∧ fgB b f = true) && (decide (dEn b L f - f ≤ 3) && (decide (lo ≤ vcN b 48 f (dEn b L f - f)) && decide (vcN b 48 f (dEn b L f - f) < h1)))
def nbV (b : Nat → Nat) (L f lo h1 : Nat) : Int32 := if nbB b L f lo h1 then nI (vcN b 48 f (dEn b L f - f)) else -1
def sgnB (b : Nat → Nat) (L f c : Nat) : Bool := decide (f < L) && decide (b f = c)
def okC (c : Nat) : Bool := decide (c < 48 ∨ (57 < c ∧ c < 97))
theorem fg_lt (h : fgB b f = true) : ltB b f = false := by
  have ⟨h1, h2⟩ := Bool.and_eq_true_iff.mp h
  have h2 : b f ≤ 57 := of_decide_eq_true h2
  unfold ltB
  rw [decide_eq_false (by omega)]; rfl
theorem nI_np {a : Nat} (h : a < 2 ^ 31) : ¬ nI a = -1 := by rw [zem h]; exact id
theorem kd_257 (hb : f < L → b f < 256) : (kdI b L f = 257) ↔ (f < L ∧ fgB b f = true) := by
  unfold kdI
  by_cases c : f < L
  · have := hb c
    rw [if_pos c]
    by_cases e : fgB b f = true
    · rw [fg_lt e, if_neg (by decide), if_pos e]; exact ⟨fun _ => ⟨c, e⟩, fun _ => rfl⟩
    · by_cases d : ltB b f = true
      · rw [if_pos d]; exact ⟨fun z => absurd z (by decide), fun z => absurd z.2 e⟩
      · rw [if_neg d, if_neg e]
        refine ⟨fun z => ?_, fun z => absurd z.2 e⟩
        have := (nI_eq (b := 257) (by omega) (by omega)).mp z
        omega
  · rw [if_neg c]; exact ⟨fun z => absurd z (by decide), fun z => absurd z.1 c⟩
theorem kd_sg {c : Nat} (hc : okC c = true) (hb : f < L → b f < 256) : (kdI b L f = nI c) ↔ sgnB b L f c = true := by
  have hc := of_decide_eq_true hc
  unfold kdI sgnB
  by_cases l : f < L
  · have := hb l
    rw [if_pos l, decide_eq_true l, Bool.true_and, decide_eq_true_iff]
    by_cases d : ltB b f = true
    · have ⟨h1, h2⟩ := Bool.and_eq_true_iff.mp d
      have h1 : 97 ≤ b f := of_decide_eq_true h1
      rw [if_pos d]
      refine ⟨fun z => ?_, fun z => by omega⟩
      have := (nI_eq (a := 256) (by omega) (by omega)).mp z
      omega
    · rw [if_neg d]
      by_cases e : fgB b f = true
      · have ⟨h1, h2⟩ := Bool.and_eq_true_iff.mp e
        have h1 : 48 ≤ b f := of_decide_eq_true h1
        have h2 : b f ≤ 57 := of_decide_eq_true h2
        rw [if_pos e]
        refine ⟨fun z => ?_, fun z => by omega⟩
        have := (nI_eq (a := 257) (by omega) (by omega)).mp z
        omega
      · rw [if_neg e]
        exact nI_eq (by omega) (by omega)
  · rw [if_neg l, decide_eq_false l, Bool.false_and]
    exact ⟨fun z => absurd z.symm (nI_np (by omega)), fun z => Bool.noConfusion z⟩
theorem kd_dn (hb : f < L → b f < 256) : (kdI b L f = -1) ↔ ¬ f < L := by
  unfold kdI
  by_cases l : f < L
  · have := hb l
    rw [if_pos l]
    refine ⟨fun z => ?_, fun z => absurd l z⟩
    by_cases d : ltB b f = true
    · rw [if_pos d] at z; exact absurd z (by decide)
    · rw [if_neg d] at z
      by_cases e : fgB b f = true
      · rw [if_pos e] at z; exact absurd z (by decide)
      · rw [if_neg e] at z; exact absurd z (nI_np (by omega))
  · rw [if_neg l]; exact ⟨fun _ => l, fun _ => rfl⟩
theorem c_isDone (X : LXc b L u) (T : TKc b L f u) : f_X10_isDone u = !decide (f < L) := by
  unfold f_X10_isDone
  rw [T.2.2.2.1]
  by_cases l : f < L
  · rw [if_neg (fun z => (kd_dn (fun h => (X.2.2 f h).1)).mp z l), decide_eq_true l]; rfl
  · rw [if_pos ((kd_dn (fun h => (X.2.2 f h).1)).mpr l), decide_eq_false l]; rfl
theorem c_isSign {c : Nat} (hc : okC c = true) (X : LXc b L u) (T : TKc b L f u) : f_X10_isSign (nI c) u = sgnB b L f c := by
  unfold f_X10_isSign
  rw [T.2.2.2.1]
  cases l : sgnB b L f c
  · rw [if_neg (fun z => by rw [(kd_sg hc (fun h => (X.2.2 f h).1)).mp z] at l; exact Bool.noConfusion l)]
  · rw [if_pos ((kd_sg hc (fun h => (X.2.2 f h).1)).mpr l)]
theorem c_sign {c : Nat} (hc : okC c = true) (X : LXc b L u) (T : TKc b L f u) :
    (sgnB b L f c = true → ∃ u', f_X10_takesSign (nI c) u = some (true, u') ∧ TKc b L (nxN b L f) u' ∧ FRc u u') ∧ (sgnB b L f c = false → f_X10_takesSign (nI c) u = some (false, u)) := by
  unfold f_X10_takesSign
  rw [T.2.2.2.1]
  refine ⟨fun l => ?_, fun l => ?_⟩
  · obtain ⟨u', e, T', F⟩ := c_next X T
    rw [if_pos ((kd_sg hc (fun h => (X.2.2 f h).1)).mpr l), e, obS]
    exact ⟨u', rfl, T', F⟩
  · rw [if_neg (fun z => by rw [(kd_sg hc (fun h => (X.2.2 f h).1)).mp z] at l; exact Bool.noConfusion l)]
theorem c_take {k : Nat} {ws : List (List Nat)} (S : isS k ws) (X : LXc b L u) (T : TKc b L f u) :
    (fiW b L ws f 0 = -1 → f_X10_take k u = some (-1, u)) ∧ (¬ fiW b L ws f 0 = -1 → ∃ u', f_X10_take k u = some (fiW b L ws f 0, u') ∧ TKc b L (nxN b L f) u' ∧ FRc u u') := by
  unfold f_X10_take
  rw [c_wordOf S X T, obS]
  refine ⟨fun z => ?_, fun z => ?_⟩
  · rw [if_pos z, z]
  · obtain ⟨u', e, T', F⟩ := c_next X T
    rw [if_neg z, e, obS]
    exact ⟨u', rfl, T', F⟩
theorem c_takes {k : Nat} {w : List Nat} (S : isS k [w]) (X : LXc b L u) (T : TKc b L f u) :
    (wdB b L w f = true → ∃ u', f_X10_takes k u = some (true, u') ∧ TKc b L (nxN b L f) u' ∧ FRc u u') ∧ (wdB b L w f = false → f_X10_takes k u = some (false, u)) := by
  have ⟨A, B⟩ := c_take S X T
  rw [fi_1] at A B
  unfold f_X10_takes
  refine ⟨fun l => ?_, fun l => ?_⟩
  · rw [l, if_pos rfl] at B
    obtain ⟨u', e, T', F⟩ := B (by decide)
    rw [e, obS, if_neg (show ¬ (0 : Int32) = -1 by decide)]
    exact ⟨u', rfl, T', F⟩
  · rw [l, tff] at A
    rw [A rfl, obS, if_pos rfl]
theorem c_fail (T : TKc b L f u) : f_X10_fail u = some (false, up1 u 2 2 (nI f)) := by
  unfold f_X10_fail
  rw [bnd_eq, T.2.1]
theorem c_needs {k : Nat} {w : List Nat} (S : isS k [w]) (X : LXc b L u) (T : TKc b L f u) :
    (wdB b L w f = true → ∃ u', f_X10_needs k u = some (true, u') ∧ TKc b L (nxN b L f) u' ∧ FRc u u') ∧ (wdB b L w f = false → f_X10_needs k u = some (false, up1 u 2 2 (nI f))) := by
  have ⟨A, B⟩ := c_take S X T
  rw [fi_1] at A B
  unfold f_X10_needs
  refine ⟨fun l => ?_, fun l => ?_⟩
  · rw [l, if_pos rfl] at B
    obtain ⟨u', e, T', F⟩ := B (by decide)
    rw [e, obS, if_neg (show ¬ (0 : Int32) = -1 by decide)]
    exact ⟨u', rfl, T', F⟩
  · rw [l, tff] at A
    rw [A rfl, obS, if_pos rfl, c_fail T, obS, tff]
theorem hi_lt {v h1 : Nat} (hv : v ≤ 1000) (hh : h1 ≤ 1000) : (nI h1 - 1 < nI v) ↔ ¬ v < h1 := by
  rcases h1 with _ | h
  · exact ⟨fun _ => by omega, fun _ => Int32.lt_of_lt_of_le (b := 0) (by decide) (Int32.not_lt.mp (nI_pos (by omega)))⟩
  · rw [zprs (by omega), nI_ltI (by omega) (by omega)]
    omega
theorem c_nbA {lo h1 : Nat} (hlo : lo ≤ 1000) (hh : h1 ≤ 1000) (X : LXc b L u) (T : TKc b L f u) : f_X10_numberAhead (nI lo) (nI h1 - 1) u = nbV b L f lo h1 := by
  have X4 := X.1
  have kb := kd_257 (b := b) (L := L) (f := f) (fun h => (X.2.2 f h).1)
  obtain ⟨K, hK⟩ : ∃ K, vcN b 48 f (dEn b L f - f) = K := ⟨_, rfl⟩
  have K3 : K ≤ 1000 := by rw [← hK]; exact vc_b _
  unfold f_X10_numberAhead F_X10_numberAhead_44 nbV nbB
  rw [T.2.2.2.1, T.2.2.1, T.2.1, hK]
  by_cases c : f < L ∧ fgB b f = true
  · have e6 : u 2 6 = nI K := by rw [← hK]; exact T.2.2.2.2 c.1 c.2
    have ed : edN b L f = dEn b L f := by unfold edN; rw [if_pos c.1, fg_lt c.2, tff, if_pos c.2]
    have dL : dEn b L f ≤ L := rn_L T.1
    have df : f ≤ dEn b L f := rn_le
    rw [if_pos (kb.mpr c), decide_eq_true c, Bool.true_and, ed, zsub df, e6]
    by_cases d : dEn b L f - f ≤ 3
    · rw [if_neg (show ¬ 3 < nI (dEn b L f - f) from fun z => absurd ((nI_ltI (a := 3) (by omega) (by omega)).mp z) (by omega)), decide_eq_true d, Bool.true_and]
      by_cases e : lo ≤ K
      · rw [if_neg (fun z => absurd ((nI_ltI (by omega) (by omega)).mp z) (by omega)), decide_eq_true e, Bool.true_and]
        by_cases g : K < h1
        · rw [if_neg (fun z => (hi_lt K3 hh).mp z g), decide_eq_true g, if_neg (by decide)]; rfl
        · rw [if_pos ((hi_lt K3 hh).mpr g), decide_eq_false g, if_pos rfl]; rfl
      · rw [if_pos ((nI_ltI (by omega) (by omega)).mpr (by omega)), decide_eq_false e, Bool.false_and, if_pos rfl]; rfl
    · rw [if_pos (show 3 < nI (dEn b L f - f) from (nI_ltI (a := 3) (by omega) (by omega)).mpr (by omega)), decide_eq_false d, Bool.false_and, if_pos rfl]; rfl
  · rw [if_neg (fun z => c (kb.mp z)), decide_eq_false c, Bool.false_and, if_pos rfl]; rfl
theorem nb_np {lo h1 : Nat} (h : nbB b L f lo h1 = true) : nbV b L f lo h1 = nI (vcN b 48 f (dEn b L f - f)) ∧ lo ≤ vcN b 48 f (dEn b L f - f) ∧ vcN b 48 f (dEn b L f - f) < h1 := by
  refine ⟨by unfold nbV; rw [h]; rfl, ?_⟩
  have ⟨h1, h2⟩ := Bool.and_eq_true_iff.mp h
  have ⟨h3, h4⟩ := Bool.and_eq_true_iff.mp h2
  have ⟨h5, h6⟩ := Bool.and_eq_true_iff.mp h4
  exact ⟨of_decide_eq_true h5, of_decide_eq_true h6⟩
theorem nb_no {lo h1 : Nat} (h : nbB b L f lo h1 = false) : nbV b L f lo h1 = -1 := by unfold nbV; rw [h]; rfl
theorem c_number {lo h1 : Nat} (hlo : lo ≤ 1000) (hh : h1 ≤ 1000) (X : LXc b L u) (T : TKc b L f u) :
    (nbB b L f lo h1 = true → ∃ u', f_X10_takeNumber (nI lo) (nI h1 - 1) u = some (nI (vcN b 48 f (dEn b L f - f)), u') ∧ TKc b L (nxN b L f) u' ∧ FRc u u') ∧ (nbB b L f lo h1 = false → f_X10_takeNumber (nI lo) (nI h1 - 1) u = some (-1, up1 u 2 2 (nI f))) := by
  unfold f_X10_takeNumber
  rw [c_nbA hlo hh X T, bnd_eq]
  refine ⟨fun l => ?_, fun l => ?_⟩
  · obtain ⟨v, v1, v2⟩ := nb_np l
    obtain ⟨u', e, T', F⟩ := c_next X T
    rw [v, if_neg (nI_np (by omega)), e, obS]
    exact ⟨u', rfl, T', F⟩
  · rw [nb_no l, if_pos rfl, c_fail T, obS]
theorem c_byte {i : Nat} (X : LXc b L u) (hi : i < L) : f_X10_byteAt (nI i) u = some (nI (b i)) := by
  have X4 := X.1
  unfold f_X10_byteAt
  rw [if_neg (nI_pos (by omega)), if_pos (show nI i < 400 from (nI_ltI (b := 400) (by omega) (by omega)).mpr (by omega)), gdT (nI_ix (by omega) (by omega)), nI_clamp (by omega), (X.2.2 i hi).2]
def eachTo (p : Nat → Bool) : Nat → Bool
  | 0 => true
  | j + 1 => eachTo p j && p j
/-- seven days -/
def bwB (b : Nat → Nat) (i : Nat) : Bool := decide (b i = 48) || decide (b i = 49)
def dyK (b : Nat → Nat) (L f j : Nat) : Bool := (decide (f < L ∧ fgB b f = true) && decide (dEn b L f - f = 7)) && eachTo (fun i => bwB b (f + i)) j
end CL
