/-! LAYER 4. texts: words -/
def w_age : List Nat := [97, 103, 101]
def w_and : List Nat := [97, 110, 100]
def w_at : List Nat := [97, 116]
def w_evening : List Nat := [101, 118, 101, 110, 105, 110, 103]
def w_firm : List Nat := [102, 105, 114, 109]
def w_grow : List Nat := [103, 114, 111, 119]
def w_held : List Nat := [104, 101, 108, 100]
def w_hold : List Nat := [104, 111, 108, 100]
def w_house : List Nat := [104, 111, 117, 115, 101]
def w_if : List Nat := [105, 102]
def w_ivy : List Nat := [105, 118, 121]
def w_lean : List Nat := [108, 101, 97, 110]
def w_leaning : List Nat := [108, 101, 97, 110, 105, 110, 103]
def w_leant : List Nat := [108, 101, 97, 110, 116]
def w_not : List Nat := [110, 111, 116]
def w_on : List Nat := [111, 110]
def w_or : List Nat := [111, 114]
def w_part : List Nat := [112, 97, 114, 116]
def w_person : List Nat := [112, 101, 114, 115, 111, 110]
def w_press : List Nat := [112, 114, 101, 115, 115]
def w_prop : List Nat := [112, 114, 111, 112]
def w_soft : List Nat := [115, 111, 102, 116]
def w_wander : List Nat := [119, 97, 110, 100, 101, 114]
def w_week : List Nat := [119, 101, 101, 107]
def w_weight : List Nat := [119, 101, 105, 103, 104, 116]
def jnL : List (List Nat) → List Nat
  | [] => []
  | [w] => w
  | w :: ws => w ++ 32 :: jnL ws
def okW (w : List Nat) : Bool := decide (w ≠ []) && w.all (fun c => decide (97 ≤ c) && decide (c ≤ 122))
def isS (k : Nat) (ws : List (List Nat)) : Prop := strBytes (sTx k) = (jnL ws).map nI ∧ (decide (ws ≠ []) && ws.all okW) = true ∧ (jnL ws).length < 100
theorem s_1001 : isS 1001 [w_weight] := ⟨by decide +kernel, by decide +kernel, by decide +kernel⟩
theorem s_1002 : isS 1002 [w_firm] := ⟨by decide +kernel, by decide +kernel, by decide +kernel⟩
theorem s_1003 : isS 1003 [w_ivy] := ⟨by decide +kernel, by decide +kernel, by decide +kernel⟩
theorem s_1004 : isS 1004 [w_age] := ⟨by decide +kernel, by decide +kernel, by decide +kernel⟩
theorem s_1005 : isS 1005 [w_at] := ⟨by decide +kernel, by decide +kernel, by decide +kernel⟩
theorem s_1006 : isS 1006 [w_hold] := ⟨by decide +kernel, by decide +kernel, by decide +kernel⟩
theorem s_1007 : isS 1007 [w_on] := ⟨by decide +kernel, by decide +kernel, by decide +kernel⟩
theorem s_1008 : isS 1008 [w_part] := ⟨by decide +kernel, by decide +kernel, by decide +kernel⟩
theorem s_1010 : isS 1010 [w_if] := ⟨by decide +kernel, by decide +kernel, by decide +kernel⟩
theorem s_1011 : isS 1011 [w_not] := ⟨by decide +kernel, by decide +kernel, by decide +kernel⟩
theorem s_1014 : isS 1014 [w_and] := ⟨by decide +kernel, by decide +kernel, by decide +kernel⟩
theorem s_1015 : isS 1015 [w_or] := ⟨by decide +kernel, by decide +kernel, by decide +kernel⟩
theorem s_1016 : isS 1016 [w_house] := ⟨by decide +kernel, by decide +kernel, by decide +kernel⟩
theorem s_1017 : isS 1017 [w_weight] := ⟨by decide +kernel, by decide +kernel, by decide +kernel⟩
theorem s_1018 : isS 1018 [w_firm] := ⟨by decide +kernel, by decide +kernel, by decide +kernel⟩
theorem s_1019 : isS 1019 [w_ivy] := ⟨by decide +kernel, by decide +kernel, by decide +kernel⟩
theorem s_1020 : isS 1020 [w_age] := ⟨by decide +kernel, by decide +kernel, by decide +kernel⟩
theorem s_1021 : isS 1021 [w_lean] := ⟨by decide +kernel, by decide +kernel, by decide +kernel⟩
theorem s_1022 : isS 1022 [w_part] := ⟨by decide +kernel, by decide +kernel, by decide +kernel⟩
theorem s_1023 : isS 1023 [w_person] := ⟨by decide +kernel, by decide +kernel, by decide +kernel⟩
theorem s_1024 : isS 1024 [w_at] := ⟨by decide +kernel, by decide +kernel, by decide +kernel⟩
theorem s_1025 : isS 1025 [w_hold] := ⟨by decide +kernel, by decide +kernel, by decide +kernel⟩
theorem s_1026 : isS 1026 [w_on] := ⟨by decide +kernel, by decide +kernel, by decide +kernel⟩
theorem s_1027 : isS 1027 [w_wander] := ⟨by decide +kernel, by decide +kernel, by decide +kernel⟩
theorem s_1028 : isS 1028 [w_prop] := ⟨by decide +kernel, by decide +kernel, by decide +kernel⟩
theorem s_1029 : isS 1029 [w_evening] := ⟨by decide +kernel, by decide +kernel, by decide +kernel⟩
theorem s_1030 : isS 1030 [w_week] := ⟨by decide +kernel, by decide +kernel, by decide +kernel⟩
theorem s_1031 : isS 1031 [w_soft] := ⟨by decide +kernel, by decide +kernel, by decide +kernel⟩
theorem s_1032 : isS 1032 [w_grow] := ⟨by decide +kernel, by decide +kernel, by decide +kernel⟩
theorem s_1033 : isS 1033 [w_if] := ⟨by decide +kernel, by decide +kernel, by decide +kernel⟩
theorem s_1034 : isS 1034 [w_not] := ⟨by decide +kernel, by decide +kernel, by decide +kernel⟩
theorem s_1035 : isS 1035 [w_leaning] := ⟨by decide +kernel, by decide +kernel, by decide +kernel⟩
theorem s_1036 : isS 1036 [w_leant] := ⟨by decide +kernel, by decide +kernel, by decide +kernel⟩
theorem s_1037 : isS 1037 [w_held] := ⟨by decide +kernel, by decide +kernel, by decide +kernel⟩
theorem s_1038 : isS 1038 [w_press] := ⟨by decide +kernel, by decide +kernel, by decide +kernel⟩
theorem s_1039 : isS 1039 [w_and] := ⟨by decide +kernel, by decide +kernel, by decide +kernel⟩
theorem s_1040 : isS 1040 [w_or] := ⟨by decide +kernel, by decide +kernel, by decide +kernel⟩
theorem s_1000 : isS 1000 [w_house, w_person, w_lean, w_wander, w_prop, w_evening, w_week] := ⟨by decide +kernel, by decide +kernel, by decide +kernel⟩
theorem s_1009 : isS 1009 [w_firm, w_soft, w_grow] := ⟨by decide +kernel, by decide +kernel, by decide +kernel⟩
theorem s_1012 : isS 1012 [w_leaning, w_leant, w_held] := ⟨by decide +kernel, by decide +kernel, by decide +kernel⟩
theorem s_1013 : isS 1013 [w_house, w_weight, w_ivy, w_age, w_evening, w_press] := ⟨by decide +kernel, by decide +kernel, by decide +kernel⟩
def mtW (b : Nat → Nat) : List Nat → Nat → Bool
  | [], _ => true
  | c :: cs, i => decide (b i = c) && mtW b cs (i + 1)
/-- the word stands at f, whole -/
def wdB (b : Nat → Nat) (L : Nat) (w : List Nat) (f : Nat) : Bool := mtW b w f && decide (f + w.length = wEn b L f)
def woI (b : Nat → Nat) (f g : Nat) : List Nat → Nat → Nat → Bool → Int32
  | [], idx, pos, ok => if ok && decide (pos = g) then nI idx else -1
  | c :: cs, idx, pos, ok => if c = 32 then (if ok && decide (pos = g) then nI idx else woI b f g cs (idx + 1) f true) else woI b f g cs idx (pos + 1) (ok && (decide (pos < g) && decide (b pos = c)))
def fiW (b : Nat → Nat) (L : Nat) : List (List Nat) → Nat → Nat → Int32
  | [], _, _ => -1
  | w :: ws, f, idx => if wdB b L w f then nI idx else fiW b L ws f (idx + 1)
section WO
variable {b : Nat → Nat} {L f g : Nat}
theorem wo_w {rest : List Nat} : ∀ (w : List Nat) (idx pos : Nat) (ok : Bool), (∀ c, c ∈ w → c ≠ 32) → woI b f g (w ++ 32 :: rest) idx pos ok = if ok && (mtW b w pos && decide (pos + w.length = g)) then nI idx else woI b f g rest (idx + 1) f true
  | [], idx, pos, ok, _ => by
    show (if (32 : Nat) = 32 then _ else _) = _
    rw [if_pos rfl]
    rfl
  | c :: w, idx, pos, ok, h => by
    show (if c = 32 then _ else woI b f g (w ++ 32 :: rest) idx (pos + 1) (ok && (decide (pos < g) && decide (b pos = c)))) = _
    rw [if_neg (h c List.mem_cons_self), wo_w w idx (pos + 1) _ (fun d hd => h d (List.mem_cons_of_mem _ hd))]
    have e : (ok && (decide (pos < g) && decide (b pos = c)) && (mtW b w (pos + 1) && decide (pos + 1 + w.length = g))) = (ok && (mtW b (c :: w) pos && decide (pos + (c :: w).length = g))) := by
      show _ = (ok && ((decide (b pos = c) && mtW b w (pos + 1)) && decide (pos + (w.length + 1) = g)))
      have l : pos + (w.length + 1) = pos + 1 + w.length := by omega
      rw [l]
      by_cases z : pos + 1 + w.length = g
      · rw [decide_eq_true z, decide_eq_true (show pos < g by omega), Bool.true_and, Bool.and_true, Bool.and_true, Bool.and_assoc]
      · rw [decide_eq_false z, Bool.and_false, Bool.and_false, Bool.and_false, Bool.and_false]
    rw [e]
theorem wo_e : ∀ (w : List Nat) (idx pos : Nat) (ok : Bool), (∀ c, c ∈ w → c ≠ 32) → woI b f g w idx pos ok = if ok && (mtW b w pos && decide (pos + w.length = g)) then nI idx else -1
  | [], idx, pos, ok, _ => rfl
  | c :: w, idx, pos, ok, h => by
    show (if c = 32 then _ else woI b f g w idx (pos + 1) (ok && (decide (pos < g) && decide (b pos = c)))) = _
    rw [if_neg (h c List.mem_cons_self), wo_e w idx (pos + 1) _ (fun d hd => h d (List.mem_cons_of_mem _ hd))]
    have e : (ok && (decide (pos < g) && decide (b pos = c)) && (mtW b w (pos + 1) && decide (pos + 1 + w.length = g))) = (ok && (mtW b (c :: w) pos && decide (pos + (c :: w).length = g))) := by
      show _ = (ok && ((decide (b pos = c) && mtW b w (pos + 1)) && decide (pos + (w.length + 1) = g)))
      have l : pos + (w.length + 1) = pos + 1 + w.length := by omega
      rw [l]
      by_cases z : pos + 1 + w.length = g
      · rw [decide_eq_true z, decide_eq_true (show pos < g by omega), Bool.true_and, Bool.and_true, Bool.and_true, Bool.and_assoc]
      · rw [decide_eq_false z, Bool.and_false, Bool.and_false, Bool.and_false, Bool.and_false]
    rw [e]
theorem okW_c {w : List Nat} (h : okW w = true) : w ≠ [] ∧ ∀ c, c ∈ w → 97 ≤ c ∧ c ≤ 122 := by
  have ⟨a, c⟩ := Bool.and_eq_true_iff.mp h
  refine ⟨of_decide_eq_true a, fun d hd => ?_⟩
  have := (List.all_eq_true.mp c) d hd
  have ⟨x, y⟩ := Bool.and_eq_true_iff.mp this
  exact ⟨of_decide_eq_true x, of_decide_eq_true y⟩
theorem wo_jn (hg : g = wEn b L f) : ∀ (ws : List (List Nat)) (idx : Nat), ws ≠ [] → ws.all okW = true → woI b f g (jnL ws) idx f true = fiW b L ws f idx
  | [], _, h, _ => absurd rfl h
  | [w], idx, _, h => by
    have hw := okW_c (List.all_eq_true.mp h w List.mem_cons_self)
    show woI b f g w idx f true = if wdB b L w f then nI idx else -1
    rw [wo_e w idx f true (fun c hc => by have := hw.2 c hc; omega), Bool.true_and, hg]
    rfl
  | w :: v :: ws, idx, _, h => by
    have hw := okW_c (List.all_eq_true.mp h w List.mem_cons_self)
    have h' : (v :: ws).all okW = true := List.all_eq_true.mpr fun x hx => List.all_eq_true.mp h x (List.mem_cons_of_mem _ hx)
    show woI b f g (w ++ 32 :: jnL (v :: ws)) idx f true = if wdB b L w f then nI idx else fiW b L (v :: ws) f (idx + 1)
    rw [wo_w w idx f true (fun c hc => by have := hw.2 c hc; omega), Bool.true_and, wo_jn hg (v :: ws) (idx + 1) (by simp) h', hg]
    rfl
theorem jn_c : ∀ (ws : List (List Nat)), ws.all okW = true → ∀ c, c ∈ jnL ws → c < 128
  | [], _, c, hc => by simp [jnL] at hc
  | [w], h, c, hc => by
    have hw := okW_c (List.all_eq_true.mp h w List.mem_cons_self)
    have := hw.2 c hc
    omega
  | w :: v :: ws, h, c, hc => by
    have hw := okW_c (List.all_eq_true.mp h w List.mem_cons_self)
    have h' : (v :: ws).all okW = true := List.all_eq_true.mpr fun x hx => List.all_eq_true.mp h x (List.mem_cons_of_mem _ hx)
    have hc : c ∈ w ++ 32 :: jnL (v :: ws) := hc
    rcases List.mem_append.mp hc with q | q
    · have := hw.2 c q; omega
    · rcases List.mem_cons.mp q with q | q
      · omega
      · exact jn_c (v :: ws) h' c q
theorem s_len {k : Nat} {ws : List (List Nat)} (S : isS k ws) : sLn k = (jnL ws).length ∧ sLen k = nI (jnL ws).length := by
  have : sLn k = (jnL ws).length := by unfold sLn; rw [S.1, List.length_map]
  exact ⟨this, by unfold sLen; rw [this]; rfl⟩
theorem s_at {k j : Nat} {ws : List (List Nat)} (S : isS k ws) (hj : j < (jnL ws).length) : sAt k j = nI (jnL ws)[j] := by
  unfold sAt
  rw [S.1, List.getD_eq_getElem?_getD, List.getElem?_map, List.getElem?_eq_getElem hj]
  rfl
theorem c_wordL {k : Nat} {ws : List (List Nat)} {u : Hp} (S : isS k ws) (X : LXc b L u) (h3 : u 2 3 = nI f) (h4 : u 2 4 = nI g) (hg : g ≤ L) (hf : f ≤ L) : F_X10_wordOf_25 u k FU 0 (nI f) 1 0 = some (woI b f g (jnL ws) 0 f true) := by
  obtain ⟨S1, S2⟩ := s_len S
  have l100 := S.2.2
  have hc := jn_c ws (Bool.and_eq_true_iff.mp S.2.1).2
  have sat := fun j hj => s_at (k := k) (j := j) S hj
  obtain ⟨cs, hcs⟩ : ∃ cs, jnL ws = cs := ⟨_, rfl⟩
  have sat' : ∀ j (hj : j < cs.length), sAt k j = nI cs[j] := fun j hj => by subst hcs; exact sat j hj
  rw [hcs] at S1 S2 l100 hc ⊢
  have X4 := X.1
  obtain ⟨R, hR⟩ : ∃ R, woI b f g cs 0 f true = R := ⟨_, rfl⟩
  rw [hR]
  have Q := loopV (S_X10_wordOf_25 u k) (fun _ _ _ _ => none) (fun q (s : Nat × Nat × Bool × Nat) => q (nI s.1) (nI s.2.1) (bI s.2.2.1) (nI s.2.2.2)) (cs.length + 1) (fun j s => s.2.2.2 = j ∧ s.1 ≤ j ∧ s.2.1 ≤ f + j ∧ if j ≤ cs.length then woI b f g (cs.drop j) s.1 s.2.1 s.2.2.1 = R else R = -1)
    (fun r => r = some R) (by omega) (fun j s hj hs => ?_) (fun s hs => ?_) (0, f, true, 0) ⟨rfl, Nat.le_refl 0, Nat.le_refl f, by rw [if_pos (Nat.zero_le _)]; exact hR⟩
  · exact Q
  · obtain ⟨idx, pos, ok, x5⟩ := s
    dsimp only at hs
    obtain ⟨rfl, i1, i2, hw⟩ := hs
    rw [if_pos (show x5 ≤ cs.length by omega)] at hw
    have n5 : ¬ sLen k < nI x5 := by rw [S2]; exact fun z => absurd ((nI_ltI (by omega) (by omega)).mp z) (by omega)
    by_cases c : x5 < cs.length
    · rw [List.drop_eq_getElem_cons c] at hw
      have c128 : cs[x5] < 128 := hc _ (List.getElem_mem c)
      have hw : (if cs[x5] = 32 then (if ok && decide (pos = g) then nI idx else woI b f g (cs.drop (x5 + 1)) (idx + 1) f true) else woI b f g (cs.drop (x5 + 1)) idx (pos + 1) (ok && (decide (pos < g) && decide (b pos = cs[x5])))) = R := hw
      have st : ∀ q : Int32 → Int32 → Int32 → Int32 → Option Int32, S_X10_wordOf_25 u k q (nI idx) (nI pos) (bI ok) (nI x5) = F_X10_wordOf_54 q u k (nI idx) (nI pos) (bI ok) (nI x5) (nI cs[x5]) := fun q => by
        unfold S_X10_wordOf_25
        rw [if_neg n5, S2, if_pos ((nI_ltI (by omega) (by omega)).mpr c), S1, gdT (nI_ix c (by omega)), nI_clamp (by omega), sat' x5 c]
      by_cases sp : cs[x5] = 32
      · rw [if_pos sp] at hw
        by_cases d : (ok && decide (pos = g)) = true
        · rw [if_pos d] at hw
          have ⟨d1, d2⟩ := Bool.and_eq_true_iff.mp d
          refine Or.inr ⟨_, rfl, fun q => ?_⟩
          show S_X10_wordOf_25 u k q (nI idx) (nI pos) (bI ok) (nI x5) = some R
          rw [st]
          unfold F_X10_wordOf_54
          rw [sp, if_pos (show nI 32 = 32 from rfl), d1, if_neg (show ¬ bI true = 0 by decide), h4, if_pos (by rw [of_decide_eq_true d2]), hw]
        · rw [if_neg d] at hw
          refine Or.inl ⟨(idx + 1, f, true, x5 + 1), ⟨rfl, by dsimp only; omega, by dsimp only; omega, by rw [if_pos (show x5 + 1 ≤ cs.length by omega)]; exact hw⟩, fun q => ?_⟩
          show S_X10_wordOf_25 u k q (nI idx) (nI pos) (bI ok) (nI x5) = q (nI (idx + 1)) (nI f) (bI true) (nI (x5 + 1))
          rw [st]
          unfold F_X10_wordOf_54 F_X10_wordOf_128
          rw [sp, if_pos (show nI 32 = 32 from rfl), h4, h3, nI_1, nI_1]
          cases ok
          · rw [if_pos (show bI false = 0 from rfl)]; rfl
          · rw [if_neg (show ¬ bI true = 0 by decide), if_neg (fun z => d (by rw [decide_eq_true ((nI_eq (by omega) (by omega)).mp z)]; rfl))]; rfl
      · rw [if_neg sp] at hw
        refine Or.inl ⟨(idx, pos + 1, ok && (decide (pos < g) && decide (b pos = cs[x5])), x5 + 1), ⟨rfl, by dsimp only; omega, by dsimp only; omega, by rw [if_pos (show x5 + 1 ≤ cs.length by omega)]; exact hw⟩, fun q => ?_⟩
        show S_X10_wordOf_25 u k q (nI idx) (nI pos) (bI ok) (nI x5) = q (nI idx) (nI (pos + 1)) (bI (ok && (decide (pos < g) && decide (b pos = cs[x5])))) (nI (x5 + 1))
        rw [st]
        unfold F_X10_wordOf_54
        rw [if_neg (show ¬ nI cs[x5] = 32 from fun z => sp ((nI_eq (b := 32) (by omega) (by omega)).mp z)), h4, nI_1, nI_1]
        cases ok
        · rw [if_pos (show bI false = 0 from rfl)]; rfl
        · rw [if_neg (show ¬ bI true = 0 by decide), if_neg (nI_pos (by omega)), Bool.true_and]
          by_cases d : pos < g
          · have ⟨b1, b2⟩ := X.2.2 pos (by omega)
            rw [if_pos ((nI_ltI (by omega) (by omega)).mpr d), if_pos (show nI pos < 400 from (nI_ltI (b := 400) (by omega) (by omega)).mpr (by omega)), gdT (nI_ix (by omega) (by omega)), nI_clamp (by omega), b2, decide_eq_true d, Bool.true_and]
            by_cases e : b pos = cs[x5]
            · rw [if_pos (by rw [e]), decide_eq_true e]; rfl
            · rw [if_neg (fun z => e ((nI_eq (by omega) (by omega)).mp z)), decide_eq_false e]; rfl
          · rw [if_neg (fun z => d ((nI_ltI (by omega) (by omega)).mp z)), decide_eq_false d, Bool.false_and]; rfl
    · obtain rfl : x5 = cs.length := by omega
      rw [List.drop_length] at hw
      have hw : (if ok && decide (pos = g) then nI idx else -1) = R := hw
      have st : ∀ q : Int32 → Int32 → Int32 → Int32 → Option Int32, S_X10_wordOf_25 u k q (nI idx) (nI pos) (bI ok) (nI cs.length) = F_X10_wordOf_54 q u k (nI idx) (nI pos) (bI ok) (nI cs.length) 32 := fun q => by
        unfold S_X10_wordOf_25
        rw [if_neg n5, S2, if_neg (fun z => absurd ((nI_ltI (by omega) (by omega)).mp z) (Nat.lt_irrefl _))]
      by_cases d : (ok && decide (pos = g)) = true
      · rw [if_pos d] at hw
        have ⟨d1, d2⟩ := Bool.and_eq_true_iff.mp d
        refine Or.inr ⟨_, rfl, fun q => ?_⟩
        show S_X10_wordOf_25 u k q (nI idx) (nI pos) (bI ok) (nI cs.length) = some R
        rw [st]
        unfold F_X10_wordOf_54
        rw [if_pos (rfl : (32 : Int32) = 32), d1, if_neg (show ¬ bI true = 0 by decide), h4, if_pos (by rw [of_decide_eq_true d2]), hw]
      · rw [if_neg d] at hw
        refine Or.inl ⟨(idx + 1, f, true, cs.length + 1), ⟨rfl, by dsimp only; omega, by dsimp only; omega, by rw [if_neg (show ¬ cs.length + 1 ≤ cs.length by omega)]; exact hw.symm⟩, fun q => ?_⟩
        show S_X10_wordOf_25 u k q (nI idx) (nI pos) (bI ok) (nI cs.length) = q (nI (idx + 1)) (nI f) (bI true) (nI (cs.length + 1))
        rw [st]
        unfold F_X10_wordOf_54 F_X10_wordOf_128
        rw [if_pos (rfl : (32 : Int32) = 32), h4, h3, nI_1, nI_1]
        cases ok
        · rw [if_pos (show bI false = 0 from rfl)]; rfl
        · rw [if_neg (show ¬ bI true = 0 by decide), if_neg (fun z => d (by rw [decide_eq_true ((nI_eq (by omega) (by omega)).mp z)]; rfl))]; rfl
  · obtain ⟨idx, pos, ok, x5⟩ := s
    dsimp only at hs
    obtain ⟨rfl, i1, i2, hw⟩ := hs
    rw [if_neg (show ¬ cs.length + 1 ≤ cs.length by omega)] at hw
    refine ⟨_, rfl, fun q => ?_⟩
    show S_X10_wordOf_25 u k q (nI idx) (nI pos) (bI ok) (nI (cs.length + 1)) = some R
    unfold S_X10_wordOf_25
    rw [S2, if_pos ((nI_ltI (by omega) (by omega)).mpr (by omega)), hw]
theorem wd_lt {w : List Nat} (hw : okW w = true) (h : wdB b L w f = true) : f < L ∧ ltB b f = true ∧ edN b L f = wEn b L f := by
  have ⟨h1, h2⟩ := Bool.and_eq_true_iff.mp h
  have h2 := of_decide_eq_true h2
  have ⟨ne, _⟩ := okW_c hw
  have lp : 0 < w.length := List.length_pos_iff.mpr ne
  have c : f < L ∧ ltB b f = true := by
    refine Classical.byContradiction fun q => ?_
    have : wEn b L f = f := rn_f (by
      by_cases z : f < L
      · exact Or.inr (Bool.eq_false_iff.mpr fun y => q ⟨z, y⟩)
      · exact Or.inl (by omega))
    omega
  exact ⟨c.1, c.2, by unfold edN; rw [if_pos c.1, if_pos c.2]⟩
theorem fi_no (h : ¬ (f < L ∧ ltB b f = true)) : ∀ (ws : List (List Nat)) (idx : Nat), ws.all okW = true → fiW b L ws f idx = -1
  | [], _, _ => rfl
  | w :: ws, idx, hw => by
    show (if wdB b L w f then nI idx else fiW b L ws f (idx + 1)) = -1
    rw [if_neg (fun q => h ⟨(wd_lt (List.all_eq_true.mp hw w List.mem_cons_self) q).1, (wd_lt (List.all_eq_true.mp hw w List.mem_cons_self) q).2.1⟩)]
    exact fi_no h ws (idx + 1) (List.all_eq_true.mpr fun x hx => List.all_eq_true.mp hw x (List.mem_cons_of_mem _ hx))
theorem kd_256 (hb : f < L → b f < 256) : (kdI b L f = 256) ↔ (f < L ∧ ltB b f = true) := by
  unfold kdI
  by_cases c : f < L
  · have := hb c
    rw [if_pos c]
    by_cases d : ltB b f = true
    · rw [if_pos d]; exact ⟨fun _ => ⟨c, d⟩, fun _ => rfl⟩
    · rw [if_neg d]
      refine ⟨fun z => ?_, fun z => absurd z.2 d⟩
      by_cases e : fgB b f = true
      · rw [if_pos e] at z; exact absurd z (by decide)
      · rw [if_neg e] at z
        have := (nI_eq (b := 256) (by omega) (by omega)).mp z
        omega
  · rw [if_neg c]; exact ⟨fun z => absurd z (by decide), fun z => absurd z.1 c⟩
theorem c_wordOf {k : Nat} {ws : List (List Nat)} {u : Hp} (S : isS k ws) (X : LXc b L u) (T : TKc b L f u) : f_X10_wordOf k u = some (fiW b L ws f 0) := by
  have ⟨w1, w2⟩ := Bool.and_eq_true_iff.mp S.2.1
  unfold f_X10_wordOf
  rw [T.2.2.2.1, T.2.1]
  by_cases c : f < L ∧ ltB b f = true
  · rw [if_pos ((kd_256 (fun h => (X.2.2 f h).1)).mpr c)]
    have eg : edN b L f = wEn b L f := by unfold edN; rw [if_pos c.1, if_pos c.2]
    rw [c_wordL S X T.2.1 T.2.2.1 (ed_L T.1) T.1, wo_jn eg ws 0 (of_decide_eq_true w1) w2]
  · rw [if_neg (fun z => c ((kd_256 (fun h => (X.2.2 f h).1)).mp z)), fi_no c ws 0 w2]
theorem mt_inj : ∀ (w v : List Nat) (i : Nat), w.length = v.length → mtW b w i = true → mtW b v i = true → w = v
  | [], [], _, _, _, _ => rfl
  | [], _ :: _, _, h, _, _ => by simp at h
  | _ :: _, [], _, h, _, _ => by simp at h
  | c :: w, d :: v, i, h, x, y => by
    have ⟨x1, x2⟩ := Bool.and_eq_true_iff.mp (show (decide (b i = c) && mtW b w (i + 1)) = true from x)
    have ⟨y1, y2⟩ := Bool.and_eq_true_iff.mp (show (decide (b i = d) && mtW b v (i + 1)) = true from y)
    have e1 := of_decide_eq_true x1
    have e2 := of_decide_eq_true y1
    rw [mt_inj w v (i + 1) (by simpa using h) x2 y2, ← e1, ← e2]
theorem wd_inj {w v : List Nat} (x : wdB b L w f = true) (y : wdB b L v f = true) : w = v := by
  have ⟨x1, x2⟩ := Bool.and_eq_true_iff.mp x
  have ⟨y1, y2⟩ := Bool.and_eq_true_iff.mp y
  have x2 := of_decide_eq_true x2
  have y2 := of_decide_eq_true y2
  exact mt_inj w v f (by omega) x1 y1
theorem wd_ne {w v : List Nat} (x : wdB b L w f = true) (h : w ≠ v) : wdB b L v f = false := by
  cases c : wdB b L v f
  · rfl
  · exact absurd (wd_inj x c) h
end WO
