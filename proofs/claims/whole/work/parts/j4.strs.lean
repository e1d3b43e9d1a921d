/-! ASSEMBLY: every string -/
theorem so_all (i : Nat) (q : String × Nat × String) (hq : strT[i]? = some q) : strOkB q := by
  match i, hq with
  | 0, hq => cases hq; exact so_0
  | 1, hq => cases hq; exact so_1
  | 2, hq => cases hq; exact so_2
  | 3, hq => cases hq; exact so_3
  | 4, hq => cases hq; exact so_4
  | 5, hq => cases hq; exact so_5
  | 6, hq => cases hq; exact so_6
  | 7, hq => cases hq; exact so_7
  | 8, hq => cases hq; exact so_8
  | 9, hq => cases hq; exact so_9
  | 10, hq => cases hq; exact so_10
  | 11, hq => cases hq; exact so_11
  | 12, hq => cases hq; exact so_12
  | 13, hq => cases hq; exact so_13
  | 14, hq => cases hq; exact so_14
  | 15, hq => cases hq; exact so_15
  | 16, hq => cases hq; exact so_16
  | 17, hq => cases hq; exact so_17
  | 18, hq => cases hq; exact so_18
  | 19, hq => cases hq; exact so_19
  | 20, hq => cases hq; exact so_20
  | 21, hq => cases hq; exact so_21
  | 22, hq => cases hq; exact so_22
  | 23, hq => cases hq; exact so_23
  | 24, hq => cases hq; exact so_24
  | 25, hq => cases hq; exact so_25
  | 26, hq => cases hq; exact so_26
  | 27, hq => cases hq; exact so_27
  | 28, hq => cases hq; exact so_28
  | 29, hq => cases hq; exact so_29
  | 30, hq => cases hq; exact so_30
  | 31, hq => cases hq; exact so_31
  | 32, hq => cases hq; exact so_32
  | 33, hq => cases hq; exact so_33
  | 34, hq => cases hq; exact so_34
  | 35, hq => cases hq; exact so_35
  | 36, hq => cases hq; exact so_36
  | 37, hq => cases hq; exact so_37
  | 38, hq => cases hq; exact so_38
  | 39, hq => cases hq; exact so_39
  | 40, hq => cases hq; exact so_40
  | k + 41, hq => simp [strT] at hq
theorem sr_0 : Cond.stringRef "LeanCity$CityReader" 35 "house person lean wander prop evening week" ∈ lw_tbl := tin_3 _ (List.mem_of_getElem? (i := 225) rfl)
theorem sr_1 : Cond.stringRef "LeanCity$CityReader" 78 "weight" ∈ lw_tbl := tin_4 _ (List.mem_of_getElem? (i := 45) rfl)
theorem sr_2 : Cond.stringRef "LeanCity$CityReader" 84 "firm" ∈ lw_tbl := tin_4 _ (List.mem_of_getElem? (i := 63) rfl)
theorem sr_3 : Cond.stringRef "LeanCity$CityReader" 86 "ivy" ∈ lw_tbl := tin_4 _ (List.mem_of_getElem? (i := 64) rfl)
theorem sr_4 : Cond.stringRef "LeanCity$CityReader" 91 "age" ∈ lw_tbl := tin_4 _ (List.mem_of_getElem? (i := 69) rfl)
theorem sr_5 : Cond.stringRef "LeanCity$CityReader" 107 "at" ∈ lw_tbl := tin_4 _ (List.mem_of_getElem? (i := 81) rfl)
theorem sr_6 : Cond.stringRef "LeanCity$CityReader" 109 "hold" ∈ lw_tbl := tin_4 _ (List.mem_of_getElem? (i := 86) rfl)
theorem sr_7 : Cond.stringRef "LeanCity$CityReader" 111 "on" ∈ lw_tbl := tin_4 _ (List.mem_of_getElem? (i := 87) rfl)
theorem sr_8 : Cond.stringRef "LeanCity$CityReader" 101 "part" ∈ lw_tbl := tin_4 _ (List.mem_of_getElem? (i := 103) rfl)
theorem sr_9 : Cond.stringRef "LeanCity$LawReader" 36 "firm soft grow" ∈ lw_tbl := tin_4 _ (List.mem_of_getElem? (i := 210) rfl)
theorem sr_10 : Cond.stringRef "LeanCity$LawReader" 50 "if" ∈ lw_tbl := tin_4 _ (List.mem_of_getElem? (i := 218) rfl)
theorem sr_11 : Cond.stringRef "LeanCity$LawReader" 77 "not" ∈ lw_tbl := tin_4 _ (List.mem_of_getElem? (i := 229) rfl)
theorem sr_12 : Cond.stringRef "LeanCity$LawReader" 88 "leaning leant held" ∈ lw_tbl := tin_5 _ (List.mem_of_getElem? (i := 1) rfl)
theorem sr_13 : Cond.stringRef "LeanCity$LawReader" 93 "house weight ivy age evening press" ∈ lw_tbl := tin_5 _ (List.mem_of_getElem? (i := 5) rfl)
theorem sr_14 : Cond.stringRef "LeanCity$LawReader" 75 "and" ∈ lw_tbl := tin_5 _ (List.mem_of_getElem? (i := 7) rfl)
theorem sr_15 : Cond.stringRef "LeanCity$LawReader" 66 "or" ∈ lw_tbl := tin_5 _ (List.mem_of_getElem? (i := 8) rfl)
theorem sr_16 : Cond.stringRef "LeanCityModel" 184 "house" ∈ lw_tbl := tin_7 _ (List.mem_of_getElem? (i := 155) rfl)
theorem sr_17 : Cond.stringRef "LeanCityModel" 152 "weight" ∈ lw_tbl := tin_7 _ (List.mem_of_getElem? (i := 170) rfl)
theorem sr_18 : Cond.stringRef "LeanCityModel" 158 "firm" ∈ lw_tbl := tin_7 _ (List.mem_of_getElem? (i := 179) rfl)
theorem sr_19 : Cond.stringRef "LeanCityModel" 160 "ivy" ∈ lw_tbl := tin_7 _ (List.mem_of_getElem? (i := 180) rfl)
theorem sr_20 : Cond.stringRef "LeanCityModel" 165 "age" ∈ lw_tbl := tin_7 _ (List.mem_of_getElem? (i := 185) rfl)
theorem sr_21 : Cond.stringRef "LeanCityModel" 190 "lean" ∈ lw_tbl := tin_7 _ (List.mem_of_getElem? (i := 196) rfl)
theorem sr_22 : Cond.stringRef "LeanCityModel" 174 "part" ∈ lw_tbl := tin_7 _ (List.mem_of_getElem? (i := 213) rfl)
theorem sr_23 : Cond.stringRef "LeanCityModel" 195 "person" ∈ lw_tbl := tin_7 _ (List.mem_of_getElem? (i := 214) rfl)
theorem sr_24 : Cond.stringRef "LeanCityModel" 176 "at" ∈ lw_tbl := tin_7 _ (List.mem_of_getElem? (i := 223) rfl)
theorem sr_25 : Cond.stringRef "LeanCityModel" 177 "hold" ∈ lw_tbl := tin_7 _ (List.mem_of_getElem? (i := 224) rfl)
theorem sr_26 : Cond.stringRef "LeanCityModel" 179 "on" ∈ lw_tbl := tin_7 _ (List.mem_of_getElem? (i := 225) rfl)
theorem sr_27 : Cond.stringRef "LeanCityModel" 200 "wander" ∈ lw_tbl := tin_7 _ (List.mem_of_getElem? (i := 233) rfl)
theorem sr_28 : Cond.stringRef "LeanCityModel" 205 "prop" ∈ lw_tbl := tin_7 _ (List.mem_of_getElem? (i := 238) rfl)
theorem sr_29 : Cond.stringRef "LeanCityModel" 207 "evening" ∈ lw_tbl := tin_7 _ (List.mem_of_getElem? (i := 239) rfl)
theorem sr_30 : Cond.stringRef "LeanCityModel" 209 "week" ∈ lw_tbl := tin_8 _ (List.mem_of_getElem? (i := 0) rfl)
theorem sr_31 : Cond.stringRef "LeanCityModel" 257 "soft" ∈ lw_tbl := tin_8 _ (List.mem_of_getElem? (i := 5) rfl)
theorem sr_32 : Cond.stringRef "LeanCityModel" 259 "grow" ∈ lw_tbl := tin_8 _ (List.mem_of_getElem? (i := 6) rfl)
theorem sr_33 : Cond.stringRef "LeanCityModel" 261 "if" ∈ lw_tbl := tin_8 _ (List.mem_of_getElem? (i := 7) rfl)
theorem sr_34 : Cond.stringRef "LeanCityModel" 239 "not" ∈ lw_tbl := tin_8 _ (List.mem_of_getElem? (i := 24) rfl)
theorem sr_35 : Cond.stringRef "LeanCityModel" 227 "leaning" ∈ lw_tbl := tin_8 _ (List.mem_of_getElem? (i := 33) rfl)
theorem sr_36 : Cond.stringRef "LeanCityModel" 229 "leant" ∈ lw_tbl := tin_8 _ (List.mem_of_getElem? (i := 34) rfl)
theorem sr_37 : Cond.stringRef "LeanCityModel" 231 "held" ∈ lw_tbl := tin_8 _ (List.mem_of_getElem? (i := 35) rfl)
theorem sr_38 : Cond.stringRef "LeanCityModel" 214 "press" ∈ lw_tbl := tin_8 _ (List.mem_of_getElem? (i := 48) rfl)
theorem sr_39 : Cond.stringRef "LeanCityModel" 250 "and" ∈ lw_tbl := tin_8 _ (List.mem_of_getElem? (i := 49) rfl)
theorem sr_40 : Cond.stringRef "LeanCityModel" 255 "or" ∈ lw_tbl := tin_8 _ (List.mem_of_getElem? (i := 50) rfl)
theorem sr_all (i : Nat) (q : String × Nat × String) (hq : strT[i]? = some q) : Cond.stringRef q.1 q.2.1 q.2.2 ∈ lw_tbl := by
  match i, hq with
  | 0, hq => cases hq; exact sr_0
  | 1, hq => cases hq; exact sr_1
  | 2, hq => cases hq; exact sr_2
  | 3, hq => cases hq; exact sr_3
  | 4, hq => cases hq; exact sr_4
  | 5, hq => cases hq; exact sr_5
  | 6, hq => cases hq; exact sr_6
  | 7, hq => cases hq; exact sr_7
  | 8, hq => cases hq; exact sr_8
  | 9, hq => cases hq; exact sr_9
  | 10, hq => cases hq; exact sr_10
  | 11, hq => cases hq; exact sr_11
  | 12, hq => cases hq; exact sr_12
  | 13, hq => cases hq; exact sr_13
  | 14, hq => cases hq; exact sr_14
  | 15, hq => cases hq; exact sr_15
  | 16, hq => cases hq; exact sr_16
  | 17, hq => cases hq; exact sr_17
  | 18, hq => cases hq; exact sr_18
  | 19, hq => cases hq; exact sr_19
  | 20, hq => cases hq; exact sr_20
  | 21, hq => cases hq; exact sr_21
  | 22, hq => cases hq; exact sr_22
  | 23, hq => cases hq; exact sr_23
  | 24, hq => cases hq; exact sr_24
  | 25, hq => cases hq; exact sr_25
  | 26, hq => cases hq; exact sr_26
  | 27, hq => cases hq; exact sr_27
  | 28, hq => cases hq; exact sr_28
  | 29, hq => cases hq; exact sr_29
  | 30, hq => cases hq; exact sr_30
  | 31, hq => cases hq; exact sr_31
  | 32, hq => cases hq; exact sr_32
  | 33, hq => cases hq; exact sr_33
  | 34, hq => cases hq; exact sr_34
  | 35, hq => cases hq; exact sr_35
  | 36, hq => cases hq; exact sr_36
  | 37, hq => cases hq; exact sr_37
  | 38, hq => cases hq; exact sr_38
  | 39, hq => cases hq; exact sr_39
  | 40, hq => cases hq; exact sr_40
  | k + 41, hq => simp [strT] at hq
theorem str_len (i : Nat) (q : String × Nat × String) (hq : strT[i]? = some q) : (strBytes q.2.2).length < 2 ^ 31 := by
  have h : ∀ q ∈ strT, (strBytes q.2.2).length < 100 := by decide +kernel
  have := h q (List.mem_of_getElem? hq)
  omega
section ST6
variable {s : State} {args : Array Value}
theorem k_str (hts : ∀ w ∈ lw_tbl, w.before args s = true) (hgv : (Jvm.Cond.and given_1 narrow_1).before args s = true) (i : Nat) (q : String × Nat × String) (hq : strT[i]? = some q) :
    ∃ aK aV : Nat, vk_R q.1 q.2.1 q.2.2 aK s ∧ vk_S 1 [(strBytes q.2.2).length] [strBytes q.2.2] (fun _ => aK) (fun _ => aV) (fun a => s.heap.size ≤ a) s s.heap := by
  have hs := flat_of_before _ hgv
  have i1 : ∀ i, i < 1 → i = 0 := fun i hi => by omega
  obtain ⟨o1, o2, o3, o4, o5⟩ := so_all i q hq
  obtain ⟨adK, adV, h1, h2⟩ := vk_Sof (args := args) (s := s) (N := 1) (tm := fun _ => Term.string q.1 q.2.1) (len := [(strBytes q.2.2).length]) (byt := [strBytes q.2.2]) (A := fun a => s.heap.size ≤ a)
    (fun i hi => by rw [i1 i hi]; exact str_len _ q hq)
    (fun i hi => hs _ o1) (fun i hi => hs _ o2) (fun i hi => hs _ o3)
    (fun i hi => by rw [i1 i hi]; exact hs _ o4)
    (fun i hi => by rw [i1 i hi]; exact fun j hj => hs _ (o5 j hj))
    (fun i j hi hj e => absurd ((i1 i hi).trans (i1 j hj).symm) e) (fun a h z => by omega)
  refine ⟨adK 0, adV 0, vk_R.of (A := args) (hts _ (sr_all i q hq)) (h2 0 (by omega)), ⟨fun i hi => ?_, fun i j hi hj _ => (i1 i hi).trans (i1 j hj).symm⟩⟩
  rw [i1 i hi]
  exact h1.1 0 (by omega)
end ST6
