/-! ASSEMBLY: a string's conditions in what is given -/
def strOkB (q : String × Nat × String) : Prop := Cond.exactly (Term.string q.1 q.2.1) "java/lang/String" ∈ flatC (Jvm.Cond.and given_1 narrow_1) ∧ Cond.eq (.field (Term.string q.1 q.2.1) "java/lang/String" "coder" "B") (.int 0) ∈ flatC (Jvm.Cond.and given_1 narrow_1) ∧
  Cond.arrayOf (.field (Term.string q.1 q.2.1) "java/lang/String" "value" "[B") .byte ∈ flatC (Jvm.Cond.and given_1 narrow_1) ∧ Cond.eq (.length (.field (Term.string q.1 q.2.1) "java/lang/String" "value" "[B")) (.int (Int32.ofNat (strBytes q.2.2).length)) ∈ flatC (Jvm.Cond.and given_1 narrow_1) ∧
  ∀ j, j < (strBytes q.2.2).length → Cond.eq (.elem (.field (Term.string q.1 q.2.1) "java/lang/String" "value" "[B") (.int (Int32.ofNat j))) (.int ((strBytes q.2.2).getD j 0)) ∈ flatC (Jvm.Cond.and given_1 narrow_1)
theorem so_0 : strOkB ("LeanCity$CityReader", 35, "house person lean wander prop evening week") := by unfold strOkB; decide +kernel
theorem so_1 : strOkB ("LeanCity$CityReader", 78, "weight") := by unfold strOkB; decide +kernel
theorem so_2 : strOkB ("LeanCity$CityReader", 84, "firm") := by unfold strOkB; decide +kernel
theorem so_3 : strOkB ("LeanCity$CityReader", 86, "ivy") := by unfold strOkB; decide +kernel
theorem so_4 : strOkB ("LeanCity$CityReader", 91, "age") := by unfold strOkB; decide +kernel
theorem so_5 : strOkB ("LeanCity$CityReader", 107, "at") := by unfold strOkB; decide +kernel
theorem so_6 : strOkB ("LeanCity$CityReader", 109, "hold") := by unfold strOkB; decide +kernel
theorem so_7 : strOkB ("LeanCity$CityReader", 111, "on") := by unfold strOkB; decide +kernel
theorem so_8 : strOkB ("LeanCity$CityReader", 101, "part") := by unfold strOkB; decide +kernel
theorem so_9 : strOkB ("LeanCity$LawReader", 36, "firm soft grow") := by unfold strOkB; decide +kernel
