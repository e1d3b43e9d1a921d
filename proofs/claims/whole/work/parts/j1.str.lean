/-! ASSEMBLY: a string's conditions in what is given -/
theorem so_10 : strOkB ("LeanCity$LawReader", 50, "if") := by unfold strOkB; decide +kernel
theorem so_11 : strOkB ("LeanCity$LawReader", 77, "not") := by unfold strOkB; decide +kernel
theorem so_12 : strOkB ("LeanCity$LawReader", 88, "leaning leant held") := by unfold strOkB; decide +kernel
theorem so_13 : strOkB ("LeanCity$LawReader", 93, "house weight ivy age evening press") := by unfold strOkB; decide +kernel
theorem so_14 : strOkB ("LeanCity$LawReader", 75, "and") := by unfold strOkB; decide +kernel
theorem so_15 : strOkB ("LeanCity$LawReader", 66, "or") := by unfold strOkB; decide +kernel
theorem so_16 : strOkB ("LeanCityModel", 184, "house") := by unfold strOkB; decide +kernel
theorem so_17 : strOkB ("LeanCityModel", 152, "weight") := by unfold strOkB; decide +kernel
theorem so_18 : strOkB ("LeanCityModel", 158, "firm") := by unfold strOkB; decide +kernel
theorem so_19 : strOkB ("LeanCityModel", 160, "ivy") := by unfold strOkB; decide +kernel
