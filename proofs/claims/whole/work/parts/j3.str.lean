/-! ASSEMBLY: a string's conditions in what is given -/
theorem so_30 : strOkB ("LeanCityModel", 209, "week") := by unfold strOkB; decide +kernel
theorem so_31 : strOkB ("LeanCityModel", 257, "soft") := by unfold strOkB; decide +kernel
theorem so_32 : strOkB ("LeanCityModel", 259, "grow") := by unfold strOkB; decide +kernel
theorem so_33 : strOkB ("LeanCityModel", 261, "if") := by unfold strOkB; decide +kernel
theorem so_34 : strOkB ("LeanCityModel", 239, "not") := by unfold strOkB; decide +kernel
theorem so_35 : strOkB ("LeanCityModel", 227, "leaning") := by unfold strOkB; decide +kernel
theorem so_36 : strOkB ("LeanCityModel", 229, "leant") := by unfold strOkB; decide +kernel
theorem so_37 : strOkB ("LeanCityModel", 231, "held") := by unfold strOkB; decide +kernel
theorem so_38 : strOkB ("LeanCityModel", 214, "press") := by unfold strOkB; decide +kernel
theorem so_39 : strOkB ("LeanCityModel", 250, "and") := by unfold strOkB; decide +kernel
theorem so_40 : strOkB ("LeanCityModel", 255, "or") := by unfold strOkB; decide +kernel
