/-! ASSEMBLY: a string's conditions in what is given -/
theorem so_20 : strOkB ("LeanCityModel", 165, "age") := by unfold strOkB; decide +kernel
theorem so_21 : strOkB ("LeanCityModel", 190, "lean") := by unfold strOkB; decide +kernel
theorem so_22 : strOkB ("LeanCityModel", 174, "part") := by unfold strOkB; decide +kernel
theorem so_23 : strOkB ("LeanCityModel", 195, "person") := by unfold strOkB; decide +kernel
theorem so_24 : strOkB ("LeanCityModel", 176, "at") := by unfold strOkB; decide +kernel
theorem so_25 : strOkB ("LeanCityModel", 177, "hold") := by unfold strOkB; decide +kernel
theorem so_26 : strOkB ("LeanCityModel", 179, "on") := by unfold strOkB; decide +kernel
theorem so_27 : strOkB ("LeanCityModel", 200, "wander") := by unfold strOkB; decide +kernel
theorem so_28 : strOkB ("LeanCityModel", 205, "prop") := by unfold strOkB; decide +kernel
theorem so_29 : strOkB ("LeanCityModel", 207, "evening") := by unfold strOkB; decide +kernel
