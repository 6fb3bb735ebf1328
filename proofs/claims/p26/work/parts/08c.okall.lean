/-! the checks, by computation (c) -/
set_option maxRecDepth 100000 in
theorem mm_okg_66 : (List.range' 66 8).all mm_okA = true := by decide +kernel
set_option maxRecDepth 100000 in
theorem mm_okm_74_0 : (List.range' 0 40).all (mm_okE 74) = true := by decide +kernel
set_option maxRecDepth 100000 in
theorem mm_okm_74_40 : (List.range' 40 40).all (mm_okE 74) = true := by decide +kernel
set_option maxRecDepth 100000 in
theorem mm_okm_74_80 : (List.range' 80 40).all (mm_okE 74) = true := by decide +kernel
set_option maxRecDepth 100000 in
theorem mm_okm_74_120 : (List.range' 120 40).all (mm_okE 74) = true := by decide +kernel
set_option maxRecDepth 100000 in
theorem mm_okm_74_160 : (List.range' 160 40).all (mm_okE 74) = true := by decide +kernel
set_option maxRecDepth 100000 in
theorem mm_okm_74_200 : (List.range' 200 40).all (mm_okE 74) = true := by decide +kernel
set_option maxRecDepth 100000 in
theorem mm_okm_74_240 : (List.range' 240 40).all (mm_okE 74) = true := by decide +kernel
set_option maxRecDepth 100000 in
theorem mm_okm_74_280 : (List.range' 280 40).all (mm_okE 74) = true := by decide +kernel
set_option maxRecDepth 100000 in
theorem mm_okm_74_320 : (List.range' 320 40).all (mm_okE 74) = true := by decide +kernel
set_option maxRecDepth 100000 in
theorem mm_okm_74_360 : (List.range' 360 40).all (mm_okE 74) = true := by decide +kernel
set_option maxRecDepth 100000 in
theorem mm_okm_74_400 : (List.range' 400 40).all (mm_okE 74) = true := by decide +kernel
set_option maxRecDepth 100000 in
theorem mm_okm_74_440 : (List.range' 440 40).all (mm_okE 74) = true := by decide +kernel
set_option maxRecDepth 100000 in
theorem mm_okm_74_480 : (List.range' 480 40).all (mm_okE 74) = true := by decide +kernel
set_option maxRecDepth 100000 in
theorem mm_okm_74_520 : (List.range' 520 40).all (mm_okE 74) = true := by decide +kernel
set_option maxRecDepth 100000 in
theorem mm_okm_74_560 : (List.range' 560 40).all (mm_okE 74) = true := by decide +kernel
set_option maxRecDepth 100000 in
theorem mm_okm_74_600 : (List.range' 600 40).all (mm_okE 74) = true := by decide +kernel
theorem mm_okM_74 : ∀ pc, pc < 620 → mm_okE 74 pc = true := by
  intro pc hpc
  by_cases h0 : pc < 40
  · exact List.all_eq_true.mp mm_okm_74_0 pc (by rw [List.mem_range'_1]; omega)
  by_cases h40 : pc < 80
  · exact List.all_eq_true.mp mm_okm_74_40 pc (by rw [List.mem_range'_1]; omega)
  by_cases h80 : pc < 120
  · exact List.all_eq_true.mp mm_okm_74_80 pc (by rw [List.mem_range'_1]; omega)
  by_cases h120 : pc < 160
  · exact List.all_eq_true.mp mm_okm_74_120 pc (by rw [List.mem_range'_1]; omega)
  by_cases h160 : pc < 200
  · exact List.all_eq_true.mp mm_okm_74_160 pc (by rw [List.mem_range'_1]; omega)
  by_cases h200 : pc < 240
  · exact List.all_eq_true.mp mm_okm_74_200 pc (by rw [List.mem_range'_1]; omega)
  by_cases h240 : pc < 280
  · exact List.all_eq_true.mp mm_okm_74_240 pc (by rw [List.mem_range'_1]; omega)
  by_cases h280 : pc < 320
  · exact List.all_eq_true.mp mm_okm_74_280 pc (by rw [List.mem_range'_1]; omega)
  by_cases h320 : pc < 360
  · exact List.all_eq_true.mp mm_okm_74_320 pc (by rw [List.mem_range'_1]; omega)
  by_cases h360 : pc < 400
  · exact List.all_eq_true.mp mm_okm_74_360 pc (by rw [List.mem_range'_1]; omega)
  by_cases h400 : pc < 440
  · exact List.all_eq_true.mp mm_okm_74_400 pc (by rw [List.mem_range'_1]; omega)
  by_cases h440 : pc < 480
  · exact List.all_eq_true.mp mm_okm_74_440 pc (by rw [List.mem_range'_1]; omega)
  by_cases h480 : pc < 520
  · exact List.all_eq_true.mp mm_okm_74_480 pc (by rw [List.mem_range'_1]; omega)
  by_cases h520 : pc < 560
  · exact List.all_eq_true.mp mm_okm_74_520 pc (by rw [List.mem_range'_1]; omega)
  by_cases h560 : pc < 600
  · exact List.all_eq_true.mp mm_okm_74_560 pc (by rw [List.mem_range'_1]; omega)
  by_cases h600 : pc < 640
  · exact List.all_eq_true.mp mm_okm_74_600 pc (by rw [List.mem_range'_1]; omega)
  omega
