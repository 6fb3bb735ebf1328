/-! the checks, by computation (b) -/
set_option maxRecDepth 100000 in
theorem mm_okg_30 : (List.range' 30 1).all mm_okA = true := by decide +kernel
set_option maxRecDepth 100000 in
theorem mm_okm_31_0 : (List.range' 0 40).all (mm_okE 31) = true := by decide +kernel
set_option maxRecDepth 100000 in
theorem mm_okm_31_40 : (List.range' 40 40).all (mm_okE 31) = true := by decide +kernel
set_option maxRecDepth 100000 in
theorem mm_okm_31_80 : (List.range' 80 40).all (mm_okE 31) = true := by decide +kernel
set_option maxRecDepth 100000 in
theorem mm_okm_31_120 : (List.range' 120 40).all (mm_okE 31) = true := by decide +kernel
theorem mm_okM_31 : ∀ pc, pc < 152 → mm_okE 31 pc = true := by
  intro pc hpc
  by_cases h0 : pc < 40
  · exact List.all_eq_true.mp mm_okm_31_0 pc (by rw [List.mem_range'_1]; omega)
  by_cases h40 : pc < 80
  · exact List.all_eq_true.mp mm_okm_31_40 pc (by rw [List.mem_range'_1]; omega)
  by_cases h80 : pc < 120
  · exact List.all_eq_true.mp mm_okm_31_80 pc (by rw [List.mem_range'_1]; omega)
  by_cases h120 : pc < 160
  · exact List.all_eq_true.mp mm_okm_31_120 pc (by rw [List.mem_range'_1]; omega)
  omega
set_option maxRecDepth 100000 in
theorem mm_okg_32 : (List.range' 32 2).all mm_okA = true := by decide +kernel
set_option maxRecDepth 100000 in
theorem mm_okm_34_0 : (List.range' 0 40).all (mm_okE 34) = true := by decide +kernel
set_option maxRecDepth 100000 in
theorem mm_okm_34_40 : (List.range' 40 40).all (mm_okE 34) = true := by decide +kernel
set_option maxRecDepth 100000 in
theorem mm_okm_34_80 : (List.range' 80 40).all (mm_okE 34) = true := by decide +kernel
set_option maxRecDepth 100000 in
theorem mm_okm_34_120 : (List.range' 120 40).all (mm_okE 34) = true := by decide +kernel
set_option maxRecDepth 100000 in
theorem mm_okm_34_160 : (List.range' 160 40).all (mm_okE 34) = true := by decide +kernel
theorem mm_okM_34 : ∀ pc, pc < 165 → mm_okE 34 pc = true := by
  intro pc hpc
  by_cases h0 : pc < 40
  · exact List.all_eq_true.mp mm_okm_34_0 pc (by rw [List.mem_range'_1]; omega)
  by_cases h40 : pc < 80
  · exact List.all_eq_true.mp mm_okm_34_40 pc (by rw [List.mem_range'_1]; omega)
  by_cases h80 : pc < 120
  · exact List.all_eq_true.mp mm_okm_34_80 pc (by rw [List.mem_range'_1]; omega)
  by_cases h120 : pc < 160
  · exact List.all_eq_true.mp mm_okm_34_120 pc (by rw [List.mem_range'_1]; omega)
  by_cases h160 : pc < 200
  · exact List.all_eq_true.mp mm_okm_34_160 pc (by rw [List.mem_range'_1]; omega)
  omega
set_option maxRecDepth 100000 in
theorem mm_okg_35 : (List.range' 35 3).all mm_okA = true := by decide +kernel
set_option maxRecDepth 100000 in
theorem mm_okg_38 : (List.range' 38 3).all mm_okA = true := by decide +kernel
set_option maxRecDepth 100000 in
theorem mm_okg_41 : (List.range' 41 10).all mm_okA = true := by decide +kernel
set_option maxRecDepth 100000 in
theorem mm_okg_51 : (List.range' 51 7).all mm_okA = true := by decide +kernel
set_option maxRecDepth 100000 in
theorem mm_okg_58 : (List.range' 58 8).all mm_okA = true := by decide +kernel
