/-! the checks, by computation -/
set_option maxRecDepth 100000 in
theorem mm_okg_0 : (List.range' 0 7).all mm_okA = true := by decide +kernel
set_option maxRecDepth 100000 in
theorem mm_okg_7 : (List.range' 7 9).all mm_okA = true := by decide +kernel
set_option maxRecDepth 100000 in
theorem mm_okg_16 : (List.range' 16 8).all mm_okA = true := by decide +kernel
set_option maxRecDepth 100000 in
theorem mm_okg_24 : (List.range' 24 12).all mm_okA = true := by decide +kernel
set_option maxRecDepth 100000 in
theorem mm_okg_36 : (List.range' 36 5).all mm_okA = true := by decide +kernel
set_option maxRecDepth 100000 in
theorem mm_okg_41 : (List.range' 41 7).all mm_okA = true := by decide +kernel
set_option maxRecDepth 100000 in
theorem mm_okg_48 : (List.range' 48 5).all mm_okA = true := by decide +kernel
set_option maxRecDepth 100000 in
theorem mm_okg_53 : (List.range' 53 6).all mm_okA = true := by decide +kernel
set_option maxRecDepth 100000 in
theorem mm_okg_59 : (List.range' 59 3).all mm_okA = true := by decide +kernel
set_option maxRecDepth 100000 in
theorem mm_okg_62 : (List.range' 62 12).all mm_okA = true := by decide +kernel
set_option maxRecDepth 100000 in
theorem mm_okg_74 : (List.range' 74 5).all mm_okA = true := by decide +kernel
set_option maxRecDepth 100000 in
theorem mm_okg_79 : (List.range' 79 7).all mm_okA = true := by decide +kernel
set_option maxRecDepth 100000 in
theorem mm_okg_86 : (List.range' 86 1).all mm_okA = true := by decide +kernel
set_option maxRecDepth 100000 in
theorem mm_okg_87 : (List.range' 87 5).all mm_okA = true := by decide +kernel
set_option maxRecDepth 100000 in
theorem mm_okg_92 : (List.range' 92 9).all mm_okA = true := by decide +kernel
set_option maxRecDepth 100000 in
theorem mm_okg_101 : (List.range' 101 4).all mm_okA = true := by decide +kernel
set_option maxRecDepth 100000 in
theorem mm_okg_105 : (List.range' 105 6).all mm_okA = true := by decide +kernel
set_option maxRecDepth 100000 in
theorem mm_okg_111 : (List.range' 111 4).all mm_okA = true := by decide +kernel
set_option maxRecDepth 100000 in
theorem mm_okg_115 : (List.range' 115 3).all mm_okA = true := by decide +kernel
set_option maxRecDepth 100000 in
theorem mm_okg_118 : (List.range' 118 5).all mm_okA = true := by decide +kernel
set_option maxRecDepth 100000 in
theorem mm_okg_123 : (List.range' 123 4).all mm_okA = true := by decide +kernel
set_option maxRecDepth 100000 in
theorem mm_okg_127 : (List.range' 127 2).all mm_okA = true := by decide +kernel
set_option maxRecDepth 100000 in
theorem mm_okg_129 : (List.range' 129 4).all mm_okA = true := by decide +kernel
set_option maxRecDepth 100000 in
theorem mm_okg_133 : (List.range' 133 5).all mm_okA = true := by decide +kernel
set_option maxRecDepth 100000 in
theorem mm_okg_138 : (List.range' 138 6).all mm_okA = true := by decide +kernel
set_option maxRecDepth 100000 in
theorem mm_okg_144 : (List.range' 144 7).all mm_okA = true := by decide +kernel
set_option maxRecDepth 100000 in
theorem mm_okg_151 : (List.range' 151 3).all mm_okA = true := by decide +kernel
set_option maxRecDepth 100000 in
theorem mm_okg_154 : (List.range' 154 11).all mm_okA = true := by decide +kernel
set_option maxRecDepth 100000 in
theorem mm_okg_165 : (List.range' 165 9).all mm_okA = true := by decide +kernel
set_option maxRecDepth 100000 in
theorem mm_okl_0 : (List.range' 0 100).all (mm_okE 174) = true := by decide +kernel
set_option maxRecDepth 100000 in
theorem mm_okl_100 : (List.range' 100 100).all (mm_okE 174) = true := by decide +kernel
set_option maxRecDepth 100000 in
theorem mm_okl_200 : (List.range' 200 100).all (mm_okE 174) = true := by decide +kernel
set_option maxRecDepth 100000 in
theorem mm_okl_300 : (List.range' 300 100).all (mm_okE 174) = true := by decide +kernel
set_option maxRecDepth 100000 in
theorem mm_okl_400 : (List.range' 400 100).all (mm_okE 174) = true := by decide +kernel
set_option maxRecDepth 100000 in
theorem mm_okl_500 : (List.range' 500 100).all (mm_okE 174) = true := by decide +kernel
set_option maxRecDepth 100000 in
theorem mm_okl_600 : (List.range' 600 100).all (mm_okE 174) = true := by decide +kernel
set_option maxRecDepth 100000 in
theorem mm_okl_700 : (List.range' 700 100).all (mm_okE 174) = true := by decide +kernel
set_option maxRecDepth 100000 in
theorem mm_okl_800 : (List.range' 800 100).all (mm_okE 174) = true := by decide +kernel
set_option maxRecDepth 100000 in
theorem mm_okl_900 : (List.range' 900 100).all (mm_okE 174) = true := by decide +kernel
set_option maxRecDepth 100000 in
theorem mm_okl_1000 : (List.range' 1000 100).all (mm_okE 174) = true := by decide +kernel
set_option maxRecDepth 100000 in
theorem mm_okl_1100 : (List.range' 1100 100).all (mm_okE 174) = true := by decide +kernel
set_option maxRecDepth 100000 in
theorem mm_okl_1200 : (List.range' 1200 100).all (mm_okE 174) = true := by decide +kernel
set_option maxRecDepth 100000 in
theorem mm_okl_1300 : (List.range' 1300 100).all (mm_okE 174) = true := by decide +kernel
theorem mm_okLaw : ∀ pc, pc < 1390 → mm_okE 174 pc = true := by
  intro pc hpc
  by_cases h0 : pc < 100
  · exact List.all_eq_true.mp mm_okl_0 pc (by rw [List.mem_range'_1]; omega)
  by_cases h100 : pc < 200
  · exact List.all_eq_true.mp mm_okl_100 pc (by rw [List.mem_range'_1]; omega)
  by_cases h200 : pc < 300
  · exact List.all_eq_true.mp mm_okl_200 pc (by rw [List.mem_range'_1]; omega)
  by_cases h300 : pc < 400
  · exact List.all_eq_true.mp mm_okl_300 pc (by rw [List.mem_range'_1]; omega)
  by_cases h400 : pc < 500
  · exact List.all_eq_true.mp mm_okl_400 pc (by rw [List.mem_range'_1]; omega)
  by_cases h500 : pc < 600
  · exact List.all_eq_true.mp mm_okl_500 pc (by rw [List.mem_range'_1]; omega)
  by_cases h600 : pc < 700
  · exact List.all_eq_true.mp mm_okl_600 pc (by rw [List.mem_range'_1]; omega)
  by_cases h700 : pc < 800
  · exact List.all_eq_true.mp mm_okl_700 pc (by rw [List.mem_range'_1]; omega)
  by_cases h800 : pc < 900
  · exact List.all_eq_true.mp mm_okl_800 pc (by rw [List.mem_range'_1]; omega)
  by_cases h900 : pc < 1000
  · exact List.all_eq_true.mp mm_okl_900 pc (by rw [List.mem_range'_1]; omega)
  by_cases h1000 : pc < 1100
  · exact List.all_eq_true.mp mm_okl_1000 pc (by rw [List.mem_range'_1]; omega)
  by_cases h1100 : pc < 1200
  · exact List.all_eq_true.mp mm_okl_1100 pc (by rw [List.mem_range'_1]; omega)
  by_cases h1200 : pc < 1300
  · exact List.all_eq_true.mp mm_okl_1200 pc (by rw [List.mem_range'_1]; omega)
  by_cases h1300 : pc < 1400
  · exact List.all_eq_true.mp mm_okl_1300 pc (by rw [List.mem_range'_1]; omega)
  omega
theorem mm_okAll : ∀ mi, mi < 175 → ∀ pc, pc < mm_lb mi → mm_okE mi pc = true := by
  intro mi hmi pc hpc
  by_cases h0 : mi < 7
  · exact List.all_eq_true.mp (List.all_eq_true.mp mm_okg_0 mi (by rw [List.mem_range'_1]; omega)) pc (List.mem_range.mpr hpc)
  by_cases h7 : mi < 16
  · exact List.all_eq_true.mp (List.all_eq_true.mp mm_okg_7 mi (by rw [List.mem_range'_1]; omega)) pc (List.mem_range.mpr hpc)
  by_cases h16 : mi < 24
  · exact List.all_eq_true.mp (List.all_eq_true.mp mm_okg_16 mi (by rw [List.mem_range'_1]; omega)) pc (List.mem_range.mpr hpc)
  by_cases h24 : mi < 36
  · exact List.all_eq_true.mp (List.all_eq_true.mp mm_okg_24 mi (by rw [List.mem_range'_1]; omega)) pc (List.mem_range.mpr hpc)
  by_cases h36 : mi < 41
  · exact List.all_eq_true.mp (List.all_eq_true.mp mm_okg_36 mi (by rw [List.mem_range'_1]; omega)) pc (List.mem_range.mpr hpc)
  by_cases h41 : mi < 48
  · exact List.all_eq_true.mp (List.all_eq_true.mp mm_okg_41 mi (by rw [List.mem_range'_1]; omega)) pc (List.mem_range.mpr hpc)
  by_cases h48 : mi < 53
  · exact List.all_eq_true.mp (List.all_eq_true.mp mm_okg_48 mi (by rw [List.mem_range'_1]; omega)) pc (List.mem_range.mpr hpc)
  by_cases h53 : mi < 59
  · exact List.all_eq_true.mp (List.all_eq_true.mp mm_okg_53 mi (by rw [List.mem_range'_1]; omega)) pc (List.mem_range.mpr hpc)
  by_cases h59 : mi < 62
  · exact List.all_eq_true.mp (List.all_eq_true.mp mm_okg_59 mi (by rw [List.mem_range'_1]; omega)) pc (List.mem_range.mpr hpc)
  by_cases h62 : mi < 74
  · exact List.all_eq_true.mp (List.all_eq_true.mp mm_okg_62 mi (by rw [List.mem_range'_1]; omega)) pc (List.mem_range.mpr hpc)
  by_cases h74 : mi < 79
  · exact List.all_eq_true.mp (List.all_eq_true.mp mm_okg_74 mi (by rw [List.mem_range'_1]; omega)) pc (List.mem_range.mpr hpc)
  by_cases h79 : mi < 86
  · exact List.all_eq_true.mp (List.all_eq_true.mp mm_okg_79 mi (by rw [List.mem_range'_1]; omega)) pc (List.mem_range.mpr hpc)
  by_cases h86 : mi < 87
  · exact List.all_eq_true.mp (List.all_eq_true.mp mm_okg_86 mi (by rw [List.mem_range'_1]; omega)) pc (List.mem_range.mpr hpc)
  by_cases h87 : mi < 92
  · exact List.all_eq_true.mp (List.all_eq_true.mp mm_okg_87 mi (by rw [List.mem_range'_1]; omega)) pc (List.mem_range.mpr hpc)
  by_cases h92 : mi < 101
  · exact List.all_eq_true.mp (List.all_eq_true.mp mm_okg_92 mi (by rw [List.mem_range'_1]; omega)) pc (List.mem_range.mpr hpc)
  by_cases h101 : mi < 105
  · exact List.all_eq_true.mp (List.all_eq_true.mp mm_okg_101 mi (by rw [List.mem_range'_1]; omega)) pc (List.mem_range.mpr hpc)
  by_cases h105 : mi < 111
  · exact List.all_eq_true.mp (List.all_eq_true.mp mm_okg_105 mi (by rw [List.mem_range'_1]; omega)) pc (List.mem_range.mpr hpc)
  by_cases h111 : mi < 115
  · exact List.all_eq_true.mp (List.all_eq_true.mp mm_okg_111 mi (by rw [List.mem_range'_1]; omega)) pc (List.mem_range.mpr hpc)
  by_cases h115 : mi < 118
  · exact List.all_eq_true.mp (List.all_eq_true.mp mm_okg_115 mi (by rw [List.mem_range'_1]; omega)) pc (List.mem_range.mpr hpc)
  by_cases h118 : mi < 123
  · exact List.all_eq_true.mp (List.all_eq_true.mp mm_okg_118 mi (by rw [List.mem_range'_1]; omega)) pc (List.mem_range.mpr hpc)
  by_cases h123 : mi < 127
  · exact List.all_eq_true.mp (List.all_eq_true.mp mm_okg_123 mi (by rw [List.mem_range'_1]; omega)) pc (List.mem_range.mpr hpc)
  by_cases h127 : mi < 129
  · exact List.all_eq_true.mp (List.all_eq_true.mp mm_okg_127 mi (by rw [List.mem_range'_1]; omega)) pc (List.mem_range.mpr hpc)
  by_cases h129 : mi < 133
  · exact List.all_eq_true.mp (List.all_eq_true.mp mm_okg_129 mi (by rw [List.mem_range'_1]; omega)) pc (List.mem_range.mpr hpc)
  by_cases h133 : mi < 138
  · exact List.all_eq_true.mp (List.all_eq_true.mp mm_okg_133 mi (by rw [List.mem_range'_1]; omega)) pc (List.mem_range.mpr hpc)
  by_cases h138 : mi < 144
  · exact List.all_eq_true.mp (List.all_eq_true.mp mm_okg_138 mi (by rw [List.mem_range'_1]; omega)) pc (List.mem_range.mpr hpc)
  by_cases h144 : mi < 151
  · exact List.all_eq_true.mp (List.all_eq_true.mp mm_okg_144 mi (by rw [List.mem_range'_1]; omega)) pc (List.mem_range.mpr hpc)
  by_cases h151 : mi < 154
  · exact List.all_eq_true.mp (List.all_eq_true.mp mm_okg_151 mi (by rw [List.mem_range'_1]; omega)) pc (List.mem_range.mpr hpc)
  by_cases h154 : mi < 165
  · exact List.all_eq_true.mp (List.all_eq_true.mp mm_okg_154 mi (by rw [List.mem_range'_1]; omega)) pc (List.mem_range.mpr hpc)
  by_cases h165 : mi < 174
  · exact List.all_eq_true.mp (List.all_eq_true.mp mm_okg_165 mi (by rw [List.mem_range'_1]; omega)) pc (List.mem_range.mpr hpc)
  have h9 : mi = 174 := by omega
  subst h9
  exact mm_okLaw pc hpc
theorem mm_ok {mi pc : Nat} {e : mm_En} (h : mm_code mi pc = some e) : mi < 175 ∧ mm_ok1 mi pc e = true ∧ mm_ok2 mi pc e = true := by
  have h0 := h
  unfold mm_code at h
  by_cases h1 : 175 ≤ mi
  · rw [show Nat.ble 175 mi = true from Nat.ble_eq_true_of_le h1] at h
    cases h
  · have hm : mi < 175 := by omega
    by_cases h2 : mm_lb mi ≤ pc
    · rw [show Nat.ble (mm_lb mi) pc = true from Nat.ble_eq_true_of_le h2] at h
      cases hb : Nat.ble 175 mi <;> rw [hb] at h <;> cases h
    · have h3 := mm_okAll mi hm pc (by omega)
      unfold mm_okE at h3
      rw [h0] at h3
      simp only [Bool.and_eq_true] at h3
      exact ⟨hm, h3⟩
