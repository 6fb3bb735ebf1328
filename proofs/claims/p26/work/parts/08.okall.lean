/-! the checks, by computation -/
set_option maxRecDepth 100000 in
theorem mm_okg_0 : (List.range' 0 10).all mm_okA = true := by decide +kernel
set_option maxRecDepth 100000 in
theorem mm_okg_10 : (List.range' 10 11).all mm_okA = true := by decide +kernel
set_option maxRecDepth 100000 in
theorem mm_okg_21 : (List.range' 21 6).all mm_okA = true := by decide +kernel
set_option maxRecDepth 100000 in
theorem mm_okg_27 : (List.range' 27 4).all mm_okA = true := by decide +kernel
set_option maxRecDepth 100000 in
theorem mm_okg_31 : (List.range' 31 3).all mm_okA = true := by decide +kernel
set_option maxRecDepth 100000 in
theorem mm_okg_34 : (List.range' 34 3).all mm_okA = true := by decide +kernel
set_option maxRecDepth 100000 in
theorem mm_okg_37 : (List.range' 37 5).all mm_okA = true := by decide +kernel
set_option maxRecDepth 100000 in
theorem mm_okg_42 : (List.range' 42 14).all mm_okA = true := by decide +kernel
set_option maxRecDepth 100000 in
theorem mm_okg_56 : (List.range' 56 9).all mm_okA = true := by decide +kernel
set_option maxRecDepth 100000 in
theorem mm_okg_65 : (List.range' 65 9).all mm_okA = true := by decide +kernel
set_option maxRecDepth 100000 in
theorem mm_okm_74_0 : (List.range' 0 100).all (mm_okE 74) = true := by decide +kernel
set_option maxRecDepth 100000 in
theorem mm_okm_74_100 : (List.range' 100 100).all (mm_okE 74) = true := by decide +kernel
set_option maxRecDepth 100000 in
theorem mm_okm_74_200 : (List.range' 200 100).all (mm_okE 74) = true := by decide +kernel
set_option maxRecDepth 100000 in
theorem mm_okm_74_300 : (List.range' 300 100).all (mm_okE 74) = true := by decide +kernel
set_option maxRecDepth 100000 in
theorem mm_okm_74_400 : (List.range' 400 100).all (mm_okE 74) = true := by decide +kernel
set_option maxRecDepth 100000 in
theorem mm_okm_74_500 : (List.range' 500 100).all (mm_okE 74) = true := by decide +kernel
set_option maxRecDepth 100000 in
theorem mm_okm_74_600 : (List.range' 600 100).all (mm_okE 74) = true := by decide +kernel
theorem mm_okM_74 : ∀ pc, pc < 620 → mm_okE 74 pc = true := by
  intro pc hpc
  by_cases h0 : pc < 100
  · exact List.all_eq_true.mp mm_okm_74_0 pc (by rw [List.mem_range'_1]; omega)
  by_cases h100 : pc < 200
  · exact List.all_eq_true.mp mm_okm_74_100 pc (by rw [List.mem_range'_1]; omega)
  by_cases h200 : pc < 300
  · exact List.all_eq_true.mp mm_okm_74_200 pc (by rw [List.mem_range'_1]; omega)
  by_cases h300 : pc < 400
  · exact List.all_eq_true.mp mm_okm_74_300 pc (by rw [List.mem_range'_1]; omega)
  by_cases h400 : pc < 500
  · exact List.all_eq_true.mp mm_okm_74_400 pc (by rw [List.mem_range'_1]; omega)
  by_cases h500 : pc < 600
  · exact List.all_eq_true.mp mm_okm_74_500 pc (by rw [List.mem_range'_1]; omega)
  by_cases h600 : pc < 700
  · exact List.all_eq_true.mp mm_okm_74_600 pc (by rw [List.mem_range'_1]; omega)
  omega
set_option maxRecDepth 100000 in
theorem mm_okg_75 : (List.range' 75 1).all mm_okA = true := by decide +kernel
set_option maxRecDepth 100000 in
theorem mm_okg_76 : (List.range' 76 1).all mm_okA = true := by decide +kernel
set_option maxRecDepth 100000 in
theorem mm_okm_77_0 : (List.range' 0 100).all (mm_okE 77) = true := by decide +kernel
set_option maxRecDepth 100000 in
theorem mm_okm_77_100 : (List.range' 100 100).all (mm_okE 77) = true := by decide +kernel
set_option maxRecDepth 100000 in
theorem mm_okm_77_200 : (List.range' 200 100).all (mm_okE 77) = true := by decide +kernel
theorem mm_okM_77 : ∀ pc, pc < 283 → mm_okE 77 pc = true := by
  intro pc hpc
  by_cases h0 : pc < 100
  · exact List.all_eq_true.mp mm_okm_77_0 pc (by rw [List.mem_range'_1]; omega)
  by_cases h100 : pc < 200
  · exact List.all_eq_true.mp mm_okm_77_100 pc (by rw [List.mem_range'_1]; omega)
  by_cases h200 : pc < 300
  · exact List.all_eq_true.mp mm_okm_77_200 pc (by rw [List.mem_range'_1]; omega)
  omega
theorem mm_okAll : ∀ mi, mi < 78 → ∀ pc, pc < mm_lb mi → mm_okE mi pc = true := by
  intro mi hmi pc hpc
  by_cases h0 : mi < 10
  · exact List.all_eq_true.mp (List.all_eq_true.mp mm_okg_0 mi (by rw [List.mem_range'_1]; omega)) pc (List.mem_range.mpr hpc)
  by_cases h10 : mi < 21
  · exact List.all_eq_true.mp (List.all_eq_true.mp mm_okg_10 mi (by rw [List.mem_range'_1]; omega)) pc (List.mem_range.mpr hpc)
  by_cases h21 : mi < 27
  · exact List.all_eq_true.mp (List.all_eq_true.mp mm_okg_21 mi (by rw [List.mem_range'_1]; omega)) pc (List.mem_range.mpr hpc)
  by_cases h27 : mi < 31
  · exact List.all_eq_true.mp (List.all_eq_true.mp mm_okg_27 mi (by rw [List.mem_range'_1]; omega)) pc (List.mem_range.mpr hpc)
  by_cases h31 : mi < 34
  · exact List.all_eq_true.mp (List.all_eq_true.mp mm_okg_31 mi (by rw [List.mem_range'_1]; omega)) pc (List.mem_range.mpr hpc)
  by_cases h34 : mi < 37
  · exact List.all_eq_true.mp (List.all_eq_true.mp mm_okg_34 mi (by rw [List.mem_range'_1]; omega)) pc (List.mem_range.mpr hpc)
  by_cases h37 : mi < 42
  · exact List.all_eq_true.mp (List.all_eq_true.mp mm_okg_37 mi (by rw [List.mem_range'_1]; omega)) pc (List.mem_range.mpr hpc)
  by_cases h42 : mi < 56
  · exact List.all_eq_true.mp (List.all_eq_true.mp mm_okg_42 mi (by rw [List.mem_range'_1]; omega)) pc (List.mem_range.mpr hpc)
  by_cases h56 : mi < 65
  · exact List.all_eq_true.mp (List.all_eq_true.mp mm_okg_56 mi (by rw [List.mem_range'_1]; omega)) pc (List.mem_range.mpr hpc)
  by_cases h65 : mi < 74
  · exact List.all_eq_true.mp (List.all_eq_true.mp mm_okg_65 mi (by rw [List.mem_range'_1]; omega)) pc (List.mem_range.mpr hpc)
  by_cases h74 : mi < 75
  · have h9 : mi = 74 := by omega
    subst h9
    exact mm_okM_74 pc hpc
  by_cases h75 : mi < 76
  · exact List.all_eq_true.mp (List.all_eq_true.mp mm_okg_75 mi (by rw [List.mem_range'_1]; omega)) pc (List.mem_range.mpr hpc)
  by_cases h76 : mi < 77
  · exact List.all_eq_true.mp (List.all_eq_true.mp mm_okg_76 mi (by rw [List.mem_range'_1]; omega)) pc (List.mem_range.mpr hpc)
  have h9 : mi = 77 := by omega
  subst h9
  exact mm_okM_77 pc hpc
theorem mm_ok {mi pc : Nat} {e : mm_En} (h : mm_code mi pc = some e) : mi < 78 ∧ mm_ok1 mi pc e = true ∧ mm_ok2 mi pc e = true := by
  have h0 := h
  unfold mm_code at h
  by_cases h1 : 78 ≤ mi
  · rw [show Nat.ble 78 mi = true from Nat.ble_eq_true_of_le h1] at h
    cases h
  · have hm : mi < 78 := by omega
    by_cases h2 : mm_lb mi ≤ pc
    · rw [show Nat.ble (mm_lb mi) pc = true from Nat.ble_eq_true_of_le h2] at h
      cases hb : Nat.ble 78 mi <;> rw [hb] at h <;> cases h
    · have h3 := mm_okAll mi hm pc (by omega)
      unfold mm_okE at h3
      rw [h0] at h3
      simp only [Bool.and_eq_true] at h3
      exact ⟨hm, h3⟩
