/-! the checks, by computation (d) -/
set_option maxRecDepth 100000 in
theorem mm_okm_75_0 : (List.range' 0 40).all (mm_okE 75) = true := by decide +kernel
set_option maxRecDepth 100000 in
theorem mm_okm_75_40 : (List.range' 40 40).all (mm_okE 75) = true := by decide +kernel
set_option maxRecDepth 100000 in
theorem mm_okm_75_80 : (List.range' 80 40).all (mm_okE 75) = true := by decide +kernel
set_option maxRecDepth 100000 in
theorem mm_okm_75_120 : (List.range' 120 40).all (mm_okE 75) = true := by decide +kernel
set_option maxRecDepth 100000 in
theorem mm_okm_75_160 : (List.range' 160 40).all (mm_okE 75) = true := by decide +kernel
set_option maxRecDepth 100000 in
theorem mm_okm_75_200 : (List.range' 200 40).all (mm_okE 75) = true := by decide +kernel
set_option maxRecDepth 100000 in
theorem mm_okm_75_240 : (List.range' 240 40).all (mm_okE 75) = true := by decide +kernel
theorem mm_okM_75 : ∀ pc, pc < 268 → mm_okE 75 pc = true := by
  intro pc hpc
  by_cases h0 : pc < 40
  · exact List.all_eq_true.mp mm_okm_75_0 pc (by rw [List.mem_range'_1]; omega)
  by_cases h40 : pc < 80
  · exact List.all_eq_true.mp mm_okm_75_40 pc (by rw [List.mem_range'_1]; omega)
  by_cases h80 : pc < 120
  · exact List.all_eq_true.mp mm_okm_75_80 pc (by rw [List.mem_range'_1]; omega)
  by_cases h120 : pc < 160
  · exact List.all_eq_true.mp mm_okm_75_120 pc (by rw [List.mem_range'_1]; omega)
  by_cases h160 : pc < 200
  · exact List.all_eq_true.mp mm_okm_75_160 pc (by rw [List.mem_range'_1]; omega)
  by_cases h200 : pc < 240
  · exact List.all_eq_true.mp mm_okm_75_200 pc (by rw [List.mem_range'_1]; omega)
  by_cases h240 : pc < 280
  · exact List.all_eq_true.mp mm_okm_75_240 pc (by rw [List.mem_range'_1]; omega)
  omega
set_option maxRecDepth 100000 in
theorem mm_okm_76_0 : (List.range' 0 40).all (mm_okE 76) = true := by decide +kernel
set_option maxRecDepth 100000 in
theorem mm_okm_76_40 : (List.range' 40 40).all (mm_okE 76) = true := by decide +kernel
set_option maxRecDepth 100000 in
theorem mm_okm_76_80 : (List.range' 80 40).all (mm_okE 76) = true := by decide +kernel
set_option maxRecDepth 100000 in
theorem mm_okm_76_120 : (List.range' 120 40).all (mm_okE 76) = true := by decide +kernel
set_option maxRecDepth 100000 in
theorem mm_okm_76_160 : (List.range' 160 40).all (mm_okE 76) = true := by decide +kernel
set_option maxRecDepth 100000 in
theorem mm_okm_76_200 : (List.range' 200 40).all (mm_okE 76) = true := by decide +kernel
set_option maxRecDepth 100000 in
theorem mm_okm_76_240 : (List.range' 240 40).all (mm_okE 76) = true := by decide +kernel
theorem mm_okM_76 : ∀ pc, pc < 242 → mm_okE 76 pc = true := by
  intro pc hpc
  by_cases h0 : pc < 40
  · exact List.all_eq_true.mp mm_okm_76_0 pc (by rw [List.mem_range'_1]; omega)
  by_cases h40 : pc < 80
  · exact List.all_eq_true.mp mm_okm_76_40 pc (by rw [List.mem_range'_1]; omega)
  by_cases h80 : pc < 120
  · exact List.all_eq_true.mp mm_okm_76_80 pc (by rw [List.mem_range'_1]; omega)
  by_cases h120 : pc < 160
  · exact List.all_eq_true.mp mm_okm_76_120 pc (by rw [List.mem_range'_1]; omega)
  by_cases h160 : pc < 200
  · exact List.all_eq_true.mp mm_okm_76_160 pc (by rw [List.mem_range'_1]; omega)
  by_cases h200 : pc < 240
  · exact List.all_eq_true.mp mm_okm_76_200 pc (by rw [List.mem_range'_1]; omega)
  by_cases h240 : pc < 280
  · exact List.all_eq_true.mp mm_okm_76_240 pc (by rw [List.mem_range'_1]; omega)
  omega
set_option maxRecDepth 100000 in
theorem mm_okm_77_0 : (List.range' 0 40).all (mm_okE 77) = true := by decide +kernel
set_option maxRecDepth 100000 in
theorem mm_okm_77_40 : (List.range' 40 40).all (mm_okE 77) = true := by decide +kernel
set_option maxRecDepth 100000 in
theorem mm_okm_77_80 : (List.range' 80 40).all (mm_okE 77) = true := by decide +kernel
set_option maxRecDepth 100000 in
theorem mm_okm_77_120 : (List.range' 120 40).all (mm_okE 77) = true := by decide +kernel
set_option maxRecDepth 100000 in
theorem mm_okm_77_160 : (List.range' 160 40).all (mm_okE 77) = true := by decide +kernel
set_option maxRecDepth 100000 in
theorem mm_okm_77_200 : (List.range' 200 40).all (mm_okE 77) = true := by decide +kernel
set_option maxRecDepth 100000 in
theorem mm_okm_77_240 : (List.range' 240 40).all (mm_okE 77) = true := by decide +kernel
set_option maxRecDepth 100000 in
theorem mm_okm_77_280 : (List.range' 280 40).all (mm_okE 77) = true := by decide +kernel
theorem mm_okM_77 : ∀ pc, pc < 283 → mm_okE 77 pc = true := by
  intro pc hpc
  by_cases h0 : pc < 40
  · exact List.all_eq_true.mp mm_okm_77_0 pc (by rw [List.mem_range'_1]; omega)
  by_cases h40 : pc < 80
  · exact List.all_eq_true.mp mm_okm_77_40 pc (by rw [List.mem_range'_1]; omega)
  by_cases h80 : pc < 120
  · exact List.all_eq_true.mp mm_okm_77_80 pc (by rw [List.mem_range'_1]; omega)
  by_cases h120 : pc < 160
  · exact List.all_eq_true.mp mm_okm_77_120 pc (by rw [List.mem_range'_1]; omega)
  by_cases h160 : pc < 200
  · exact List.all_eq_true.mp mm_okm_77_160 pc (by rw [List.mem_range'_1]; omega)
  by_cases h200 : pc < 240
  · exact List.all_eq_true.mp mm_okm_77_200 pc (by rw [List.mem_range'_1]; omega)
  by_cases h240 : pc < 280
  · exact List.all_eq_true.mp mm_okm_77_240 pc (by rw [List.mem_range'_1]; omega)
  by_cases h280 : pc < 320
  · exact List.all_eq_true.mp mm_okm_77_280 pc (by rw [List.mem_range'_1]; omega)
  omega
theorem mm_okAll : ∀ mi, mi < 78 → ∀ pc, pc < mm_lb mi → mm_okE mi pc = true := by
  intro mi hmi pc hpc
  by_cases h0 : mi < 6
  · exact List.all_eq_true.mp (List.all_eq_true.mp mm_okg_0 mi (by rw [List.mem_range'_1]; omega)) pc (List.mem_range.mpr hpc)
  by_cases h6 : mi < 12
  · exact List.all_eq_true.mp (List.all_eq_true.mp mm_okg_6 mi (by rw [List.mem_range'_1]; omega)) pc (List.mem_range.mpr hpc)
  by_cases h12 : mi < 22
  · exact List.all_eq_true.mp (List.all_eq_true.mp mm_okg_12 mi (by rw [List.mem_range'_1]; omega)) pc (List.mem_range.mpr hpc)
  by_cases h22 : mi < 27
  · exact List.all_eq_true.mp (List.all_eq_true.mp mm_okg_22 mi (by rw [List.mem_range'_1]; omega)) pc (List.mem_range.mpr hpc)
  by_cases h27 : mi < 30
  · exact List.all_eq_true.mp (List.all_eq_true.mp mm_okg_27 mi (by rw [List.mem_range'_1]; omega)) pc (List.mem_range.mpr hpc)
  by_cases h30 : mi < 31
  · exact List.all_eq_true.mp (List.all_eq_true.mp mm_okg_30 mi (by rw [List.mem_range'_1]; omega)) pc (List.mem_range.mpr hpc)
  by_cases h31 : mi < 32
  · have h9 : mi = 31 := by omega
    subst h9
    exact mm_okM_31 pc hpc
  by_cases h32 : mi < 34
  · exact List.all_eq_true.mp (List.all_eq_true.mp mm_okg_32 mi (by rw [List.mem_range'_1]; omega)) pc (List.mem_range.mpr hpc)
  by_cases h34 : mi < 35
  · have h9 : mi = 34 := by omega
    subst h9
    exact mm_okM_34 pc hpc
  by_cases h35 : mi < 38
  · exact List.all_eq_true.mp (List.all_eq_true.mp mm_okg_35 mi (by rw [List.mem_range'_1]; omega)) pc (List.mem_range.mpr hpc)
  by_cases h38 : mi < 41
  · exact List.all_eq_true.mp (List.all_eq_true.mp mm_okg_38 mi (by rw [List.mem_range'_1]; omega)) pc (List.mem_range.mpr hpc)
  by_cases h41 : mi < 51
  · exact List.all_eq_true.mp (List.all_eq_true.mp mm_okg_41 mi (by rw [List.mem_range'_1]; omega)) pc (List.mem_range.mpr hpc)
  by_cases h51 : mi < 58
  · exact List.all_eq_true.mp (List.all_eq_true.mp mm_okg_51 mi (by rw [List.mem_range'_1]; omega)) pc (List.mem_range.mpr hpc)
  by_cases h58 : mi < 66
  · exact List.all_eq_true.mp (List.all_eq_true.mp mm_okg_58 mi (by rw [List.mem_range'_1]; omega)) pc (List.mem_range.mpr hpc)
  by_cases h66 : mi < 74
  · exact List.all_eq_true.mp (List.all_eq_true.mp mm_okg_66 mi (by rw [List.mem_range'_1]; omega)) pc (List.mem_range.mpr hpc)
  by_cases h74 : mi < 75
  · have h9 : mi = 74 := by omega
    subst h9
    exact mm_okM_74 pc hpc
  by_cases h75 : mi < 76
  · have h9 : mi = 75 := by omega
    subst h9
    exact mm_okM_75 pc hpc
  by_cases h76 : mi < 77
  · have h9 : mi = 76 := by omega
    subst h9
    exact mm_okM_76 pc hpc
  by_cases h77 : mi < 78
  · have h9 : mi = 77 := by omega
    subst h9
    exact mm_okM_77 pc hpc
  omega
theorem mm_ok {mi pc : Nat} {e : mm_En} (h : mm_code mi pc = some e) : mi < 78 ∧ mm_ok1 mi pc e = true ∧ mm_ok2 mi pc e = true := by
  have h0 := h
  unfold mm_code at h
  by_cases h1 : 78 ≤ mi
  · rw [show Nat.ble 78 mi = true from Nat.ble_eq_true_of_le h1] at h
    cases h
  · have hm : mi < 78 := by omega
    by_cases h2 : mm_lb mi ≤ pc
    · rw [show Nat.ble (mm_lb mi) pc = true from Nat.ble_eq_true_of_le h2] at h
      cases hb : Nat.ble 78 mi <;> rw [hb] at h <;> cases h
    · have h3 := mm_okAll mi hm pc (by omega)
      unfold mm_okE at h3
      rw [h0] at h3
      simp only [Bool.and_eq_true] at h3
      exact ⟨hm, h3⟩
