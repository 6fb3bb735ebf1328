/-! the checks, by computation (a) -/
set_option maxRecDepth 100000 in
theorem mm_okg_0 : (List.range' 0 6).all mm_okA = true := by decide +kernel
set_option maxRecDepth 100000 in
theorem mm_okg_6 : (List.range' 6 6).all mm_okA = true := by decide +kernel
set_option maxRecDepth 100000 in
theorem mm_okg_12 : (List.range' 12 10).all mm_okA = true := by decide +kernel
set_option maxRecDepth 100000 in
theorem mm_okg_22 : (List.range' 22 5).all mm_okA = true := by decide +kernel
set_option maxRecDepth 100000 in
theorem mm_okg_27 : (List.range' 27 3).all mm_okA = true := by decide +kernel
