theorem mm_ok {mi pc : Nat} {e : mm_En} (h : mm_code mi pc = some e) : mi < 175 ∧ mm_ok1 mi pc e = true ∧ mm_ok2 mi pc e = true := sorry
