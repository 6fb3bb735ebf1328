/-- the heap before the law: nothing made, the script at hand -/
def mm_h0 (L : Nat) (xs : Nat → Int32) : mm_Hp := ((0, 0, 0), fun _ => (0, 0), fun _ _ => 0, fun _ _ => 0, fun _ _ => 0, L, xs)
theorem mm_law (L : Nat) (xs : Nat → Int32) (hL : L ≤ 2048) : ∃ h1 : mm_Hp, mm_Ru 174 0 (mm_ent 9 [.ref 1001]) [] (mm_h0 L xs) ((0, some (.int 1)), h1) ∧ mm_c h1 ≤ 601024 ∧ mm_s h1 ≤ 7293034 := sorry
