/-! the reference's own way to the table -/
theorem sp_b15_sh {b : Int32} {d k : Nat} (hd : d < 10) (hk : k < 3) : sp_b15 (sp_sh b d (nI k)) := by
  rw [sp_sh_n hk]
  exact sp_b15_and (sp_b15_S _ (by omega)) _
theorem sp_ci_none {r : Nat → Int32} {b : Int32} {d : Nat} {a : Int32} (h : r d = -1) (n : Nat) : sp_ci r b d a n = a := by
  induction n with
  | zero => rfl
  | succ n ih =>
    show sp_cs r b d n (sp_ci r b d a n) = a
    unfold sp_cs
    rw [sp_if_t (Or.inl h), ih]
section SM
variable {g : mm_Gg} {I : mm_Is} {x y z b s L b' s' : Int32} {l d k t u p : Nat}
end SM
