/-! the bits of a share, both ways -/
def sp_s (m : Nat) : Nat → UInt64
  | 0 => sp_cl m
  | i + 1 => FP.dmul (sp_s m i) 4611686018427387904
def sp_k (m : Nat) : Nat := bif Nat.ble 40 m then 0 else bif Nat.ble 20 m then 1 else bif Nat.ble 10 m then 2 else bif Nat.ble 5 m then 3 else bif Nat.ble 3 m then 4 else bif Nat.ble 2 m then 5 else 6
theorem sp_k_lt (m : Nat) : sp_k m < 7 := by
  unfold sp_k
  cases Nat.ble 40 m <;> cases Nat.ble 20 m <;> cases Nat.ble 10 m <;> cases Nat.ble 5 m <;> cases Nat.ble 3 m <;> cases Nat.ble 2 m <;> decide
theorem sp_bA : ∀ m, m < 41 → ∀ i, i < sp_k m → vf_n64 (sp_s m (i + 1)) ∧ ¬ 0 ≤ Op.cmpValue (FP.dcmp (sp_s m i) 4607182418800017408) .g := by unfold vf_n64; decide +kernel
theorem sp_bB : ∀ m, m < 41 → 0 < m → 0 ≤ Op.cmpValue (FP.dcmp (sp_s m (sp_k m)) 4607182418800017408) .g := by decide +kernel
theorem sp_bC : ∀ m, m < 41 → vf_n64 (FP.dsub (sp_s m (sp_k m)) 4607182418800017408) ∧ vf_n64 (FP.dmul (FP.dsub (sp_s m (sp_k m)) 4607182418800017408) 4841369599423283200) := by unfold vf_n64; decide +kernel
theorem sp_bD : ∀ m, m < 41 → 0 < m → ((nI (1023 - sp_k m)).toInt64 <<< ((52 : Int32).toInt64 &&& 63)) + FP.d2l (FP.dmul (FP.dsub (sp_s m (sp_k m)) 4607182418800017408) 4841369599423283200) = (sp_cl m).toInt64 := by decide +kernel
theorem sp_bE : ∀ m, m < 41 → 0 < m → 0 < Op.cmpValue (FP.dcmp (sp_cl m) 0) .g := by decide +kernel
theorem sp_bF : ¬ 0 < Op.cmpValue (FP.dcmp (sp_cl 0) 0) .g ∧ (0 : Int64) = (sp_cl 0).toInt64 := by decide +kernel
section SM
variable {g : mm_Gg} {I I1 : mm_Is} {m : Nat}
theorem c_bits (hm : m < 41) : mm_M 62 7 [.double (sp_cl m)] g I (some (.long (sp_cl m).toInt64)) I := by
  refine w_M ?_
  show mm_W 62 0 [.double (sp_cl m), .null, .null, .null, .null, .null, .null] [] _ _ _
  generalize hF : mm_EX _ _ _ = F
  refine w_st rfl rfl rfl trivial ?_
  refine w_st rfl rfl rfl trivial ?_
  refine w_st rfl rfl rfl trivial ?_
  rcases Nat.eq_zero_or_pos m with rfl | h0
  · skip
    refine w_z_gt rfl (fun z => by first | exact absurd z (sp_bF.1) | exact absurd (sp_bF.1) z) (fun _ => ?_)
    refine w_st rfl rfl rfl trivial ?_
    refine w_retl rfl ?_
    exact hF ▸ ⟨by rw [sp_bF.2], rfl, rfl⟩
  · skip
    refine w_z_gt rfl (fun _ => ?_) (fun z => by first | exact absurd (sp_bE m hm h0) z | exact absurd z (sp_bE m hm h0))
    refine w_st rfl rfl rfl trivial ?_
    refine w_st rfl rfl rfl (Nat.le_of_ble_eq_true rfl) ?_
    refine w_st rfl rfl rfl trivial ?_
    refine w_st rfl rfl rfl (Nat.le_of_ble_eq_true rfl) ?_
    refine w_st rfl rfl rfl trivial ?_
    refine w_st rfl rfl rfl (Nat.le_of_ble_eq_true rfl) ?_
    have hk := sp_k_lt m
    have K : ∀ i, i ≤ sp_k m → mm_W 62 18 [.double (sp_cl m), .null, .double (sp_s m i), .null, .int (nI (1023 - i)), .int (nI i), .null] [] g I F := by
      refine mm_dn (sp_k m) ?_ ?_
      · have hv1 := (sp_bC m hm).1
        have hv2 := (sp_bC m hm).2
        refine w_st rfl rfl rfl trivial ?_
        refine w_st rfl rfl rfl trivial ?_
        refine w_n_ge (a := sp_k m) (b := 1023) rfl (by first | decide | omega) (by first | decide | omega) (by first | rfl | assumption | (simp only [← nI_add, ← nI_mul]; rfl)) (by first | rfl | assumption | (simp only [← nI_add, ← nI_mul]; rfl)) (fun c => by exfalso; omega) (fun _ => ?_)
        refine w_st rfl rfl rfl trivial ?_
        refine w_st rfl rfl rfl trivial ?_
        refine w_st rfl rfl rfl trivial ?_
        refine w_z_ge rfl (fun _ => ?_) (fun z => by first | exact absurd (sp_bB m hm h0) z | exact absurd z (sp_bB m hm h0))
        refine w_st rfl rfl rfl trivial ?_
        refine w_st rfl rfl rfl trivial ?_
        refine w_st rfl rfl rfl (by assumption) ?_
        refine w_st rfl rfl rfl trivial ?_
        refine w_st rfl rfl rfl (by assumption) ?_
        refine w_st rfl rfl rfl trivial ?_
        refine w_st rfl rfl rfl (Nat.le_of_ble_eq_true rfl) ?_
        refine w_st rfl rfl rfl trivial ?_
        refine w_st rfl rfl rfl trivial ?_
        refine w_st rfl rfl rfl trivial ?_
        refine w_st rfl rfl rfl trivial ?_
        refine w_st rfl rfl rfl trivial ?_
        refine w_ladd rfl ?_
        refine w_retl rfl ?_
        exact hF ▸ ⟨by rw [← sp_bD m hm h0], rfl, rfl⟩
      · intro i hi ih
        obtain ⟨hv, hlt⟩ := sp_bA m hm i hi
        have hv : vf_n64 (FP.dmul (sp_s m i) 4611686018427387904) := hv
        have e1 : 1023 - i = (1022 - i) + 1 := by omega
        have e2 : 1023 - (i + 1) = 1022 - i := by omega
        rw [e2] at ih
        rw [e1]
        refine w_st rfl rfl rfl trivial ?_
        refine w_st rfl rfl rfl trivial ?_
        refine w_n_ge (a := i) (b := 1023) rfl (by first | decide | omega) (by first | decide | omega) (by first | rfl | assumption | (simp only [← nI_add, ← nI_mul]; rfl)) (by first | rfl | assumption | (simp only [← nI_add, ← nI_mul]; rfl)) (fun c => by exfalso; omega) (fun _ => ?_)
        refine w_st rfl rfl rfl trivial ?_
        refine w_st rfl rfl rfl trivial ?_
        refine w_st rfl rfl rfl trivial ?_
        refine w_z_ge rfl (fun z => by first | exact absurd z (hlt) | exact absurd (hlt) z) (fun _ => ?_)
        refine w_st rfl rfl rfl trivial ?_
        refine w_st rfl rfl rfl trivial ?_
        refine w_st rfl rfl rfl (by assumption) ?_
        refine w_st rfl rfl rfl (Nat.le_of_ble_eq_true rfl) ?_
        refine w_inc rfl rfl rfl (Nat.le_of_ble_eq_true rfl) (nI_dec _) ?_
        refine w_inc rfl rfl rfl (Nat.le_of_ble_eq_true rfl) (nI_1 _) ?_
        refine w_st rfl rfl rfl trivial ?_
        exact ih
    exact K 0 (Nat.zero_le _)
end SM
