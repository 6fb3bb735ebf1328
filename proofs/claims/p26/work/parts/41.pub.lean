/-! the reference's public looks -/
theorem sp_lt8 (n : Nat) (hn : n + 1 < 2 ^ 31) {x y : Int32} (hy : y = nI n) : (0 ≤ x ∧ x ≤ y) ↔ sp_lt (n + 1) x := ⟨fun h => sp_le_i hn hy h.1 h.2, fun h => sp_le_n hn hy h⟩
noncomputable def sp_nt (σ : sp_St) : Nat → Nat
  | 0 => 0
  | n + 1 => sp_nt σ n + sp_no (sp_R σ n) 10
theorem sp_nt_le (σ : sp_St) (n : Nat) : sp_nt σ n + sp_ct σ n = 10 * n := by
  induction n with
  | zero => rfl
  | succ n ih =>
    show sp_nt σ n + sp_no (sp_R σ n) 10 + (sp_ct σ n + (10 - sp_no (sp_R σ n) 10)) = _
    have := sp_no_le (sp_R σ n) 10
    omega
def sp_cl (m : Nat) : UInt64 := FP.ddiv (FP.i2d (nI m)) 4630826316843712512
theorem sp_cl_n : ∀ m, m < 41 → vf_n64 (sp_cl m) := by unfold vf_n64; decide +kernel
section SM
variable {g : mm_Gg} {I : mm_Is} {x y z : Int32} {l d k t u f w n : Nat} {σ : sp_St}
theorem c_clarity (h : sp_D I σ) : mm_M 43 3 [.ref 0] g I (some (.double (sp_cl (sp_ct σ 4)))) I := by
  refine w_M ?_
  show mm_W 43 0 [.ref 0, .null, .null] [] _ _ _
  generalize hF : mm_EX _ _ _ = F
  refine w_st rfl rfl rfl trivial ?_
  refine w_st rfl rfl rfl (Nat.le_of_ble_eq_true rfl) ?_
  refine w_st rfl rfl rfl trivial ?_
  refine w_st rfl rfl rfl (Nat.le_of_ble_eq_true rfl) ?_
  refine mm_dn (P := fun j => mm_W 43 4 [.ref 0, .int (nI (sp_ct σ j)), .int (nI j)] [] g I F) (4) ?_ ?_ 0 (by first | decide | omega)
  · try dsimp only
    refine w_st rfl rfl rfl trivial ?_
    refine w_st rfl rfl rfl trivial ?_
    refine w_n_ge (a := 4) (b := 4) rfl (by first | decide | omega) (by first | decide | omega) (by first | rfl | assumption | (simp only [← nI_add, ← nI_mul]; rfl)) (by first | rfl | assumption | (simp only [← nI_add, ← nI_mul]; rfl)) (fun _ => ?_) (fun c => by exfalso; omega)
    have hv : vf_n64 (FP.ddiv (FP.i2d (nI (sp_ct σ 4))) 4630826316843712512) := sp_cl_n _ (by have := sp_nt_le σ 4; omega)
    refine w_st rfl rfl rfl trivial ?_
    refine w_st rfl rfl rfl trivial ?_
    refine w_st rfl rfl rfl trivial ?_
    refine w_st rfl rfl rfl (by assumption) ?_
    refine w_retd rfl ?_
    exact hF ▸ ⟨rfl, rfl, rfl⟩
  · intro j hj ih
    try dsimp only at ih ⊢
    have hT : mm_T (45 + 4 * j) := mm_T_f hj
    have hle := sp_no_le (sp_R σ j) 10
    refine w_st rfl rfl rfl trivial ?_
    refine w_st rfl rfl rfl trivial ?_
    refine w_n_ge (a := j) (b := 4) rfl (by first | decide | omega) (by first | decide | omega) (by first | rfl | assumption | (simp only [← nI_add, ← nI_mul]; rfl)) (by first | rfl | assumption | (simp only [← nI_add, ← nI_mul]; rfl)) (fun c => by exfalso; omega) (fun _ => ?_)
    refine w_st rfl rfl rfl trivial ?_
    refine w_st rfl rfl rfl trivial ?_
    refine w_st rfl rfl rfl trivial ?_
    refine w_gr (j := 6) rfl (mm_foc rfl) rfl (by decide) ?_
    refine w_st rfl rfl rfl trivial ?_
    refine w_ra (j := 45 + 4 * (j)) (j) rfl (Or.inl (mm_fac (n := 4) rfl)) (by first | rfl | assumption | (simp only [← nI_add, ← nI_mul]; rfl)) (by first | decide | omega) (mm_T_6 (by omega)) (by omega) ?_
    refine w_k11 (c_hiddenDigits hT (h.2 j hj)) rfl ⟨rfl, by decide, by decide, by decide, Or.inl ⟨_, rfl⟩⟩ (Nat.le_of_ble_eq_true rfl) (mm_T_o hT) (Nat.le_of_ble_eq_true rfl) ?_  -- calls 19 cX2_hiddenDigits
    refine w_isub rfl ?_
    refine w_iadd rfl ?_
    refine w_hd (show nI (sp_ct σ j) + (nI 10 - nI (sp_no (sp_R σ j) 10)) = nI (sp_ct σ (j + 1)) from by rw [nI_sub hle, nI_add]; rfl) ?_
    refine w_st rfl rfl rfl (Nat.le_of_ble_eq_true rfl) ?_
    refine w_inc rfl rfl rfl (Nat.le_of_ble_eq_true rfl) (nI_1 _) ?_
    refine w_st rfl rfl rfl trivial ?_
    exact ih
end SM
