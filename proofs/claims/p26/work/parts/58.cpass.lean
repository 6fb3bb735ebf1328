/-! pass, on the class's side: from burning to burning -/
noncomputable def sp_cst (τ : sp_St) (r : Int32) : Int32 := sp_if (sp_nb τ 4 = -1 ∨ r < sp_nb τ 4) r (sp_nb τ 4)
/-- at most j turns more -/
noncomputable def sp_cp : Nat → sp_St → Nat → Int32 → sp_St × Nat
  | 0, τ, B, _ => (τ, B)
  | j + 1, τ, B, r => sp_if (0 < r) (sp_cp j (sp_bw (sp_lg τ (sp_cst τ r) 4) 4).1 (B + (sp_bw (sp_lg τ (sp_cst τ r) 4) 4).2) (r - sp_cst τ r)) (τ, B)
section SM
variable {g : mm_Gg} {I I1 : mm_Is} {x y z : Int32} {n m H : Nat} {σ τ : sp_St} {ps : Nat → sp_St} {tx : Nat → Int32}
theorem sp_bd_41 (h : sp_bd I 1 σ) : sp_bd (va_up I 1 (upd (I 1) 4 x)) 1 (upd σ 0 x) := by
  obtain ⟨h1, h2, h3, h4, h5, h6⟩ := sp_bd1' h
  refine sp_bd1 ⟨fun j hj => ?_, fun j hj => ?_, fun j hj => ?_, fun j hj => ?_, ?_, ?_⟩
  · rw [mm_un (Or.inl (by decide)), upd_n (by omega)]; exact h1 j hj
  · rw [mm_un (Or.inl (by decide)), upd_n (by omega)]; exact h2 j hj
  · rw [mm_un (Or.inl (by decide)), upd_n (by omega)]; exact h3 j hj
  · rw [mm_un (Or.inl (by decide)), upd_n (by omega)]; exact h4 j hj
  · rw [mm_uu, upd_s]
  · rw [mm_un (Or.inr (by decide)), upd_n (by omega)]; exact h6
theorem sp_bd_51 (h : sp_bd I 1 σ) : sp_bd (va_up I 1 (upd (I 1) 5 x)) 1 (upd σ 3 x) := by
  obtain ⟨h1, h2, h3, h4, h5, h6⟩ := sp_bd1' h
  refine sp_bd1 ⟨fun j hj => ?_, fun j hj => ?_, fun j hj => ?_, fun j hj => ?_, ?_, ?_⟩
  · rw [mm_un (Or.inl (by decide)), upd_n (by omega)]; exact h1 j hj
  · rw [mm_un (Or.inl (by decide)), upd_n (by omega)]; exact h2 j hj
  · rw [mm_un (Or.inl (by decide)), upd_n (by omega)]; exact h3 j hj
  · rw [mm_un (Or.inl (by decide)), upd_n (by omega)]; exact h4 j hj
  · rw [mm_un (Or.inr (by decide)), upd_n (by omega)]; exact h5
  · rw [mm_uu, upd_s]
theorem c_pass_1 (h1 : ¬ (1 ≤ x ∧ x ≤ 500)) : mm_TH 31 7 [.ref 0, .int x] g I 2 := by
  refine w_MT ?_
  show mm_W 31 0 [.ref 0, .int x, .null, .null, .null, .null, .null] [] _ _ _
  generalize hF : mm_TX _ _ _ = F
  refine w_st rfl rfl rfl trivial ?_
  refine w_st rfl rfl rfl trivial ?_
  refine w_v_lt rfl (fun c1 => ?_) (fun c1 => ?_)
  · skip
    refine w_thr rfl (Nat.le_of_ble_eq_true rfl) ?_
    exact hF ▸ ⟨rfl, rfl, rfl⟩
  · skip
    refine w_st rfl rfl rfl trivial ?_
    refine w_st rfl rfl rfl trivial ?_
    refine w_v_le rfl (fun z => by first | exact absurd z (fun c2 => h1 ⟨Int32.not_lt.1 c1, c2⟩) | exact absurd (fun c2 => h1 ⟨Int32.not_lt.1 c1, c2⟩) z) (fun _ => ?_)
    refine w_thr rfl (Nat.le_of_ble_eq_true rfl) ?_
    exact hF ▸ ⟨rfl, rfl, rfl⟩
theorem c_pass_2 (h : sp_D I σ) (h1 : 1 ≤ x ∧ x ≤ 500) (h2 : ¬ σ 0 + x ≤ 99999) : mm_TH 31 7 [.ref 0, .int x] g I 3 := by
  refine w_MT ?_
  show mm_W 31 0 [.ref 0, .int x, .null, .null, .null, .null, .null] [] _ _ _
  generalize hF : mm_TX _ _ _ = F
  refine w_st rfl rfl rfl trivial ?_
  refine w_st rfl rfl rfl trivial ?_
  refine w_v_lt rfl (fun z => by first | exact absurd z (Int32.not_lt.2 h1.1) | exact absurd (Int32.not_lt.2 h1.1) z) (fun _ => ?_)
  refine w_st rfl rfl rfl trivial ?_
  refine w_st rfl rfl rfl trivial ?_
  refine w_v_le rfl (fun _ => ?_) (fun z => by first | exact absurd (h1.2) z | exact absurd z (h1.2))
  refine w_st rfl rfl rfl trivial ?_
  refine w_gr (j := 1) rfl (mm_foc rfl) rfl (by decide) ?_
  refine w_gi rfl (mm_foc rfl) ?_
  rw [show I 1 4 = σ 0 from h.1.2.2.2.2.1]
  refine w_st rfl rfl rfl trivial ?_
  refine w_iadd rfl ?_
  refine w_st rfl rfl rfl trivial ?_
  refine w_v_le rfl (fun z => by first | exact absurd z (h2) | exact absurd (h2) z) (fun _ => ?_)
  refine w_thr rfl (Nat.le_of_ble_eq_true rfl) ?_
  exact hF ▸ ⟨rfl, rfl, rfl⟩
end SM
