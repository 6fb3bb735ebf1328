/-! what the class tells of a state -/
abbrev sp_St : Type := Nat → Int32
/-- board b holds the state s -/
def sp_bd (I : mm_Is) (b : Nat) (σ : sp_St) : Prop := (∀ f, f < 4 → I (b + 1 + 0) f = σ (4 + f)) ∧ (∀ f, f < 4 → I (b + 1 + 1) f = σ (8 + f)) ∧ (∀ j, j < 60 → I (b + 1 + 2) j = σ (12 + j)) ∧ (∀ k, k < 2 → I (b + 1 + 3) k = σ (1 + k)) ∧ I b 4 = σ 0 ∧ I b 5 = σ 3
/-- the class's board and its four tables -/
def sp_D (I : mm_Is) (σ : sp_St) : Prop := sp_bd I 1 σ ∧ ∀ f, f < 4 → sp_tt I (45 + 4 * f) (σ (8 + f)) (σ 1)
noncomputable def sp_R (σ : sp_St) (f : Nat) : Nat → Int32 := sp_row (σ (8 + f)) (σ 1)
def sp_vis (σ : sp_St) (f : Nat) : Prop := sp_can (sp_R σ f) (σ (4 + f))
noncomputable def sp_lit (σ : sp_St) (f : Nat) : Int32 := sp_if (sp_vis σ f) (sp_sh (σ (8 + f)) (σ (4 + f)).toNatClampNeg (sp_R σ f (σ (4 + f)).toNatClampNeg)) 0
theorem sp_lit_b {σ : sp_St} {f : Nat} : sp_b15 (sp_lit σ f) := by
  unfold sp_lit
  by_cases c : sp_vis σ f
  · rw [sp_if_t c]
    obtain ⟨d, hd, h1, h2⟩ := c
    rw [h1, nI_clamp (by omega)]
    obtain ⟨k, hk, hr⟩ := (sp_row_k (b := σ (8 + f)) (s := σ 1) hd).resolve_left h2
    rw [show sp_R σ f d = nI k from hr]
    exact sp_b15_sh hd hk
  · rw [sp_if_f c]; exact sp_b15_0
def sp_bl (σ : sp_St) : Nat → Int32
  | 0 => 0
  | n + 1 => sp_bl σ n + sp_pop (σ (8 + n))
noncomputable def sp_ll (σ : sp_St) : Nat → Int32
  | 0 => 0
  | n + 1 => sp_ll σ n + sp_pop (sp_lit σ n)
noncomputable def sp_wd (σ : sp_St) : Nat → Nat
  | 0 => 0
  | n + 1 => sp_wd σ n + sp_if (σ (4 + n) = -1) 0 1
noncomputable def sp_fs (σ : sp_St) : Nat → Nat
  | 0 => 0
  | n + 1 => sp_fs σ n + sp_if (sp_vis σ n) 1 0
noncomputable def sp_ns (σ : sp_St) : Nat → Int32 → Int32
  | 0, a => a
  | j + 1, a => sp_if (sp_vis σ (3 - j)) (sp_ns σ j (sp_if (a = -1) (σ (4 + (3 - j))) (10 * a + σ (4 + (3 - j))))) (sp_if (¬ σ (4 + (3 - j)) = -1 ∨ ¬ a = -1) (-1) (sp_ns σ j a))
def sp_wn (σ : sp_St) (f l : Nat) : Prop := 0 < 100 * σ 2 ∧ 100 * σ 2 ≤ σ (12 + (15 * f + l))
noncomputable def sp_hu (σ : sp_St) (f l : Nat) : Int32 := sp_if (σ 2 = 0 ∨ ¬ σ (8 + f) &&& sp_bit l = 0) (-1) (sp_if (sp_wn σ f l) 1 (sp_if (¬ sp_lit σ f &&& sp_bit l = 0) (100 * σ 2 - σ (12 + (15 * f + l))) (-1)))
noncomputable def sp_n1 (a h : Int32) : Int32 := sp_if (¬ h = -1 ∧ (a = -1 ∨ h < a)) h a
noncomputable def sp_n2 (σ : sp_St) (f : Nat) (a : Int32) : Nat → Int32
  | 0 => a
  | l + 1 => sp_n1 (sp_n2 σ f a l) (sp_hu σ f l)
noncomputable def sp_nb (σ : sp_St) : Nat → Int32
  | 0 => -1
  | f + 1 => sp_n2 σ f (sp_nb σ f) 15
noncomputable def sp_ct (σ : sp_St) : Nat → Nat
  | 0 => 0
  | n + 1 => sp_ct σ n + (10 - sp_no (sp_R σ n) 10)
section SM
variable {g : mm_Gg} {I : mm_Is} {x y z : Int32} {l d k t u f : Nat} {σ : sp_St}
theorem sp_Dd (h : sp_D I σ) (hf : f < 4) : I 2 f = σ (4 + f) := h.1.1 f hf
theorem sp_Db (h : sp_D I σ) (hf : f < 4) : I 3 f = σ (8 + f) := h.1.2.1 f hf
theorem sp_Dh (h : sp_D I σ) (hf : f < 60) : I 4 f = σ (12 + f) := h.1.2.2.1 f hf
theorem sp_Ds (h : sp_D I σ) (hf : f < 2) : I 5 f = σ (1 + f) := h.1.2.2.2.1 f hf
theorem c_isShown (h : sp_D I σ) (hf : f < 4) : mm_M 60 2 [.ref 0, .int (nI f)] g I (some (.int (mm_bi (sp_vis σ f)))) I := by
  have hT : mm_T (45 + 4 * f) := mm_T_f hf
  refine w_M ?_
  show mm_W 60 0 [.ref 0, .int (nI f)] [] _ _ _
  generalize hF : mm_EX _ _ _ = F
  refine w_st rfl rfl rfl trivial ?_
  refine w_gr (j := 6) rfl (mm_foc rfl) rfl (by decide) ?_
  refine w_st rfl rfl rfl trivial ?_
  refine w_ra (j := 45 + 4 * (f)) (f) rfl (Or.inl (mm_fac (n := 4) rfl)) (by first | rfl | assumption | (simp only [← nI_add, ← nI_mul]; rfl)) (by first | decide | omega) (mm_T_6 (by omega)) (by omega) ?_
  refine w_st rfl rfl rfl trivial ?_
  refine w_gr (j := 1) rfl (mm_foc rfl) rfl (by decide) ?_
  refine w_gr (j := 2) rfl (mm_foc rfl) rfl (by decide) ?_
  refine w_st rfl rfl rfl trivial ?_
  refine w_ia (f) rfl (mm_fac (n := 4) rfl) (by first | rfl | assumption | (simp only [← nI_add, ← nI_mul]; rfl)) (by first | decide | omega) ?_
  rw [sp_Dd h hf]
  refine w_k21 (c_canShow hT (h.2 f hf)) rfl ⟨rfl, by decide, by decide, by decide, Or.inl ⟨_, rfl⟩⟩ (Nat.le_of_ble_eq_true rfl) (mm_T_o hT) (Nat.le_of_ble_eq_true rfl) ?_  -- calls 14 cX2_canShow
  refine w_retz rfl (by first | exact Or.inl rfl | exact Or.inr rfl | exact mm_bi_01 _ | assumption) ?_
  exact hF ▸ mm_EX_i (rfl)
theorem c_litOf (h : sp_D I σ) (hf : f < 4) : mm_M 61 2 [.ref 0, .int (nI f)] g I (some (.int (sp_lit σ f))) I := by
  have hT : mm_T (45 + 4 * f) := mm_T_f hf
  refine w_M ?_
  show mm_W 61 0 [.ref 0, .int (nI f)] [] _ _ _
  generalize hF : mm_EX _ _ _ = F
  refine w_st rfl rfl rfl trivial ?_
  refine w_st rfl rfl rfl trivial ?_
  refine w_k21 (c_isShown h hf) rfl ⟨rfl, by decide, by decide, by decide, Or.inl ⟨_, rfl⟩⟩ (Nat.le_of_ble_eq_true rfl) (mm_foc rfl) (Nat.le_of_ble_eq_true rfl) ?_  -- calls 60 cX4_isShown
  refine w_b_eq rfl (fun c => ?_) (fun c => ?_)
  · skip
    refine w_st rfl rfl rfl trivial ?_
    refine w_reti rfl ?_
    exact hF ▸ mm_EX_i ((sp_if_f c _ _).symm)
  · skip
    refine w_st rfl rfl rfl trivial ?_
    refine w_gr (j := 6) rfl (mm_foc rfl) rfl (by decide) ?_
    refine w_st rfl rfl rfl trivial ?_
    refine w_ra (j := 45 + 4 * (f)) (f) rfl (Or.inl (mm_fac (n := 4) rfl)) (by first | rfl | assumption | (simp only [← nI_add, ← nI_mul]; rfl)) (by first | decide | omega) (mm_T_6 (by omega)) (by omega) ?_
    refine w_st rfl rfl rfl trivial ?_
    refine w_gr (j := 1) rfl (mm_foc rfl) rfl (by decide) ?_
    refine w_gr (j := 2) rfl (mm_foc rfl) rfl (by decide) ?_
    refine w_st rfl rfl rfl trivial ?_
    refine w_ia (f) rfl (mm_fac (n := 4) rfl) (by first | rfl | assumption | (simp only [← nI_add, ← nI_mul]; rfl)) (by first | decide | omega) ?_
    rw [sp_Dd h hf]
    refine w_k21 (c_shownOf hT (h.2 f hf)) rfl ⟨rfl, by decide, by decide, by decide, Or.inl ⟨_, rfl⟩⟩ (Nat.le_of_ble_eq_true rfl) (mm_T_o hT) (Nat.le_of_ble_eq_true rfl) ?_  -- calls 16 cX2_shownOf
    refine w_st rfl rfl rfl trivial ?_
    refine w_reti rfl ?_
    exact hF ▸ mm_EX_i (by unfold sp_lit; rw [sp_if_t c]; exact sp_if_t c _ _)
theorem c_burntLamps (h : sp_D I σ) : mm_M 62 3 [.ref 0] g I (some (.int (sp_bl σ 4))) I := by
  refine w_M ?_
  show mm_W 62 0 [.ref 0, .null, .null] [] _ _ _
  generalize hF : mm_EX _ _ _ = F
  refine w_st rfl rfl rfl trivial ?_
  refine w_st rfl rfl rfl (Nat.le_of_ble_eq_true rfl) ?_
  refine w_st rfl rfl rfl trivial ?_
  refine w_st rfl rfl rfl (Nat.le_of_ble_eq_true rfl) ?_
  refine mm_dn (P := fun j => mm_W 62 4 [.ref 0, .int (sp_bl σ j), .int (nI j)] [] g I F) (4) ?_ ?_ 0 (by first | decide | omega)
  · try dsimp only
    refine w_st rfl rfl rfl trivial ?_
    refine w_st rfl rfl rfl trivial ?_
    refine w_n_ge (a := 4) (b := 4) rfl (by first | decide | omega) (by first | decide | omega) (by first | rfl | assumption | (simp only [← nI_add, ← nI_mul]; rfl)) (by first | rfl | assumption | (simp only [← nI_add, ← nI_mul]; rfl)) (fun _ => ?_) (fun c => by exfalso; omega)
    refine w_st rfl rfl rfl trivial ?_
    refine w_reti rfl ?_
    exact hF ▸ mm_EX_i (rfl)
  · intro j hj ih
    try dsimp only at ih ⊢
    refine w_st rfl rfl rfl trivial ?_
    refine w_st rfl rfl rfl trivial ?_
    refine w_n_ge (a := j) (b := 4) rfl (by first | decide | omega) (by first | decide | omega) (by first | rfl | assumption | (simp only [← nI_add, ← nI_mul]; rfl)) (by first | rfl | assumption | (simp only [← nI_add, ← nI_mul]; rfl)) (fun c => by exfalso; omega) (fun _ => ?_)
    refine w_st rfl rfl rfl trivial ?_
    refine w_st rfl rfl rfl trivial ?_
    refine w_gr (j := 1) rfl (mm_foc rfl) rfl (by decide) ?_
    refine w_gr (j := 3) rfl (mm_foc rfl) rfl (by decide) ?_
    refine w_st rfl rfl rfl trivial ?_
    refine w_ia (j) rfl (mm_fac (n := 4) rfl) (by first | rfl | assumption | (simp only [← nI_add, ← nI_mul]; rfl)) (by first | decide | omega) ?_
    rw [sp_Db h hj]
    refine w_k11 (c_bitCount) rfl ⟨rfl, by decide, by decide, by decide, Or.inr (Or.inl ⟨_, rfl⟩)⟩ (Nat.le_of_ble_eq_true rfl) trivial (Nat.le_of_ble_eq_true rfl) ?_  -- calls 67 cJ6_bitCount_0f7a4
    refine w_iadd rfl ?_
    refine w_st rfl rfl rfl (Nat.le_of_ble_eq_true rfl) ?_
    refine w_inc rfl rfl rfl (Nat.le_of_ble_eq_true rfl) (nI_1 _) ?_
    refine w_st rfl rfl rfl trivial ?_
    exact ih
theorem c_litLamps (h : sp_D I σ) : mm_M 63 3 [.ref 0] g I (some (.int (sp_ll σ 4))) I := by
  refine w_M ?_
  show mm_W 63 0 [.ref 0, .null, .null] [] _ _ _
  generalize hF : mm_EX _ _ _ = F
  refine w_st rfl rfl rfl trivial ?_
  refine w_st rfl rfl rfl (Nat.le_of_ble_eq_true rfl) ?_
  refine w_st rfl rfl rfl trivial ?_
  refine w_st rfl rfl rfl (Nat.le_of_ble_eq_true rfl) ?_
  refine mm_dn (P := fun j => mm_W 63 4 [.ref 0, .int (sp_ll σ j), .int (nI j)] [] g I F) (4) ?_ ?_ 0 (by first | decide | omega)
  · try dsimp only
    refine w_st rfl rfl rfl trivial ?_
    refine w_st rfl rfl rfl trivial ?_
    refine w_n_ge (a := 4) (b := 4) rfl (by first | decide | omega) (by first | decide | omega) (by first | rfl | assumption | (simp only [← nI_add, ← nI_mul]; rfl)) (by first | rfl | assumption | (simp only [← nI_add, ← nI_mul]; rfl)) (fun _ => ?_) (fun c => by exfalso; omega)
    refine w_st rfl rfl rfl trivial ?_
    refine w_reti rfl ?_
    exact hF ▸ mm_EX_i (rfl)
  · intro j hj ih
    try dsimp only at ih ⊢
    refine w_st rfl rfl rfl trivial ?_
    refine w_st rfl rfl rfl trivial ?_
    refine w_n_ge (a := j) (b := 4) rfl (by first | decide | omega) (by first | decide | omega) (by first | rfl | assumption | (simp only [← nI_add, ← nI_mul]; rfl)) (by first | rfl | assumption | (simp only [← nI_add, ← nI_mul]; rfl)) (fun c => by exfalso; omega) (fun _ => ?_)
    refine w_st rfl rfl rfl trivial ?_
    refine w_st rfl rfl rfl trivial ?_
    refine w_st rfl rfl rfl trivial ?_
    refine w_k21 (c_litOf h hj) rfl ⟨rfl, by decide, by decide, by decide, Or.inl ⟨_, rfl⟩⟩ (Nat.le_of_ble_eq_true rfl) (mm_foc rfl) (Nat.le_of_ble_eq_true rfl) ?_  -- calls 61 cX4_litOf
    refine w_k11 (c_bitCount) rfl ⟨rfl, by decide, by decide, by decide, Or.inr (Or.inl ⟨_, rfl⟩)⟩ (Nat.le_of_ble_eq_true rfl) trivial (Nat.le_of_ble_eq_true rfl) ?_  -- calls 67 cJ6_bitCount_0f7a4
    refine w_iadd rfl ?_
    refine w_st rfl rfl rfl (Nat.le_of_ble_eq_true rfl) ?_
    refine w_inc rfl rfl rfl (Nat.le_of_ble_eq_true rfl) (nI_1 _) ?_
    refine w_st rfl rfl rfl trivial ?_
    exact ih
theorem c_fieldsWithDigit (h : sp_D I σ) : mm_M 64 3 [.ref 0] g I (some (.int (nI (sp_wd σ 4)))) I := by
  refine w_M ?_
  show mm_W 64 0 [.ref 0, .null, .null] [] _ _ _
  generalize hF : mm_EX _ _ _ = F
  refine w_st rfl rfl rfl trivial ?_
  refine w_st rfl rfl rfl (Nat.le_of_ble_eq_true rfl) ?_
  refine w_st rfl rfl rfl trivial ?_
  refine w_st rfl rfl rfl (Nat.le_of_ble_eq_true rfl) ?_
  refine mm_dn (P := fun j => mm_W 64 4 [.ref 0, .int (nI (sp_wd σ j)), .int (nI j)] [] g I F) (4) ?_ ?_ 0 (by first | decide | omega)
  · try dsimp only
    refine w_st rfl rfl rfl trivial ?_
    refine w_st rfl rfl rfl trivial ?_
    refine w_n_ge (a := 4) (b := 4) rfl (by first | decide | omega) (by first | decide | omega) (by first | rfl | assumption | (simp only [← nI_add, ← nI_mul]; rfl)) (by first | rfl | assumption | (simp only [← nI_add, ← nI_mul]; rfl)) (fun _ => ?_) (fun c => by exfalso; omega)
    refine w_st rfl rfl rfl trivial ?_
    refine w_reti rfl ?_
    exact hF ▸ mm_EX_i (rfl)
  · intro j hj ih
    try dsimp only at ih ⊢
    have e : sp_wd σ (j + 1) = sp_wd σ j + sp_if (σ (4 + j) = -1) 0 1 := rfl
    refine w_st rfl rfl rfl trivial ?_
    refine w_st rfl rfl rfl trivial ?_
    refine w_n_ge (a := j) (b := 4) rfl (by first | decide | omega) (by first | decide | omega) (by first | rfl | assumption | (simp only [← nI_add, ← nI_mul]; rfl)) (by first | rfl | assumption | (simp only [← nI_add, ← nI_mul]; rfl)) (fun c => by exfalso; omega) (fun _ => ?_)
    refine w_st rfl rfl rfl trivial ?_
    refine w_st rfl rfl rfl trivial ?_
    refine w_gr (j := 1) rfl (mm_foc rfl) rfl (by decide) ?_
    refine w_gr (j := 2) rfl (mm_foc rfl) rfl (by decide) ?_
    refine w_st rfl rfl rfl trivial ?_
    refine w_ia (j) rfl (mm_fac (n := 4) rfl) (by first | rfl | assumption | (simp only [← nI_add, ← nI_mul]; rfl)) (by first | decide | omega) ?_
    rw [sp_Dd h hj]
    refine w_st rfl rfl rfl trivial ?_
    refine w_v_ne rfl (fun c => ?_) (fun c => ?_)
    · rw [sp_if_f c] at e
      refine w_st rfl rfl rfl trivial ?_
      refine w_iadd rfl ?_
      refine w_hd (nI_1 _) ?_
      refine w_st rfl rfl rfl (Nat.le_of_ble_eq_true rfl) ?_
      refine w_inc rfl rfl rfl (Nat.le_of_ble_eq_true rfl) (nI_1 _) ?_
      refine w_st rfl rfl rfl trivial ?_
      rw [e] at ih; exact ih
    · rw [sp_if_t c] at e
      refine w_st rfl rfl rfl trivial ?_
      refine w_st rfl rfl rfl trivial ?_
      refine w_iadd rfl ?_
      refine w_hd (nI_add _ 0) ?_
      refine w_st rfl rfl rfl (Nat.le_of_ble_eq_true rfl) ?_
      refine w_inc rfl rfl rfl (Nat.le_of_ble_eq_true rfl) (nI_1 _) ?_
      refine w_st rfl rfl rfl trivial ?_
      rw [e] at ih; exact ih
theorem c_fieldsShown (h : sp_D I σ) : mm_M 65 3 [.ref 0] g I (some (.int (nI (sp_fs σ 4)))) I := by
  refine w_M ?_
  show mm_W 65 0 [.ref 0, .null, .null] [] _ _ _
  generalize hF : mm_EX _ _ _ = F
  refine w_st rfl rfl rfl trivial ?_
  refine w_st rfl rfl rfl (Nat.le_of_ble_eq_true rfl) ?_
  refine w_st rfl rfl rfl trivial ?_
  refine w_st rfl rfl rfl (Nat.le_of_ble_eq_true rfl) ?_
  refine mm_dn (P := fun j => mm_W 65 4 [.ref 0, .int (nI (sp_fs σ j)), .int (nI j)] [] g I F) (4) ?_ ?_ 0 (by first | decide | omega)
  · try dsimp only
    refine w_st rfl rfl rfl trivial ?_
    refine w_st rfl rfl rfl trivial ?_
    refine w_n_ge (a := 4) (b := 4) rfl (by first | decide | omega) (by first | decide | omega) (by first | rfl | assumption | (simp only [← nI_add, ← nI_mul]; rfl)) (by first | rfl | assumption | (simp only [← nI_add, ← nI_mul]; rfl)) (fun _ => ?_) (fun c => by exfalso; omega)
    refine w_st rfl rfl rfl trivial ?_
    refine w_reti rfl ?_
    exact hF ▸ mm_EX_i (rfl)
  · intro j hj ih
    try dsimp only at ih ⊢
    have e : sp_fs σ (j + 1) = sp_fs σ j + sp_if (sp_vis σ j) 1 0 := rfl
    refine w_st rfl rfl rfl trivial ?_
    refine w_st rfl rfl rfl trivial ?_
    refine w_n_ge (a := j) (b := 4) rfl (by first | decide | omega) (by first | decide | omega) (by first | rfl | assumption | (simp only [← nI_add, ← nI_mul]; rfl)) (by first | rfl | assumption | (simp only [← nI_add, ← nI_mul]; rfl)) (fun c => by exfalso; omega) (fun _ => ?_)
    refine w_st rfl rfl rfl trivial ?_
    refine w_st rfl rfl rfl trivial ?_
    refine w_st rfl rfl rfl trivial ?_
    refine w_k21 (c_isShown h hj) rfl ⟨rfl, by decide, by decide, by decide, Or.inl ⟨_, rfl⟩⟩ (Nat.le_of_ble_eq_true rfl) (mm_foc rfl) (Nat.le_of_ble_eq_true rfl) ?_  -- calls 60 cX4_isShown
    refine w_b_eq rfl (fun c => ?_) (fun c => ?_)
    · rw [sp_if_f c] at e
      refine w_st rfl rfl rfl trivial ?_
      refine w_iadd rfl ?_
      refine w_hd (nI_add _ 0) ?_
      refine w_st rfl rfl rfl (Nat.le_of_ble_eq_true rfl) ?_
      refine w_inc rfl rfl rfl (Nat.le_of_ble_eq_true rfl) (nI_1 _) ?_
      refine w_st rfl rfl rfl trivial ?_
      rw [e] at ih; exact ih
    · rw [sp_if_t c] at e
      refine w_st rfl rfl rfl trivial ?_
      refine w_st rfl rfl rfl trivial ?_
      refine w_iadd rfl ?_
      refine w_hd (nI_1 _) ?_
      refine w_st rfl rfl rfl (Nat.le_of_ble_eq_true rfl) ?_
      refine w_inc rfl rfl rfl (Nat.le_of_ble_eq_true rfl) (nI_1 _) ?_
      refine w_st rfl rfl rfl trivial ?_
      rw [e] at ih; exact ih
theorem c_numberShown (h : sp_D I σ) : mm_M 66 3 [.ref 0] g I (some (.int (sp_ns σ 4 (-1)))) I := by
  refine w_M ?_
  show mm_W 66 0 [.ref 0, .null, .null] [] _ _ _
  generalize hF : mm_EX _ _ _ = F
  refine w_st rfl rfl rfl trivial ?_
  refine w_st rfl rfl rfl (Nat.le_of_ble_eq_true rfl) ?_
  refine w_st rfl rfl rfl trivial ?_
  refine w_st rfl rfl rfl (Nat.le_of_ble_eq_true rfl) ?_
  have K : ∀ j, j ≤ 4 → ∀ a, sp_ns σ 4 (-1) = sp_ns σ (4 - j) a → mm_W 66 4 [.ref 0, .int a, .int (nI j)] [] g I F := by
    refine mm_dn 4 ?_ ?_
    · intro a e
      refine w_st rfl rfl rfl trivial ?_
      refine w_st rfl rfl rfl trivial ?_
      refine w_n_ge (a := 4) (b := 4) rfl (by first | decide | omega) (by first | decide | omega) (by first | rfl | assumption | (simp only [← nI_add, ← nI_mul]; rfl)) (by first | rfl | assumption | (simp only [← nI_add, ← nI_mul]; rfl)) (fun _ => ?_) (fun c => by exfalso; omega)
      refine w_st rfl rfl rfl trivial ?_
      refine w_reti rfl ?_
      exact hF ▸ mm_EX_i (e.symm)
    · intro j hj ih a e
      have e1 : sp_ns σ (4 - j) a = sp_if (sp_vis σ j) (sp_ns σ (4 - (j + 1)) (sp_if (a = -1) (σ (4 + j)) (10 * a + σ (4 + j)))) (sp_if (¬ σ (4 + j) = -1 ∨ ¬ a = -1) (-1) (sp_ns σ (4 - (j + 1)) a)) := by
        obtain ⟨i, hi⟩ : ∃ i, 4 - j = i + 1 := ⟨3 - j, by omega⟩
        have h1 : 3 - i = j := by omega
        have h2 : 4 - (j + 1) = i := by omega
        rw [hi, h2]
        show sp_if (sp_vis σ (3 - i)) _ _ = _
        rw [h1]
      refine w_st rfl rfl rfl trivial ?_
      refine w_st rfl rfl rfl trivial ?_
      refine w_n_ge (a := j) (b := 4) rfl (by first | decide | omega) (by first | decide | omega) (by first | rfl | assumption | (simp only [← nI_add, ← nI_mul]; rfl)) (by first | rfl | assumption | (simp only [← nI_add, ← nI_mul]; rfl)) (fun c => by exfalso; omega) (fun _ => ?_)
      refine w_st rfl rfl rfl trivial ?_
      refine w_st rfl rfl rfl trivial ?_
      refine w_k21 (c_isShown h hj) rfl ⟨rfl, by decide, by decide, by decide, Or.inl ⟨_, rfl⟩⟩ (Nat.le_of_ble_eq_true rfl) (mm_foc rfl) (Nat.le_of_ble_eq_true rfl) ?_  -- calls 60 cX4_isShown
      refine w_b_eq rfl (fun c => ?_) (fun c => ?_)
      · rw [sp_if_f c] at e1
        refine w_st rfl rfl rfl trivial ?_
        refine w_gr (j := 1) rfl (mm_foc rfl) rfl (by decide) ?_
        refine w_gr (j := 2) rfl (mm_foc rfl) rfl (by decide) ?_
        refine w_st rfl rfl rfl trivial ?_
        refine w_ia (j) rfl (mm_fac (n := 4) rfl) (by first | rfl | assumption | (simp only [← nI_add, ← nI_mul]; rfl)) (by first | decide | omega) ?_
        rw [sp_Dd h hj]
        refine w_st rfl rfl rfl trivial ?_
        refine w_v_ne rfl (fun c2 => ?_) (fun c2 => ?_)
        · rw [sp_if_t (Or.inl c2)] at e1
          refine w_st rfl rfl rfl trivial ?_
          refine w_reti rfl ?_
          exact hF ▸ mm_EX_i ((e.trans e1).symm)
        · skip
          refine w_st rfl rfl rfl trivial ?_
          refine w_st rfl rfl rfl trivial ?_
          refine w_v_eq rfl (fun c3 => ?_) (fun c3 => ?_)
          · rw [sp_if_f (fun z => z.elim (fun z => z c2) (fun z => z c3))] at e1
            refine w_inc rfl rfl rfl (Nat.le_of_ble_eq_true rfl) (nI_1 _) ?_
            refine w_st rfl rfl rfl trivial ?_
            exact ih a (e.trans e1)
          · rw [sp_if_t (Or.inr c3)] at e1
            refine w_st rfl rfl rfl trivial ?_
            refine w_reti rfl ?_
            exact hF ▸ mm_EX_i ((e.trans e1).symm)
      · rw [sp_if_t c] at e1
        refine w_st rfl rfl rfl trivial ?_
        refine w_st rfl rfl rfl trivial ?_
        refine w_v_ne rfl (fun c2 => ?_) (fun c2 => ?_)
        · rw [sp_if_f c2] at e1
          refine w_st rfl rfl rfl trivial ?_
          refine w_st rfl rfl rfl trivial ?_
          refine w_imul rfl ?_
          refine w_st rfl rfl rfl trivial ?_
          refine w_gr (j := 1) rfl (mm_foc rfl) rfl (by decide) ?_
          refine w_gr (j := 2) rfl (mm_foc rfl) rfl (by decide) ?_
          refine w_st rfl rfl rfl trivial ?_
          refine w_ia (j) rfl (mm_fac (n := 4) rfl) (by first | rfl | assumption | (simp only [← nI_add, ← nI_mul]; rfl)) (by first | decide | omega) ?_
          rw [sp_Dd h hj]
          refine w_iadd rfl ?_
          refine w_st rfl rfl rfl (Nat.le_of_ble_eq_true rfl) ?_
          refine w_st rfl rfl rfl trivial ?_
          refine w_inc rfl rfl rfl (Nat.le_of_ble_eq_true rfl) (nI_1 _) ?_
          refine w_st rfl rfl rfl trivial ?_
          exact ih _ (e.trans e1)
        · rw [sp_if_t c2] at e1
          refine w_st rfl rfl rfl trivial ?_
          refine w_gr (j := 1) rfl (mm_foc rfl) rfl (by decide) ?_
          refine w_gr (j := 2) rfl (mm_foc rfl) rfl (by decide) ?_
          refine w_st rfl rfl rfl trivial ?_
          refine w_ia (j) rfl (mm_fac (n := 4) rfl) (by first | rfl | assumption | (simp only [← nI_add, ← nI_mul]; rfl)) (by first | decide | omega) ?_
          rw [sp_Dd h hj]
          refine w_st rfl rfl rfl trivial ?_
          refine w_st rfl rfl rfl (Nat.le_of_ble_eq_true rfl) ?_
          refine w_st rfl rfl rfl trivial ?_
          refine w_inc rfl rfl rfl (Nat.le_of_ble_eq_true rfl) (nI_1 _) ?_
          refine w_st rfl rfl rfl trivial ?_
          exact ih _ (e.trans e1)
  exact K 0 (by decide) (-1) rfl
theorem c_hoursOf (h : sp_D I σ) (hf : f < 4) (hl : l < 15) : mm_M 3 3 [.ref 1, .int (nI f), .int (nI l)] g I (some (.int (σ (12 + (15 * f + l))))) I := by
  refine w_M ?_
  show mm_W 3 0 [.ref 1, .int (nI f), .int (nI l)] [] _ _ _
  generalize hF : mm_EX _ _ _ = F
  refine w_st rfl rfl rfl trivial ?_
  refine w_gr (j := 4) rfl (mm_foc rfl) rfl (by decide) ?_
  refine w_st rfl rfl rfl trivial ?_
  refine w_st rfl rfl rfl trivial ?_
  refine w_imul rfl ?_
  refine w_st rfl rfl rfl trivial ?_
  refine w_iadd rfl ?_
  refine w_ia (15 * f + l) rfl (mm_fac (n := 60) rfl) (by first | rfl | assumption | (simp only [← nI_add, ← nI_mul]; rfl)) (by first | decide | omega) ?_
  rw [sp_Dh h (by omega)]
  refine w_reti rfl ?_
  exact hF ▸ mm_EX_i (rfl)
theorem c_isWorn (h : sp_D I σ) (hf : f < 4) (hl : l < 15) : mm_M 58 4 [.ref 0, .int (nI f), .int (nI l)] g I (some (.int (mm_bi (sp_wn σ f l)))) I := by
  refine w_M ?_
  show mm_W 58 0 [.ref 0, .int (nI f), .int (nI l), .null] [] _ _ _
  generalize hF : mm_EX _ _ _ = F
  refine w_st rfl rfl rfl trivial ?_
  refine w_st rfl rfl rfl trivial ?_
  refine w_gr (j := 1) rfl (mm_foc rfl) rfl (by decide) ?_
  refine w_gr (j := 5) rfl (mm_foc rfl) rfl (by decide) ?_
  refine w_st rfl rfl rfl trivial ?_
  refine w_ia (1) rfl (mm_fac (n := 2) rfl) (by first | rfl | assumption | (simp only [← nI_add, ← nI_mul]; rfl)) (by first | decide | omega) ?_
  rw [sp_Ds h (by decide)]
  refine w_imul rfl ?_
  refine w_st rfl rfl rfl (Nat.le_of_ble_eq_true rfl) ?_
  refine w_st rfl rfl rfl trivial ?_
  refine w_z_le rfl (fun c1 => ?_) (fun c1 => ?_)
  · skip
    refine w_st rfl rfl rfl trivial ?_
    refine w_retz rfl (by first | exact Or.inl rfl | exact Or.inr rfl | exact mm_bi_01 _ | assumption) ?_
    exact hF ▸ mm_EX_i ((mm_bi_f (fun z => absurd z.1 (Int32.not_lt.2 c1))).symm)
  · skip
    refine w_st rfl rfl rfl trivial ?_
    refine w_gr (j := 1) rfl (mm_foc rfl) rfl (by decide) ?_
    refine w_st rfl rfl rfl trivial ?_
    refine w_st rfl rfl rfl trivial ?_
    refine w_k31 (c_hoursOf h hf hl) rfl ⟨rfl, by decide, by decide, by decide, Or.inl ⟨_, rfl⟩⟩ (Nat.le_of_ble_eq_true rfl) (mm_foc rfl) (Nat.le_of_ble_eq_true rfl) ?_  -- calls 3 cX0_hoursOf
    refine w_st rfl rfl rfl trivial ?_
    refine w_v_lt rfl (fun c2 => ?_) (fun c2 => ?_)
    · skip
      refine w_st rfl rfl rfl trivial ?_
      refine w_retz rfl (by first | exact Or.inl rfl | exact Or.inr rfl | exact mm_bi_01 _ | assumption) ?_
      exact hF ▸ mm_EX_i ((mm_bi_f (fun z => absurd z.2 (Int32.not_le.2 c2))).symm)
    · skip
      refine w_st rfl rfl rfl trivial ?_
      refine w_st rfl rfl rfl trivial ?_
      refine w_retz rfl (by first | exact Or.inl rfl | exact Or.inr rfl | exact mm_bi_01 _ | assumption) ?_
      exact hF ▸ mm_EX_i ((mm_bi_t ⟨Int32.not_le.1 c1, Int32.not_lt.1 c2⟩).symm)
theorem c_hoursUntil (h : sp_D I σ) (hf : f < 4) (hl : l < 15) : mm_M 59 4 [.ref 0, .int (nI f), .int (nI l)] g I (some (.int (sp_hu σ f l))) I := by
  refine w_M ?_
  show mm_W 59 0 [.ref 0, .int (nI f), .int (nI l), .null] [] _ _ _
  generalize hF : mm_EX _ _ _ = F
  refine w_st rfl rfl rfl trivial ?_
  refine w_gr (j := 1) rfl (mm_foc rfl) rfl (by decide) ?_
  refine w_gr (j := 5) rfl (mm_foc rfl) rfl (by decide) ?_
  refine w_st rfl rfl rfl trivial ?_
  refine w_ia (1) rfl (mm_fac (n := 2) rfl) (by first | rfl | assumption | (simp only [← nI_add, ← nI_mul]; rfl)) (by first | decide | omega) ?_
  rw [sp_Ds h (by decide)]
  refine w_z_eq rfl (fun c1 => ?_) (fun c1 => ?_)
  · skip
    refine w_st rfl rfl rfl trivial ?_
    refine w_reti rfl ?_
    exact hF ▸ mm_EX_i ((sp_if_t (Or.inl c1) _ _).symm)
  · skip
    refine w_st rfl rfl rfl trivial ?_
    refine w_gr (j := 1) rfl (mm_foc rfl) rfl (by decide) ?_
    refine w_gr (j := 3) rfl (mm_foc rfl) rfl (by decide) ?_
    refine w_st rfl rfl rfl trivial ?_
    refine w_ia (f) rfl (mm_fac (n := 4) rfl) (by first | rfl | assumption | (simp only [← nI_add, ← nI_mul]; rfl)) (by first | decide | omega) ?_
    rw [sp_Db h hf]
    refine w_st rfl rfl rfl trivial ?_
    refine w_k21 (c_has) rfl ⟨rfl, by decide, by decide, by decide, Or.inr (Or.inl ⟨_, rfl⟩)⟩ (Nat.le_of_ble_eq_true rfl) trivial (Nat.le_of_ble_eq_true rfl) ?_  -- calls 50 cX4_has
    refine w_b_eq rfl (fun c2 => ?_) (fun c2 => ?_)
    · skip
      refine w_st rfl rfl rfl trivial ?_
      refine w_st rfl rfl rfl trivial ?_
      refine w_st rfl rfl rfl trivial ?_
      refine w_k31 (c_isWorn h hf hl) rfl ⟨rfl, by decide, by decide, by decide, Or.inl ⟨_, rfl⟩⟩ (Nat.le_of_ble_eq_true rfl) (mm_foc rfl) (Nat.le_of_ble_eq_true rfl) ?_  -- calls 58 cX4_isWorn
      have e : sp_hu σ f l = sp_if (sp_wn σ f l) 1 (sp_if (¬ sp_lit σ f &&& sp_bit l = 0) (100 * σ 2 - σ (12 + (15 * f + l))) (-1)) := sp_if_f (fun z => z.elim c1 c2) _ _
      rw [e] at hF
      refine w_b_eq rfl (fun c3 => ?_) (fun c3 => ?_)
      · rw [sp_if_f c3] at hF
        refine w_st rfl rfl rfl trivial ?_
        refine w_st rfl rfl rfl trivial ?_
        refine w_gr (j := 1) rfl (mm_foc rfl) rfl (by decide) ?_
        refine w_gr (j := 5) rfl (mm_foc rfl) rfl (by decide) ?_
        refine w_st rfl rfl rfl trivial ?_
        refine w_ia (1) rfl (mm_fac (n := 2) rfl) (by first | rfl | assumption | (simp only [← nI_add, ← nI_mul]; rfl)) (by first | decide | omega) ?_
        rw [sp_Ds h (by decide)]
        refine w_imul rfl ?_
        refine w_st rfl rfl rfl trivial ?_
        refine w_gr (j := 1) rfl (mm_foc rfl) rfl (by decide) ?_
        refine w_st rfl rfl rfl trivial ?_
        refine w_st rfl rfl rfl trivial ?_
        refine w_k31 (c_hoursOf h hf hl) rfl ⟨rfl, by decide, by decide, by decide, Or.inl ⟨_, rfl⟩⟩ (Nat.le_of_ble_eq_true rfl) (mm_foc rfl) (Nat.le_of_ble_eq_true rfl) ?_  -- calls 3 cX0_hoursOf
        refine w_isub rfl ?_
        refine w_st rfl rfl rfl (Nat.le_of_ble_eq_true rfl) ?_
        refine w_st rfl rfl rfl trivial ?_
        refine w_st rfl rfl rfl trivial ?_
        refine w_k21 (c_litOf h hf) rfl ⟨rfl, by decide, by decide, by decide, Or.inl ⟨_, rfl⟩⟩ (Nat.le_of_ble_eq_true rfl) (mm_foc rfl) (Nat.le_of_ble_eq_true rfl) ?_  -- calls 61 cX4_litOf
        refine w_st rfl rfl rfl trivial ?_
        refine w_k21 (c_has) rfl ⟨rfl, by decide, by decide, by decide, Or.inr (Or.inl ⟨_, rfl⟩)⟩ (Nat.le_of_ble_eq_true rfl) trivial (Nat.le_of_ble_eq_true rfl) ?_  -- calls 50 cX4_has
        refine w_b_eq rfl (fun c4 => ?_) (fun c4 => ?_)
        · skip
          refine w_st rfl rfl rfl trivial ?_
          refine w_reti rfl ?_
          exact hF ▸ mm_EX_i ((sp_if_f c4 _ _).symm)
        · skip
          refine w_st rfl rfl rfl trivial ?_
          refine w_st rfl rfl rfl trivial ?_
          refine w_reti rfl ?_
          exact hF ▸ mm_EX_i ((sp_if_t c4 _ _).symm)
      · skip
        refine w_st rfl rfl rfl trivial ?_
        refine w_reti rfl ?_
        exact hF ▸ mm_EX_i ((sp_if_t c3 _ _).symm)
    · skip
      refine w_st rfl rfl rfl trivial ?_
      refine w_reti rfl ?_
      exact hF ▸ mm_EX_i ((sp_if_t (Or.inr c2) _ _).symm)
theorem c_nextBurn (h : sp_D I σ) : mm_M 42 5 [.ref 0] g I (some (.int (sp_nb σ 4))) I := by
  refine w_M ?_
  show mm_W 42 0 [.ref 0, .null, .null, .null, .null] [] _ _ _
  generalize hF : mm_EX _ _ _ = F
  refine w_st rfl rfl rfl trivial ?_
  refine w_st rfl rfl rfl (Nat.le_of_ble_eq_true rfl) ?_
  refine w_st rfl rfl rfl trivial ?_
  refine w_st rfl rfl rfl (Nat.le_of_ble_eq_true rfl) ?_
  have K : ∀ f, f ≤ 4 → ∀ v3 v4, mm_W 42 4 [.ref 0, .int (sp_nb σ f), .int (nI f), v3, v4] [] g I F := by
    refine mm_dn 4 ?_ ?_
    · intro v3 v4
      refine w_st rfl rfl rfl trivial ?_
      refine w_st rfl rfl rfl trivial ?_
      refine w_n_ge (a := 4) (b := 4) rfl (by first | decide | omega) (by first | decide | omega) (by first | rfl | assumption | (simp only [← nI_add, ← nI_mul]; rfl)) (by first | rfl | assumption | (simp only [← nI_add, ← nI_mul]; rfl)) (fun _ => ?_) (fun c => by exfalso; omega)
      refine w_st rfl rfl rfl trivial ?_
      refine w_reti rfl ?_
      exact hF ▸ mm_EX_i (rfl)
    · intro f hf ih v3 v4
      refine w_st rfl rfl rfl trivial ?_
      refine w_st rfl rfl rfl trivial ?_
      refine w_n_ge (a := f) (b := 4) rfl (by first | decide | omega) (by first | decide | omega) (by first | rfl | assumption | (simp only [← nI_add, ← nI_mul]; rfl)) (by first | rfl | assumption | (simp only [← nI_add, ← nI_mul]; rfl)) (fun c => by exfalso; omega) (fun _ => ?_)
      refine w_st rfl rfl rfl trivial ?_
      refine w_st rfl rfl rfl (Nat.le_of_ble_eq_true rfl) ?_
      have K2 : ∀ l, l ≤ 15 → ∀ v4, mm_W 42 11 [.ref 0, .int (sp_n2 σ f (sp_nb σ f) l), .int (nI f), .int (nI l), v4] [] g I F := by
        refine mm_dn 15 ?_ ?_
        · intro v4
          refine w_st rfl rfl rfl trivial ?_
          refine w_st rfl rfl rfl trivial ?_
          refine w_n_ge (a := 15) (b := 15) rfl (by first | decide | omega) (by first | decide | omega) (by first | rfl | assumption | (simp only [← nI_add, ← nI_mul]; rfl)) (by first | rfl | assumption | (simp only [← nI_add, ← nI_mul]; rfl)) (fun _ => ?_) (fun c => by exfalso; omega)
          refine w_inc rfl rfl rfl (Nat.le_of_ble_eq_true rfl) (nI_1 _) ?_
          refine w_st rfl rfl rfl trivial ?_
          exact ih (.int (nI 15)) v4
        · intro l hl ih2 v4
          have e : sp_n2 σ f (sp_nb σ f) (l + 1) = sp_if (¬ sp_hu σ f l = -1 ∧ (sp_n2 σ f (sp_nb σ f) l = -1 ∨ sp_hu σ f l < sp_n2 σ f (sp_nb σ f) l)) (sp_hu σ f l) (sp_n2 σ f (sp_nb σ f) l) := rfl
          refine w_st rfl rfl rfl trivial ?_
          refine w_st rfl rfl rfl trivial ?_
          refine w_n_ge (a := l) (b := 15) rfl (by first | decide | omega) (by first | decide | omega) (by first | rfl | assumption | (simp only [← nI_add, ← nI_mul]; rfl)) (by first | rfl | assumption | (simp only [← nI_add, ← nI_mul]; rfl)) (fun c => by exfalso; omega) (fun _ => ?_)
          refine w_st rfl rfl rfl trivial ?_
          refine w_st rfl rfl rfl trivial ?_
          refine w_st rfl rfl rfl trivial ?_
          refine w_k31 (c_hoursUntil h hf hl) rfl ⟨rfl, by decide, by decide, by decide, Or.inl ⟨_, rfl⟩⟩ (Nat.le_of_ble_eq_true rfl) (mm_foc rfl) (Nat.le_of_ble_eq_true rfl) ?_  -- calls 59 cX4_hoursUntilBurning
          refine w_st rfl rfl rfl (Nat.le_of_ble_eq_true rfl) ?_
          refine w_st rfl rfl rfl trivial ?_
          refine w_st rfl rfl rfl trivial ?_
          refine w_v_eq rfl (fun c1 => ?_) (fun c1 => ?_)
          · rw [sp_if_f (fun z => z.1 c1)] at e
            refine w_inc rfl rfl rfl (Nat.le_of_ble_eq_true rfl) (nI_1 _) ?_
            refine w_st rfl rfl rfl trivial ?_
            rw [e] at ih2; exact ih2 _
          · skip
            refine w_st rfl rfl rfl trivial ?_
            refine w_st rfl rfl rfl trivial ?_
            refine w_v_eq rfl (fun c2 => ?_) (fun c2 => ?_)
            · rw [sp_if_t ⟨c1, Or.inl c2⟩] at e
              refine w_st rfl rfl rfl trivial ?_
              refine w_st rfl rfl rfl (Nat.le_of_ble_eq_true rfl) ?_
              refine w_inc rfl rfl rfl (Nat.le_of_ble_eq_true rfl) (nI_1 _) ?_
              refine w_st rfl rfl rfl trivial ?_
              rw [e] at ih2; exact ih2 _
            · skip
              refine w_st rfl rfl rfl trivial ?_
              refine w_st rfl rfl rfl trivial ?_
              refine w_v_ge rfl (fun c3 => ?_) (fun c3 => ?_)
              · rw [sp_if_f (fun z => z.2.elim c2 (fun z => absurd c3 (Int32.not_le.2 z)))] at e
                refine w_inc rfl rfl rfl (Nat.le_of_ble_eq_true rfl) (nI_1 _) ?_
                refine w_st rfl rfl rfl trivial ?_
                rw [e] at ih2; exact ih2 _
              · rw [sp_if_t ⟨c1, Or.inr (Int32.not_le.1 c3)⟩] at e
                refine w_st rfl rfl rfl trivial ?_
                refine w_st rfl rfl rfl (Nat.le_of_ble_eq_true rfl) ?_
                refine w_inc rfl rfl rfl (Nat.le_of_ble_eq_true rfl) (nI_1 _) ?_
                refine w_st rfl rfl rfl trivial ?_
                rw [e] at ih2; exact ih2 _
      exact K2 0 (by decide) v4
  exact K 0 (by decide) .null .null
/-- a table of the class laid anew -/
theorem c_chooseTable (h : sp_bd I 1 σ) (hf : f < 4) : ∃ I', mm_M 53 2 [.ref 0, .int (nI f)] g I none I' ∧ (sp_tt I' (45 + 4 * f) (σ (8 + f)) (σ 1) ∧ sp_f3 (45 + 4 * f) I I') := by
  have hT : mm_T (45 + 4 * f) := mm_T_f hf
  obtain ⟨I', hM, hI⟩ := c_choose (g := g) (I := I) (b := σ (8 + f)) (s := σ 1) hT
  refine ⟨I', ?_, hI⟩
  refine w_M ?_
  show mm_W 53 0 [.ref 0, .int (nI f)] [] _ _ _
  generalize hF : mm_EX _ _ _ = F
  refine w_st rfl rfl rfl trivial ?_
  refine w_gr (j := 6) rfl (mm_foc rfl) rfl (by decide) ?_
  refine w_st rfl rfl rfl trivial ?_
  refine w_ra (j := 45 + 4 * (f)) (f) rfl (Or.inl (mm_fac (n := 4) rfl)) (by first | rfl | assumption | (simp only [← nI_add, ← nI_mul]; rfl)) (by first | decide | omega) (mm_T_6 (by omega)) (by omega) ?_
  refine w_st rfl rfl rfl trivial ?_
  refine w_gr (j := 1) rfl (mm_foc rfl) rfl (by decide) ?_
  refine w_gr (j := 3) rfl (mm_foc rfl) rfl (by decide) ?_
  refine w_st rfl rfl rfl trivial ?_
  refine w_ia (f) rfl (mm_fac (n := 4) rfl) (by first | rfl | assumption | (simp only [← nI_add, ← nI_mul]; rfl)) (by first | decide | omega) ?_
  rw [show I 3 f = σ (8 + f) from h.2.1 f hf]
  refine w_st rfl rfl rfl trivial ?_
  refine w_gr (j := 1) rfl (mm_foc rfl) rfl (by decide) ?_
  refine w_gr (j := 5) rfl (mm_foc rfl) rfl (by decide) ?_
  refine w_st rfl rfl rfl trivial ?_
  refine w_ia (0) rfl (mm_fac (n := 2) rfl) (by first | rfl | assumption | (simp only [← nI_add, ← nI_mul]; rfl)) (by first | decide | omega) ?_
  rw [show I 5 0 = σ 1 from h.2.2.2.1 0 (by decide)]
  refine w_k30 (hM) rfl ⟨rfl, by decide, by decide, by decide, Or.inl ⟨_, rfl⟩⟩ (Nat.le_of_ble_eq_true rfl) (mm_T_o hT) (Nat.le_of_ble_eq_true rfl) ?_  -- calls 10 cX2_choose
  refine w_retv rfl ?_
  exact hF ▸ ⟨rfl, rfl, rfl⟩
theorem c_tryBurning (h : sp_bd I 1 σ) (hf : f < 4) : ∃ I', mm_M 55 3 [.ref 0, .int (nI f), .int (nI l)] g I none I' ∧ (sp_tt I' 7 (σ (8 + f) ||| sp_bit l) (σ 1) ∧ sp_f3 7 I I') := by
  obtain ⟨I', hM, hI⟩ := c_choose (g := g) (I := I) (b := σ (8 + f) ||| sp_bit l) (s := σ 1) (t := 7) (Or.inl rfl)
  refine ⟨I', ?_, hI⟩
  refine w_M ?_
  show mm_W 55 0 [.ref 0, .int (nI f), .int (nI l)] [] _ _ _
  generalize hF : mm_EX _ _ _ = F
  refine w_st rfl rfl rfl trivial ?_
  refine w_gr (j := 7) rfl (mm_foc rfl) rfl (by decide) ?_
  refine w_st rfl rfl rfl trivial ?_
  refine w_gr (j := 1) rfl (mm_foc rfl) rfl (by decide) ?_
  refine w_gr (j := 3) rfl (mm_foc rfl) rfl (by decide) ?_
  refine w_st rfl rfl rfl trivial ?_
  refine w_ia (f) rfl (mm_fac (n := 4) rfl) (by first | rfl | assumption | (simp only [← nI_add, ← nI_mul]; rfl)) (by first | decide | omega) ?_
  rw [show I 3 f = σ (8 + f) from h.2.1 f hf]
  refine w_st rfl rfl rfl trivial ?_
  refine w_k11 (c_maskOf) rfl ⟨rfl, by decide, by decide, by decide, Or.inr (Or.inl ⟨_, rfl⟩)⟩ (Nat.le_of_ble_eq_true rfl) trivial (Nat.le_of_ble_eq_true rfl) ?_  -- calls 49 cX4_maskOf
  refine w_ior rfl ?_
  refine w_st rfl rfl rfl trivial ?_
  refine w_gr (j := 1) rfl (mm_foc rfl) rfl (by decide) ?_
  refine w_gr (j := 5) rfl (mm_foc rfl) rfl (by decide) ?_
  refine w_st rfl rfl rfl trivial ?_
  refine w_ia (0) rfl (mm_fac (n := 2) rfl) (by first | rfl | assumption | (simp only [← nI_add, ← nI_mul]; rfl)) (by first | decide | omega) ?_
  rw [show I 5 0 = σ 1 from h.2.2.2.1 0 (by decide)]
  refine w_k30 (hM) rfl ⟨rfl, by decide, by decide, by decide, Or.inl ⟨_, rfl⟩⟩ (Nat.le_of_ble_eq_true rfl) (mm_foc rfl) (Nat.le_of_ble_eq_true rfl) ?_  -- calls 10 cX2_choose
  refine w_retv rfl ?_
  exact hF ▸ ⟨rfl, rfl, rfl⟩
end SM
