/-! the class's operations -/
theorem sp_D_c {I I' : mm_Is} {σ : sp_St} (h : ∀ p, (1 ≤ p ∧ p < 6) ∨ (46 ≤ p ∧ p < 61) → I' p = I p) (x : sp_D I σ) : sp_D I' σ := by
  refine ⟨sp_bd_c (fun p hp => h p (Or.inl (by unfold sp_in5 at hp; omega))) x.1, fun f hf d hd => ?_⟩
  have := x.2 f hf d hd
  unfold sp_te at this ⊢
  rw [h (45 + 4 * f + 1 + 0) (Or.inr (by omega)), h (45 + 4 * f + 1 + 1) (Or.inr (by omega)), h (45 + 4 * f + 1 + 2) (Or.inr (by omega))]
  exact this
theorem sp_H_c {I I' : mm_Is} {n : Nat} {ps : Nat → sp_St} (h : ∀ p, p = 13 ∨ (15 ≤ p ∧ p < 45) → I' p = I p) (x : sp_H I n ps) : sp_H I' n ps := by
  obtain ⟨h1, h2, o, ho, h3, h4⟩ := x
  refine ⟨by rw [h 13 (Or.inl rfl)]; exact h1, h2, o, ho, by rw [h 13 (Or.inl rfl)]; exact h3, fun i hi => sp_bd_c (fun p hp => h p (Or.inr (by unfold sp_in5 at hp; omega))) (h4 i hi)⟩
theorem sp_X_c {I I' : mm_Is} {m : Nat} {tx : Nat → Int32} (h : ∀ p, p = 11 ∨ p = 12 → I' p = I p) (x : sp_X I m tx) : sp_X I' m tx := by
  unfold sp_X at x ⊢
  rw [h 11 (Or.inl rfl), h 12 (Or.inr rfl)]
  exact x
/-- the class holds state, history and text -/
def sp_C (I : mm_Is) (σ : sp_St) (n : Nat) (ps : Nat → sp_St) (m : Nat) (tx : Nat → Int32) : Prop := sp_D I σ ∧ sp_H I n ps ∧ sp_X I m tx
def sp_cf (I I' : mm_Is) : Prop := ∀ p, 61 ≤ p → I' p = I p
theorem sp_C_c {I I' : mm_Is} {σ : sp_St} {n m : Nat} {ps : Nat → sp_St} {tx : Nat → Int32} (h : ∀ p, p < 61 → I' p = I p) (x : sp_C I σ n ps m tx) : sp_C I' σ n ps m tx :=
  ⟨sp_D_c (fun p hp => h p (by omega)) x.1, sp_H_c (fun p hp => h p (by omega)) x.2.1, sp_X_c (fun p hp => h p (by omega)) x.2.2⟩
/-- a look: only the trial table may have changed -/
theorem sp_C_f3 {I I' : mm_Is} {σ : sp_St} {n m : Nat} {ps : Nat → sp_St} {tx : Nat → Int32} (h : sp_f3 7 I I') (x : sp_C I σ n ps m tx) : sp_C I' σ n ps m tx ∧ sp_cf I I' :=
  ⟨⟨sp_D_c (fun p hp => h p (by omega) (by omega) (by omega)) x.1, sp_H_c (fun p hp => h p (by omega) (by omega) (by omega)) x.2.1, sp_X_c (fun p hp => h p (by omega) (by omega) (by omega)) x.2.2⟩, fun p hp => h p (by omega) (by omega) (by omega)⟩
section SM
variable {g : mm_Gg} {I : mm_Is} {x y z : Int32} {l d k t u f w n b o m : Nat} {σ τ : sp_St} {ps : Nat → sp_St} {tx : Nat → Int32}
theorem sp_bd_d1 (h : sp_bd I 1 σ) (hf : f < 4) : sp_bd (va_up I 2 (upd (I 2) f x)) 1 (upd σ (4 + f) x) := by
  obtain ⟨h1, h2, h3, h4, h5, h6⟩ := sp_bd1' h
  refine sp_bd1 ⟨fun j hj => ?_, fun j hj => ?_, fun j hj => ?_, fun j hj => ?_, ?_, ?_⟩
  · by_cases c : j = f
    · subst c; rw [mm_uu, upd_s]
    · rw [mm_un (Or.inr c), upd_n (by omega)]; exact h1 j hj
  · rw [mm_un (Or.inl (by decide)), upd_n (by omega)]; exact h2 j hj
  · rw [mm_un (Or.inl (by decide)), upd_n (by omega)]; exact h3 j hj
  · rw [mm_un (Or.inl (by decide)), upd_n (by omega)]; exact h4 j hj
  · rw [mm_un (Or.inl (by decide)), upd_n (by omega)]; exact h5
  · rw [mm_un (Or.inl (by decide)), upd_n (by omega)]; exact h6
theorem sp_bd_s1 (h : sp_bd I 1 σ) (hf : f < 2) : sp_bd (va_up I 5 (upd (I 5) f x)) 1 (upd σ (1 + f) x) := by
  obtain ⟨h1, h2, h3, h4, h5, h6⟩ := sp_bd1' h
  refine sp_bd1 ⟨fun j hj => ?_, fun j hj => ?_, fun j hj => ?_, fun j hj => ?_, ?_, ?_⟩
  · rw [mm_un (Or.inl (by decide)), upd_n (by omega)]; exact h1 j hj
  · rw [mm_un (Or.inl (by decide)), upd_n (by omega)]; exact h2 j hj
  · rw [mm_un (Or.inl (by decide)), upd_n (by omega)]; exact h3 j hj
  · by_cases c : j = f
    · subst c; rw [mm_uu, upd_s]
    · rw [mm_un (Or.inr c), upd_n (by omega)]; exact h4 j hj
  · rw [mm_un (Or.inl (by decide)), upd_n (by omega)]; exact h5
  · rw [mm_un (Or.inl (by decide)), upd_n (by omega)]; exact h6
theorem sp_D_save {I1 : mm_Is} (h : ∀ p, ¬ p = 13 → ¬ (15 ≤ p ∧ p < 45) → I1 p = I p) (x : sp_D I σ) : sp_D I1 σ := sp_D_c (fun p hp => h p (by omega) (by omega)) x
theorem sp_X_save {I1 : mm_Is} (h : ∀ p, ¬ p = 13 → ¬ (15 ≤ p ∧ p < 45) → I1 p = I p) (x : sp_X I m tx) : sp_X I1 m tx := sp_X_c (fun p hp => h p (by omega) (by omega)) x
-- show
theorem c_show_1 (h1 : ¬ sp_lt 4 x) : mm_TH 27 4 [.ref 0, .int x, .int y] g I 1 := by
  refine w_MT ?_
  show mm_W 27 0 [.ref 0, .int x, .int y, .null] [] _ _ _
  generalize hF : mm_TX _ _ _ = F
  refine w_st rfl rfl rfl trivial ?_
  refine w_k11 (c_isField) rfl ⟨rfl, by decide, by decide, by decide, Or.inr (Or.inl ⟨_, rfl⟩)⟩ (Nat.le_of_ble_eq_true rfl) trivial (Nat.le_of_ble_eq_true rfl) ?_  -- calls 44 cX4_isField
  refine w_b_ne rfl (fun z => absurd z (h1)) (fun _ => ?_)
  refine w_thr rfl (Nat.le_of_ble_eq_true rfl) ?_
  exact hF ▸ ⟨rfl, rfl, rfl⟩
theorem c_show_2 (h1 : sp_lt 4 x) (h2 : ¬ y = -1) (h3 : ¬ sp_lt 10 y) : mm_TH 27 4 [.ref 0, .int x, .int y] g I 2 := by
  refine w_MT ?_
  show mm_W 27 0 [.ref 0, .int x, .int y, .null] [] _ _ _
  generalize hF : mm_TX _ _ _ = F
  refine w_st rfl rfl rfl trivial ?_
  refine w_k11 (c_isField) rfl ⟨rfl, by decide, by decide, by decide, Or.inr (Or.inl ⟨_, rfl⟩)⟩ (Nat.le_of_ble_eq_true rfl) trivial (Nat.le_of_ble_eq_true rfl) ?_  -- calls 44 cX4_isField
  refine w_b_ne rfl (fun _ => ?_) (fun z => absurd (h1) z)
  refine w_st rfl rfl rfl trivial ?_
  refine w_st rfl rfl rfl trivial ?_
  refine w_v_eq rfl (fun z => by first | exact absurd z (h2) | exact absurd (h2) z) (fun _ => ?_)
  refine w_st rfl rfl rfl trivial ?_
  refine w_k11 (c_isDigit) rfl ⟨rfl, by decide, by decide, by decide, Or.inr (Or.inl ⟨_, rfl⟩)⟩ (Nat.le_of_ble_eq_true rfl) trivial (Nat.le_of_ble_eq_true rfl) ?_  -- calls 46 cX4_isDigit
  refine w_b_ne rfl (fun z => absurd z (h3)) (fun _ => ?_)
  refine w_thr rfl (Nat.le_of_ble_eq_true rfl) ?_
  exact hF ▸ ⟨rfl, rfl, rfl⟩
theorem c_show_3 (h : sp_D I σ) (hf : f < 4) (h2 : ¬ y = -1) (h3 : sp_lt 10 y) (h4 : ¬ sp_can (sp_R σ f) y) : mm_TH 27 4 [.ref 0, .int (nI f), .int y] g I 3 := by
  have hT : mm_T (45 + 4 * f) := mm_T_f hf
  refine w_MT ?_
  show mm_W 27 0 [.ref 0, .int (nI f), .int y, .null] [] _ _ _
  generalize hF : mm_TX _ _ _ = F
  refine w_st rfl rfl rfl trivial ?_
  refine w_k11 (c_isField) rfl ⟨rfl, by decide, by decide, by decide, Or.inr (Or.inl ⟨_, rfl⟩)⟩ (Nat.le_of_ble_eq_true rfl) trivial (Nat.le_of_ble_eq_true rfl) ?_  -- calls 44 cX4_isField
  refine w_b_ne rfl (fun _ => ?_) (fun z => absurd (⟨f, hf, rfl⟩) z)
  refine w_st rfl rfl rfl trivial ?_
  refine w_st rfl rfl rfl trivial ?_
  refine w_v_eq rfl (fun z => by first | exact absurd z (h2) | exact absurd (h2) z) (fun _ => ?_)
  refine w_st rfl rfl rfl trivial ?_
  refine w_k11 (c_isDigit) rfl ⟨rfl, by decide, by decide, by decide, Or.inr (Or.inl ⟨_, rfl⟩)⟩ (Nat.le_of_ble_eq_true rfl) trivial (Nat.le_of_ble_eq_true rfl) ?_  -- calls 46 cX4_isDigit
  refine w_b_ne rfl (fun _ => ?_) (fun z => absurd (h3) z)
  refine w_st rfl rfl rfl trivial ?_
  refine w_st rfl rfl rfl trivial ?_
  refine w_v_eq rfl (fun z => by first | exact absurd z (h2) | exact absurd (h2) z) (fun _ => ?_)
  refine w_st rfl rfl rfl trivial ?_
  refine w_gr (j := 6) rfl (mm_foc rfl) rfl (by decide) ?_
  refine w_st rfl rfl rfl trivial ?_
  refine w_ra (j := 45 + 4 * (f)) (f) rfl (Or.inl (mm_fac (n := 4) rfl)) (by first | rfl | assumption | (simp only [← nI_add, ← nI_mul]; rfl)) (by first | decide | omega) (mm_T_6 (by omega)) (by omega) ?_
  refine w_st rfl rfl rfl trivial ?_
  refine w_k21 (c_canShow hT (h.2 f hf)) rfl ⟨rfl, by decide, by decide, by decide, Or.inl ⟨_, rfl⟩⟩ (Nat.le_of_ble_eq_true rfl) (mm_T_o hT) (Nat.le_of_ble_eq_true rfl) ?_  -- calls 14 cX2_canShow
  refine w_b_ne rfl (fun z => absurd z (h4)) (fun _ => ?_)
  refine w_thr rfl (Nat.le_of_ble_eq_true rfl) ?_
  exact hF ▸ ⟨rfl, rfl, rfl⟩
theorem c_show (h : sp_C I σ n ps m tx) (hf : f < 4) (hy : y = -1 ∨ sp_can (sp_R σ f) y) : ∃ I', mm_M 27 4 [.ref 0, .int (nI f), .int y] g I (some (.int (σ (4 + f)))) I' ∧ (sp_C I' (upd σ (4 + f) y) (sp_sn n) (sp_sp n ps σ) m tx ∧ sp_cf I I') := by
  have hT : mm_T (45 + 4 * f) := mm_T_f hf
  obtain ⟨I1, hM, hH, hfr⟩ := c_save (g := g) h.1.1 h.2.1
  have hD1 := sp_D_save hfr h.1
  refine w_MX ?_
  show mm_W 27 0 [.ref 0, .int (nI f), .int y, .null] [] _ _ _
  generalize hF : mm_EQ _ _ _ = F
  refine w_st rfl rfl rfl trivial ?_
  refine w_k11 (c_isField) rfl ⟨rfl, by decide, by decide, by decide, Or.inr (Or.inl ⟨_, rfl⟩)⟩ (Nat.le_of_ble_eq_true rfl) trivial (Nat.le_of_ble_eq_true rfl) ?_  -- calls 44 cX4_isField
  refine w_b_ne rfl (fun _ => ?_) (fun z => absurd (⟨f, hf, rfl⟩) z)
  have K : mm_W 27 67 [.ref 0, .int (nI f), .int y, .null] [] g I F := by
    refine w_st rfl rfl rfl trivial ?_
    refine w_gr (j := 13) rfl (mm_foc rfl) rfl (by decide) ?_
    refine w_st rfl rfl rfl trivial ?_
    refine w_gr (j := 1) rfl (mm_foc rfl) rfl (by decide) ?_
    refine w_k20 (hM) rfl ⟨rfl, by decide, by decide, by decide, Or.inl ⟨_, rfl⟩⟩ (Nat.le_of_ble_eq_true rfl) (mm_foc rfl) (Nat.le_of_ble_eq_true rfl) ?_  -- calls 6 cX1_save
    refine w_st rfl rfl rfl trivial ?_
    refine w_gr (j := 1) rfl (mm_foc rfl) rfl (by decide) ?_
    refine w_gr (j := 2) rfl (mm_foc rfl) rfl (by decide) ?_
    refine w_st rfl rfl rfl trivial ?_
    refine w_ia (f) rfl (mm_fac (n := 4) rfl) (by first | rfl | assumption | (simp only [← nI_add, ← nI_mul]; rfl)) (by first | decide | omega) ?_
    rw [sp_Dd hD1 hf]
    refine w_st rfl rfl rfl (Nat.le_of_ble_eq_true rfl) ?_
    refine w_st rfl rfl rfl trivial ?_
    refine w_gr (j := 1) rfl (mm_foc rfl) rfl (by decide) ?_
    refine w_gr (j := 2) rfl (mm_foc rfl) rfl (by decide) ?_
    refine w_st rfl rfl rfl trivial ?_
    refine w_st rfl rfl rfl trivial ?_
    refine w_is (f) rfl (mm_fac (n := 4) rfl) (by first | rfl | assumption | (simp only [← nI_add, ← nI_mul]; rfl)) (by first | decide | omega) ?_
    refine w_st rfl rfl rfl trivial ?_
    refine w_reti rfl ?_
    subst hF
    refine ⟨rfl, rfl, ?_⟩
    refine ⟨⟨⟨sp_bd_d1 hD1.1 hf, fun e he d hd => ?_⟩, sp_H_c (fun p hp => va_up_ne _ _ (by omega)) hH, sp_X_c (fun p hp => va_up_ne _ _ (by omega)) (sp_X_save hfr h.2.2)⟩, fun p hp => ?_⟩
    · have := hD1.2 e he d hd
      rw [upd_n (by omega), upd_n (by omega)]
      unfold sp_te at this ⊢
      rw [va_up_ne _ _ (by omega), va_up_ne _ _ (by omega), va_up_ne _ _ (by omega)]
      exact this
    · rw [va_up_ne _ _ (by omega)]; exact hfr p (by omega) (by omega)
  rcases hy with rfl | hy
  · skip
    refine w_st rfl rfl rfl trivial ?_
    refine w_st rfl rfl rfl trivial ?_
    refine w_v_eq rfl (fun _ => ?_) (fun z => by first | exact absurd (rfl) z | exact absurd z (rfl))
    refine w_st rfl rfl rfl trivial ?_
    refine w_st rfl rfl rfl trivial ?_
    refine w_v_eq rfl (fun _ => ?_) (fun z => by first | exact absurd (rfl) z | exact absurd z (rfl))
    exact K
  · have h2 : ¬ y = -1 := by obtain ⟨d, hd, e, _⟩ := hy; rw [e]; exact nI_ne1 (by omega)
    have h3 : sp_lt 10 y := by obtain ⟨d, hd, e, _⟩ := hy; exact ⟨d, hd, e⟩
    refine w_st rfl rfl rfl trivial ?_
    refine w_st rfl rfl rfl trivial ?_
    refine w_v_eq rfl (fun z => by first | exact absurd z (h2) | exact absurd (h2) z) (fun _ => ?_)
    refine w_st rfl rfl rfl trivial ?_
    refine w_k11 (c_isDigit) rfl ⟨rfl, by decide, by decide, by decide, Or.inr (Or.inl ⟨_, rfl⟩)⟩ (Nat.le_of_ble_eq_true rfl) trivial (Nat.le_of_ble_eq_true rfl) ?_  -- calls 46 cX4_isDigit
    refine w_b_ne rfl (fun _ => ?_) (fun z => absurd (h3) z)
    refine w_st rfl rfl rfl trivial ?_
    refine w_st rfl rfl rfl trivial ?_
    refine w_v_eq rfl (fun z => by first | exact absurd z (h2) | exact absurd (h2) z) (fun _ => ?_)
    refine w_st rfl rfl rfl trivial ?_
    refine w_gr (j := 6) rfl (mm_foc rfl) rfl (by decide) ?_
    refine w_st rfl rfl rfl trivial ?_
    refine w_ra (j := 45 + 4 * (f)) (f) rfl (Or.inl (mm_fac (n := 4) rfl)) (by first | rfl | assumption | (simp only [← nI_add, ← nI_mul]; rfl)) (by first | decide | omega) (mm_T_6 (by omega)) (by omega) ?_
    refine w_st rfl rfl rfl trivial ?_
    refine w_k21 (c_canShow hT (h.1.2 f hf)) rfl ⟨rfl, by decide, by decide, by decide, Or.inl ⟨_, rfl⟩⟩ (Nat.le_of_ble_eq_true rfl) (mm_T_o hT) (Nat.le_of_ble_eq_true rfl) ?_  -- calls 14 cX2_canShow
    refine w_b_ne rfl (fun _ => ?_) (fun z => absurd (hy) z)
    exact K
-- set
theorem c_isValueOf (hk : k < 2) : mm_M 48 2 [.int (nI k), .int y] g I (some (.int (mm_bi ((k = 0 ∧ 1 ≤ y ∧ y ≤ 5) ∨ (k = 1 ∧ sp_lt 100 y))))) I := by
  refine w_M ?_
  show mm_W 48 0 [.int (nI k), .int y] [] _ _ _
  generalize hF : mm_EX _ _ _ = F
  refine w_st rfl rfl rfl trivial ?_
  refine w_m_ne (a := k) rfl (by first | decide | omega) (by first | rfl | assumption | (simp only [← nI_add, ← nI_mul]; rfl)) (fun c => ?_) (fun c => ?_)
  · skip
    refine w_st rfl rfl rfl trivial ?_
    refine w_z_lt rfl (fun c1 => ?_) (fun c1 => ?_)
    · skip
      refine w_st rfl rfl rfl trivial ?_
      refine w_retz rfl (by first | exact Or.inl rfl | exact Or.inr rfl | exact mm_bi_01 _ | assumption) ?_
      exact hF ▸ mm_EX_i ((mm_bi_f (fun z => z.elim (fun z => by omega) (fun z => sp_lt_n0 (by decide) c1 z.2))).symm)
    · skip
      refine w_st rfl rfl rfl trivial ?_
      refine w_st rfl rfl rfl trivial ?_
      refine w_v_gt rfl (fun c2 => ?_) (fun c2 => ?_)
      · skip
        refine w_st rfl rfl rfl trivial ?_
        refine w_retz rfl (by first | exact Or.inl rfl | exact Or.inr rfl | exact mm_bi_01 _ | assumption) ?_
        exact hF ▸ mm_EX_i ((mm_bi_f (fun z => z.elim (fun z => by omega) (fun z => absurd (sp_le_n (n := 99) (by decide) rfl z.2).2 (Int32.not_le.2 c2)))).symm)
      · skip
        refine w_st rfl rfl rfl trivial ?_
        refine w_st rfl rfl rfl trivial ?_
        refine w_retz rfl (by first | exact Or.inl rfl | exact Or.inr rfl | exact mm_bi_01 _ | assumption) ?_
        exact hF ▸ mm_EX_i ((mm_bi_t (Or.inr ⟨by omega, sp_le_i (n := 99) (by decide) rfl (Int32.not_lt.1 c1) (Int32.not_lt.1 c2)⟩)).symm)
  · skip
    refine w_st rfl rfl rfl trivial ?_
    refine w_st rfl rfl rfl trivial ?_
    refine w_v_lt rfl (fun c1 => ?_) (fun c1 => ?_)
    · skip
      refine w_st rfl rfl rfl trivial ?_
      refine w_retz rfl (by first | exact Or.inl rfl | exact Or.inr rfl | exact mm_bi_01 _ | assumption) ?_
      exact hF ▸ mm_EX_i ((mm_bi_f (fun z => z.elim (fun z => absurd z.2.1 (Int32.not_le.2 c1)) (fun z => by omega))).symm)
    · skip
      refine w_st rfl rfl rfl trivial ?_
      refine w_st rfl rfl rfl trivial ?_
      refine w_v_gt rfl (fun c2 => ?_) (fun c2 => ?_)
      · skip
        refine w_st rfl rfl rfl trivial ?_
        refine w_retz rfl (by first | exact Or.inl rfl | exact Or.inr rfl | exact mm_bi_01 _ | assumption) ?_
        exact hF ▸ mm_EX_i ((mm_bi_f (fun z => z.elim (fun z => absurd z.2.2 (Int32.not_le.2 c2)) (fun z => by omega))).symm)
      · skip
        refine w_st rfl rfl rfl trivial ?_
        refine w_st rfl rfl rfl trivial ?_
        refine w_retz rfl (by first | exact Or.inl rfl | exact Or.inr rfl | exact mm_bi_01 _ | assumption) ?_
        exact hF ▸ mm_EX_i ((mm_bi_t (Or.inl ⟨c, Int32.not_lt.1 c1, Int32.not_lt.1 c2⟩)).symm)
theorem c_set_1 (h1 : ¬ sp_lt 2 x) : mm_TH 32 4 [.ref 0, .int x, .int y] g I 1 := by
  refine w_MT ?_
  show mm_W 32 0 [.ref 0, .int x, .int y, .null] [] _ _ _
  generalize hF : mm_TX _ _ _ = F
  refine w_st rfl rfl rfl trivial ?_
  refine w_k11 (c_isSetting) rfl ⟨rfl, by decide, by decide, by decide, Or.inr (Or.inl ⟨_, rfl⟩)⟩ (Nat.le_of_ble_eq_true rfl) trivial (Nat.le_of_ble_eq_true rfl) ?_  -- calls 47 cX4_isSetting
  refine w_b_ne rfl (fun z => absurd z (h1)) (fun _ => ?_)
  refine w_thr rfl (Nat.le_of_ble_eq_true rfl) ?_
  exact hF ▸ ⟨rfl, rfl, rfl⟩
theorem c_set_2 (hk : k < 2) (h2 : ¬ ((k = 0 ∧ 1 ≤ y ∧ y ≤ 5) ∨ (k = 1 ∧ sp_lt 100 y))) : mm_TH 32 4 [.ref 0, .int (nI k), .int y] g I 2 := by
  refine w_MT ?_
  show mm_W 32 0 [.ref 0, .int (nI k), .int y, .null] [] _ _ _
  generalize hF : mm_TX _ _ _ = F
  refine w_st rfl rfl rfl trivial ?_
  refine w_k11 (c_isSetting) rfl ⟨rfl, by decide, by decide, by decide, Or.inr (Or.inl ⟨_, rfl⟩)⟩ (Nat.le_of_ble_eq_true rfl) trivial (Nat.le_of_ble_eq_true rfl) ?_  -- calls 47 cX4_isSetting
  refine w_b_ne rfl (fun _ => ?_) (fun z => absurd (⟨k, hk, rfl⟩) z)
  refine w_st rfl rfl rfl trivial ?_
  refine w_st rfl rfl rfl trivial ?_
  refine w_k21 (c_isValueOf hk) rfl ⟨rfl, by decide, by decide, by decide, Or.inr (Or.inl ⟨_, rfl⟩)⟩ (Nat.le_of_ble_eq_true rfl) trivial (Nat.le_of_ble_eq_true rfl) ?_  -- calls 48 cX4_isValueOf
  refine w_b_ne rfl (fun z => absurd z (h2)) (fun _ => ?_)
  refine w_thr rfl (Nat.le_of_ble_eq_true rfl) ?_
  exact hF ▸ ⟨rfl, rfl, rfl⟩
theorem c_set (h : sp_C I σ n ps m tx) (hk : k < 2) (h2 : (k = 0 ∧ 1 ≤ y ∧ y ≤ 5) ∨ (k = 1 ∧ sp_lt 100 y)) : ∃ I', mm_M 32 4 [.ref 0, .int (nI k), .int y] g I (some (.int (σ (1 + k)))) I' ∧ (sp_C I' (upd σ (1 + k) y) (sp_sn n) (sp_sp n ps σ) m tx ∧ sp_cf I I') := by
  obtain ⟨I1, hM, hH, hfr⟩ := c_save (g := g) h.1.1 h.2.1
  have hD1 := sp_D_save hfr h.1
  obtain ⟨I2, hM2, hD2, hfr2⟩ := c_chooseAll (g := g) (I := va_up I1 5 (upd (I1 5) k y)) (sp_bd_s1 hD1.1 hk)
  refine w_MX ?_
  show mm_W 32 0 [.ref 0, .int (nI k), .int y, .null] [] _ _ _
  generalize hF : mm_EQ _ _ _ = F
  refine w_st rfl rfl rfl trivial ?_
  refine w_k11 (c_isSetting) rfl ⟨rfl, by decide, by decide, by decide, Or.inr (Or.inl ⟨_, rfl⟩)⟩ (Nat.le_of_ble_eq_true rfl) trivial (Nat.le_of_ble_eq_true rfl) ?_  -- calls 47 cX4_isSetting
  refine w_b_ne rfl (fun _ => ?_) (fun z => absurd (⟨k, hk, rfl⟩) z)
  refine w_st rfl rfl rfl trivial ?_
  refine w_st rfl rfl rfl trivial ?_
  refine w_k21 (c_isValueOf hk) rfl ⟨rfl, by decide, by decide, by decide, Or.inr (Or.inl ⟨_, rfl⟩)⟩ (Nat.le_of_ble_eq_true rfl) trivial (Nat.le_of_ble_eq_true rfl) ?_  -- calls 48 cX4_isValueOf
  refine w_b_ne rfl (fun _ => ?_) (fun z => absurd (h2) z)
  refine w_st rfl rfl rfl trivial ?_
  refine w_gr (j := 13) rfl (mm_foc rfl) rfl (by decide) ?_
  refine w_st rfl rfl rfl trivial ?_
  refine w_gr (j := 1) rfl (mm_foc rfl) rfl (by decide) ?_
  refine w_k20 (hM) rfl ⟨rfl, by decide, by decide, by decide, Or.inl ⟨_, rfl⟩⟩ (Nat.le_of_ble_eq_true rfl) (mm_foc rfl) (Nat.le_of_ble_eq_true rfl) ?_  -- calls 6 cX1_save
  refine w_st rfl rfl rfl trivial ?_
  refine w_gr (j := 1) rfl (mm_foc rfl) rfl (by decide) ?_
  refine w_gr (j := 5) rfl (mm_foc rfl) rfl (by decide) ?_
  refine w_st rfl rfl rfl trivial ?_
  refine w_ia (k) rfl (mm_fac (n := 2) rfl) (by first | rfl | assumption | (simp only [← nI_add, ← nI_mul]; rfl)) (by first | decide | omega) ?_
  rw [sp_Ds hD1 hk]
  refine w_st rfl rfl rfl (Nat.le_of_ble_eq_true rfl) ?_
  refine w_st rfl rfl rfl trivial ?_
  refine w_gr (j := 1) rfl (mm_foc rfl) rfl (by decide) ?_
  refine w_gr (j := 5) rfl (mm_foc rfl) rfl (by decide) ?_
  refine w_st rfl rfl rfl trivial ?_
  refine w_st rfl rfl rfl trivial ?_
  refine w_is (k) rfl (mm_fac (n := 2) rfl) (by first | rfl | assumption | (simp only [← nI_add, ← nI_mul]; rfl)) (by first | decide | omega) ?_
  refine w_st rfl rfl rfl trivial ?_
  refine w_k10 (hM2) rfl ⟨rfl, by decide, by decide, by decide, Or.inl ⟨_, rfl⟩⟩ (Nat.le_of_ble_eq_true rfl) (mm_foc rfl) (Nat.le_of_ble_eq_true rfl) ?_  -- calls 54 cX4_chooseAllTables
  refine w_st rfl rfl rfl trivial ?_
  refine w_reti rfl ?_
  subst hF
  refine ⟨rfl, rfl, ?_⟩
  refine ⟨⟨hD2, sp_H_c (fun p hp => ?_) hH, sp_X_c (fun p hp => ?_) (sp_X_save hfr h.2.2)⟩, fun p hp => ?_⟩
  · rw [hfr2 p (by omega), va_up_ne _ _ (by omega)]
  · rw [hfr2 p (by omega), va_up_ne _ _ (by omega)]
  · rw [hfr2 p (by omega), va_up_ne _ _ (by omega)]; exact hfr p (by omega) (by omega)
-- undo
theorem c_undo_1 (h : I 13 2 = nI 0) : mm_TH 33 1 [.ref 0] g I 3 := by
  refine w_MT ?_
  show mm_W 33 0 [.ref 0] [] _ _ _
  generalize hF : mm_TX _ _ _ = F
  refine w_st rfl rfl rfl trivial ?_
  refine w_gr (j := 13) rfl (mm_foc rfl) rfl (by decide) ?_
  refine w_gi rfl (mm_foc rfl) ?_
  rw [h]
  refine w_m_ne (a := 0) rfl (by first | decide | omega) (by first | rfl | assumption | (simp only [← nI_add, ← nI_mul]; rfl)) (fun c => by exfalso; omega) (fun _ => ?_)
  refine w_thr rfl (Nat.le_of_ble_eq_true rfl) ?_
  exact hF ▸ ⟨rfl, rfl, rfl⟩
theorem c_undo (h : sp_C I σ (n + 1) ps m tx) : ∃ I', mm_M 33 1 [.ref 0] g I (some (.int (nI n))) I' ∧ (sp_C I' (ps n) n ps m tx ∧ sp_cf I I') := by
  obtain ⟨I1, hM, hH, hb, hfr⟩ := c_restore (g := g) h.2.1
  obtain ⟨I2, hM2, hD2, hfr2⟩ := c_chooseAll (g := g) (I := I1) hb
  have hH2 : sp_H I2 n ps := sp_H_c (fun p hp => hfr2 p (by omega)) hH
  have hn6 : n + 1 ≤ 6 := h.2.1.2.1
  refine w_MX ?_
  show mm_W 33 0 [.ref 0] [] _ _ _
  generalize hF : mm_EQ _ _ _ = F
  refine w_st rfl rfl rfl trivial ?_
  refine w_gr (j := 13) rfl (mm_foc rfl) rfl (by decide) ?_
  refine w_gi rfl (mm_foc rfl) ?_
  rw [h.2.1.1]
  refine w_m_ne (a := n + 1) rfl (by first | decide | omega) (by first | rfl | assumption | (simp only [← nI_add, ← nI_mul]; rfl)) (fun _ => ?_) (fun c => by exfalso; omega)
  refine w_st rfl rfl rfl trivial ?_
  refine w_gr (j := 13) rfl (mm_foc rfl) rfl (by decide) ?_
  refine w_st rfl rfl rfl trivial ?_
  refine w_gr (j := 1) rfl (mm_foc rfl) rfl (by decide) ?_
  refine w_k20 (hM) rfl ⟨rfl, by decide, by decide, by decide, Or.inl ⟨_, rfl⟩⟩ (Nat.le_of_ble_eq_true rfl) (mm_foc rfl) (Nat.le_of_ble_eq_true rfl) ?_  -- calls 7 cX1_restore
  refine w_st rfl rfl rfl trivial ?_
  refine w_k10 (hM2) rfl ⟨rfl, by decide, by decide, by decide, Or.inl ⟨_, rfl⟩⟩ (Nat.le_of_ble_eq_true rfl) (mm_foc rfl) (Nat.le_of_ble_eq_true rfl) ?_  -- calls 54 cX4_chooseAllTables
  refine w_st rfl rfl rfl trivial ?_
  refine w_gr (j := 13) rfl (mm_foc rfl) rfl (by decide) ?_
  refine w_gi rfl (mm_foc rfl) ?_
  rw [hH2.1]
  refine w_reti rfl ?_
  subst hF
  refine ⟨rfl, rfl, ?_⟩
  refine ⟨⟨hD2, hH2, sp_X_c (fun p hp => ?_) h.2.2⟩, fun p hp => ?_⟩
  · rw [hfr2 p (by omega), hfr p (by omega) (by unfold sp_in5; omega)]
  · rw [hfr2 p (by omega), hfr p (by omega) (by unfold sp_in5; omega)]
-- lamp
theorem c_lamp_1 (h1 : ¬ (sp_lt 4 x ∧ sp_lt 15 y)) : mm_TH 29 5 [.ref 0, .int x, .int y, .int z] g I 1 := by
  refine w_MT ?_
  show mm_W 29 0 [.ref 0, .int x, .int y, .int z, .null] [] _ _ _
  generalize hF : mm_TX _ _ _ = F
  refine w_st rfl rfl rfl trivial ?_
  refine w_k11 (c_isField) rfl ⟨rfl, by decide, by decide, by decide, Or.inr (Or.inl ⟨_, rfl⟩)⟩ (Nat.le_of_ble_eq_true rfl) trivial (Nat.le_of_ble_eq_true rfl) ?_  -- calls 44 cX4_isField
  refine w_b_eq rfl (fun c => ?_) (fun c => ?_)
  · skip
    refine w_thr rfl (Nat.le_of_ble_eq_true rfl) ?_
    exact hF ▸ ⟨rfl, rfl, rfl⟩
  · skip
    refine w_st rfl rfl rfl trivial ?_
    refine w_k11 (c_isLamp) rfl ⟨rfl, by decide, by decide, by decide, Or.inr (Or.inl ⟨_, rfl⟩)⟩ (Nat.le_of_ble_eq_true rfl) trivial (Nat.le_of_ble_eq_true rfl) ?_  -- calls 45 cX4_isLamp
    refine w_b_ne rfl (fun z => absurd z (fun z => h1 ⟨c, z⟩)) (fun _ => ?_)
    refine w_thr rfl (Nat.le_of_ble_eq_true rfl) ?_
    exact hF ▸ ⟨rfl, rfl, rfl⟩
theorem sp_set_o {q : Bool} {j : Nat} (hj : ¬ j = 8 + f) (h12 : j < 12) : sp_set σ f l q j = σ j := by
  cases q
  · show upd (upd σ (8 + f) _) (12 + (15 * f + l)) 0 j = _
    rw [upd_n (by omega), upd_n hj]
  · show upd σ (8 + f) _ j = _
    rw [upd_n hj]
theorem c_lamp (h : sp_C I σ n ps m tx) (hf : f < 4) (hl : l < 15) (q : Bool) : ∃ I', mm_M 29 5 [.ref 0, .int (nI f), .int (nI l), .int (sp_q q)] g I (some (.int (nI (sp_cg (sp_R (sp_set σ f l q) f) (sp_R σ f) 10)))) I' ∧ (sp_C I' (sp_set σ f l q) (sp_sn n) (sp_sp n ps σ) m tx ∧ sp_cf I I') := by
  have hT : mm_T (45 + 4 * f) := mm_T_f hf
  have hU : mm_T 7 := Or.inl rfl
  obtain ⟨I1, hM, hH, hfr⟩ := c_save (g := g) h.1.1 h.2.1
  have hD1 := sp_D_save hfr h.1
  obtain ⟨I2, hM2, hb2, hfr2⟩ : ∃ I', mm_M 2 4 [.ref 1, .int (nI f), .int (nI l), .int (sp_q q)] g I1 none I' ∧ (sp_bd I' 1 (sp_set σ f l q) ∧ ∀ p, ¬ p = 3 → ¬ p = 4 → I' p = I1 p) := by
    cases q
    · exact c_setLamp_f hD1.1 hf hl
    · exact c_setLamp_t hD1.1 hf hl
  obtain ⟨I3, hM3, ht3, hfr3⟩ := c_choose (g := g) (I := I2) (b := sp_set σ f l q (8 + f)) (s := sp_set σ f l q 1) hU
  have hb3 : sp_bd I3 1 (sp_set σ f l q) := sp_bd_c (fun p hp => hfr3 p (by unfold sp_in5 at hp; omega) (by unfold sp_in5 at hp; omega) (by unfold sp_in5 at hp; omega)) hb2
  have tt3 : ∀ e, e < 4 → sp_tt I3 (45 + 4 * e) (σ (8 + e)) (σ 1) := by
    intro e he d hd
    have := hD1.2 e he d hd
    unfold sp_te at this ⊢
    rw [hfr3 _ (by omega) (by omega) (by omega), hfr3 _ (by omega) (by omega) (by omega), hfr3 _ (by omega) (by omega) (by omega), hfr2 _ (by omega) (by omega), hfr2 _ (by omega) (by omega), hfr2 _ (by omega) (by omega)]
    exact this
  obtain ⟨I4, hM4, ht4, hfr4⟩ := c_chooseTable (g := g) hb3 hf
  refine w_MX ?_
  show mm_W 29 0 [.ref 0, .int (nI f), .int (nI l), .int (sp_q q), .null] [] _ _ _
  generalize hF : mm_EQ _ _ _ = F
  refine w_st rfl rfl rfl trivial ?_
  refine w_k11 (c_isField) rfl ⟨rfl, by decide, by decide, by decide, Or.inr (Or.inl ⟨_, rfl⟩)⟩ (Nat.le_of_ble_eq_true rfl) trivial (Nat.le_of_ble_eq_true rfl) ?_  -- calls 44 cX4_isField
  refine w_b_eq rfl (fun z => absurd (⟨f, hf, rfl⟩) z) (fun _ => ?_)
  refine w_st rfl rfl rfl trivial ?_
  refine w_k11 (c_isLamp) rfl ⟨rfl, by decide, by decide, by decide, Or.inr (Or.inl ⟨_, rfl⟩)⟩ (Nat.le_of_ble_eq_true rfl) trivial (Nat.le_of_ble_eq_true rfl) ?_  -- calls 45 cX4_isLamp
  refine w_b_ne rfl (fun _ => ?_) (fun z => absurd (⟨l, hl, rfl⟩) z)
  refine w_st rfl rfl rfl trivial ?_
  refine w_gr (j := 13) rfl (mm_foc rfl) rfl (by decide) ?_
  refine w_st rfl rfl rfl trivial ?_
  refine w_gr (j := 1) rfl (mm_foc rfl) rfl (by decide) ?_
  refine w_k20 (hM) rfl ⟨rfl, by decide, by decide, by decide, Or.inl ⟨_, rfl⟩⟩ (Nat.le_of_ble_eq_true rfl) (mm_foc rfl) (Nat.le_of_ble_eq_true rfl) ?_  -- calls 6 cX1_save
  refine w_st rfl rfl rfl trivial ?_
  refine w_gr (j := 1) rfl (mm_foc rfl) rfl (by decide) ?_
  refine w_st rfl rfl rfl trivial ?_
  refine w_st rfl rfl rfl trivial ?_
  refine w_st rfl rfl rfl trivial ?_
  refine w_k40 (hM2) rfl ⟨rfl, by decide, by decide, by decide, Or.inl ⟨_, rfl⟩⟩ (Nat.le_of_ble_eq_true rfl) (mm_foc rfl) (Nat.le_of_ble_eq_true rfl) ?_  -- calls 2 cX0_setLamp
  refine w_st rfl rfl rfl trivial ?_
  refine w_gr (j := 7) rfl (mm_foc rfl) rfl (by decide) ?_
  refine w_st rfl rfl rfl trivial ?_
  refine w_gr (j := 1) rfl (mm_foc rfl) rfl (by decide) ?_
  refine w_gr (j := 3) rfl (mm_foc rfl) rfl (by decide) ?_
  refine w_st rfl rfl rfl trivial ?_
  refine w_ia (f) rfl (mm_fac (n := 4) rfl) (by first | rfl | assumption | (simp only [← nI_add, ← nI_mul]; rfl)) (by first | decide | omega) ?_
  rw [show I2 3 f = sp_set σ f l q (8 + f) from hb2.2.1 f hf]
  refine w_st rfl rfl rfl trivial ?_
  refine w_gr (j := 1) rfl (mm_foc rfl) rfl (by decide) ?_
  refine w_gr (j := 5) rfl (mm_foc rfl) rfl (by decide) ?_
  refine w_st rfl rfl rfl trivial ?_
  refine w_ia (0) rfl (mm_fac (n := 2) rfl) (by first | rfl | assumption | (simp only [← nI_add, ← nI_mul]; rfl)) (by first | decide | omega) ?_
  rw [show I2 5 0 = sp_set σ f l q 1 from hb2.2.2.2.1 0 (by decide)]
  refine w_k30 (hM3) rfl ⟨rfl, by decide, by decide, by decide, Or.inl ⟨_, rfl⟩⟩ (Nat.le_of_ble_eq_true rfl) (mm_foc rfl) (Nat.le_of_ble_eq_true rfl) ?_  -- calls 10 cX2_choose
  refine w_st rfl rfl rfl trivial ?_
  refine w_gr (j := 7) rfl (mm_foc rfl) rfl (by decide) ?_
  refine w_st rfl rfl rfl trivial ?_
  refine w_gr (j := 6) rfl (mm_foc rfl) rfl (by decide) ?_
  refine w_st rfl rfl rfl trivial ?_
  refine w_ra (j := 45 + 4 * (f)) (f) rfl (Or.inl (mm_fac (n := 4) rfl)) (by first | rfl | assumption | (simp only [← nI_add, ← nI_mul]; rfl)) (by first | decide | omega) (mm_T_6 (by omega)) (by omega) ?_
  refine w_k21 (c_changesFrom hU hT ht3 (tt3 f hf)) rfl ⟨rfl, by decide, by decide, by decide, Or.inl ⟨_, rfl⟩⟩ (Nat.le_of_ble_eq_true rfl) (mm_foc rfl) (Nat.le_of_ble_eq_true rfl) ?_  -- calls 23 cX2_changesFrom
  refine w_st rfl rfl rfl (Nat.le_of_ble_eq_true rfl) ?_
  refine w_st rfl rfl rfl trivial ?_
  refine w_st rfl rfl rfl trivial ?_
  refine w_k20 (hM4) rfl ⟨rfl, by decide, by decide, by decide, Or.inl ⟨_, rfl⟩⟩ (Nat.le_of_ble_eq_true rfl) (mm_foc rfl) (Nat.le_of_ble_eq_true rfl) ?_  -- calls 53 cX4_chooseTable
  refine w_st rfl rfl rfl trivial ?_
  refine w_reti rfl ?_
  subst hF
  refine ⟨rfl, rfl, ?_⟩
  have fr : ∀ p, ¬ (8 ≤ p ∧ p < 11) → ¬ (45 ≤ p ∧ p < 61) → ¬ p = 3 → ¬ p = 4 → I4 p = I1 p := fun p a1 a2 a3 a4 => by
    rw [hfr4 p (by omega) (by omega) (by omega), hfr3 p (by omega) (by omega) (by omega), hfr2 p a3 a4]
  refine ⟨⟨⟨sp_bd_c (fun p hp => hfr4 p (by unfold sp_in5 at hp; omega) (by unfold sp_in5 at hp; omega) (by unfold sp_in5 at hp; omega)) hb3, fun e he => ?_⟩, sp_H_c (fun p hp => fr p (by omega) (by omega) (by omega) (by omega)) hH, sp_X_c (fun p hp => fr p (by omega) (by omega) (by omega) (by omega)) (sp_X_save hfr h.2.2)⟩, fun p hp => ?_⟩
  · by_cases c : e = f
    · subst c; exact ht4
    · intro d hd
      have := tt3 e he d hd
      rw [sp_set_o (by omega) (by omega), sp_set_o (by omega) (by omega)]
      unfold sp_te at this ⊢
      rw [hfr4 _ (by omega) (by omega) (by omega), hfr4 _ (by omega) (by omega) (by omega), hfr4 _ (by omega) (by omega) (by omega)]
      exact this
  · rw [fr p (by omega) (by omega) (by omega) (by omega)]; exact hfr p (by omega) (by omega)
-- mend
def sp_md (σ : sp_St) (f : Nat) : Nat → sp_St
  | 0 => σ
  | l + 1 => sp_set (sp_md σ f l) f l false
theorem sp_md_o {j : Nat} (hj : ¬ j = 8 + f) (h12 : j < 12) (k : Nat) : sp_md σ f k j = σ j := by
  induction k with
  | zero => rfl
  | succ k ih => show sp_set (sp_md σ f k) f k false j = _; rw [sp_set_o hj h12, ih]
theorem c_mend_1 (h1 : ¬ sp_lt 4 x) : mm_TH 30 4 [.ref 0, .int x] g I 1 := by
  refine w_MT ?_
  show mm_W 30 0 [.ref 0, .int x, .null, .null] [] _ _ _
  generalize hF : mm_TX _ _ _ = F
  refine w_st rfl rfl rfl trivial ?_
  refine w_k11 (c_isField) rfl ⟨rfl, by decide, by decide, by decide, Or.inr (Or.inl ⟨_, rfl⟩)⟩ (Nat.le_of_ble_eq_true rfl) trivial (Nat.le_of_ble_eq_true rfl) ?_  -- calls 44 cX4_isField
  refine w_b_ne rfl (fun z => absurd z (h1)) (fun _ => ?_)
  refine w_thr rfl (Nat.le_of_ble_eq_true rfl) ?_
  exact hF ▸ ⟨rfl, rfl, rfl⟩
theorem c_mend (h : sp_C I σ n ps m tx) (hf : f < 4) : ∃ I', mm_M 30 4 [.ref 0, .int (nI f)] g I (some (.int (sp_pop (σ (8 + f))))) I' ∧ (sp_C I' (sp_md σ f 15) (sp_sn n) (sp_sp n ps σ) m tx ∧ sp_cf I I') := by
  obtain ⟨I1, hM, hH, hfr⟩ := c_save (g := g) h.1.1 h.2.1
  have hD1 := sp_D_save hfr h.1
  refine w_MX ?_
  show mm_W 30 0 [.ref 0, .int (nI f), .null, .null] [] _ _ _
  generalize hF : mm_EQ _ _ _ = F
  refine w_st rfl rfl rfl trivial ?_
  refine w_k11 (c_isField) rfl ⟨rfl, by decide, by decide, by decide, Or.inr (Or.inl ⟨_, rfl⟩)⟩ (Nat.le_of_ble_eq_true rfl) trivial (Nat.le_of_ble_eq_true rfl) ?_  -- calls 44 cX4_isField
  refine w_b_ne rfl (fun _ => ?_) (fun z => absurd (⟨f, hf, rfl⟩) z)
  refine w_st rfl rfl rfl trivial ?_
  refine w_gr (j := 13) rfl (mm_foc rfl) rfl (by decide) ?_
  refine w_st rfl rfl rfl trivial ?_
  refine w_gr (j := 1) rfl (mm_foc rfl) rfl (by decide) ?_
  refine w_k20 (hM) rfl ⟨rfl, by decide, by decide, by decide, Or.inl ⟨_, rfl⟩⟩ (Nat.le_of_ble_eq_true rfl) (mm_foc rfl) (Nat.le_of_ble_eq_true rfl) ?_  -- calls 6 cX1_save
  refine w_st rfl rfl rfl trivial ?_
  refine w_gr (j := 1) rfl (mm_foc rfl) rfl (by decide) ?_
  refine w_gr (j := 3) rfl (mm_foc rfl) rfl (by decide) ?_
  refine w_st rfl rfl rfl trivial ?_
  refine w_ia (f) rfl (mm_fac (n := 4) rfl) (by first | rfl | assumption | (simp only [← nI_add, ← nI_mul]; rfl)) (by first | decide | omega) ?_
  rw [sp_Db hD1 hf]
  refine w_k11 (c_bitCount) rfl ⟨rfl, by decide, by decide, by decide, Or.inr (Or.inl ⟨_, rfl⟩)⟩ (Nat.le_of_ble_eq_true rfl) trivial (Nat.le_of_ble_eq_true rfl) ?_  -- calls 67 cJ6_bitCount_0f7a4
  refine w_st rfl rfl rfl (Nat.le_of_ble_eq_true rfl) ?_
  refine w_st rfl rfl rfl trivial ?_
  refine w_st rfl rfl rfl (Nat.le_of_ble_eq_true rfl) ?_
  have K : ∀ l, l ≤ 15 → ∀ I2, (sp_bd I2 1 (sp_md σ f l) ∧ ∀ p, ¬ p = 3 → ¬ p = 4 → I2 p = I1 p) → mm_W 30 43 [.ref 0, .int (nI f), .int (sp_pop (σ (8 + f))), .int (nI l)] [] g I2 F := by
    refine mm_dn 15 ?_ ?_
    · intro I2 hI
      obtain ⟨I4, hM4, ht4, hfr4⟩ := c_chooseTable (g := g) hI.1 hf
      refine w_st rfl rfl rfl trivial ?_
      refine w_st rfl rfl rfl trivial ?_
      refine w_n_ge (a := 15) (b := 15) rfl (by first | decide | omega) (by first | decide | omega) (by first | rfl | assumption | (simp only [← nI_add, ← nI_mul]; rfl)) (by first | rfl | assumption | (simp only [← nI_add, ← nI_mul]; rfl)) (fun _ => ?_) (fun c => by exfalso; omega)
      refine w_st rfl rfl rfl trivial ?_
      refine w_st rfl rfl rfl trivial ?_
      refine w_k20 (hM4) rfl ⟨rfl, by decide, by decide, by decide, Or.inl ⟨_, rfl⟩⟩ (Nat.le_of_ble_eq_true rfl) (mm_foc rfl) (Nat.le_of_ble_eq_true rfl) ?_  -- calls 53 cX4_chooseTable
      refine w_st rfl rfl rfl trivial ?_
      refine w_reti rfl ?_
      subst hF
      refine ⟨rfl, rfl, ?_⟩
      have fr : ∀ p, ¬ (45 ≤ p ∧ p < 61) → ¬ p = 3 → ¬ p = 4 → I4 p = I1 p := fun p a2 a3 a4 => by
        rw [hfr4 p (by omega) (by omega) (by omega), hI.2 p a3 a4]
      refine ⟨⟨⟨sp_bd_c (fun p hp => hfr4 p (by unfold sp_in5 at hp; omega) (by unfold sp_in5 at hp; omega) (by unfold sp_in5 at hp; omega)) hI.1, fun e he => ?_⟩, sp_H_c (fun p hp => fr p (by omega) (by omega) (by omega)) hH, sp_X_c (fun p hp => fr p (by omega) (by omega) (by omega)) (sp_X_save hfr h.2.2)⟩, fun p hp => ?_⟩
      · by_cases c : e = f
        · subst c; exact ht4
        · intro d hd
          have := hD1.2 e he d hd
          rw [sp_md_o (by omega) (by omega), sp_md_o (by omega) (by omega)]
          unfold sp_te at this ⊢
          rw [hfr4 _ (by omega) (by omega) (by omega), hfr4 _ (by omega) (by omega) (by omega), hfr4 _ (by omega) (by omega) (by omega), hI.2 _ (by omega) (by omega), hI.2 _ (by omega) (by omega), hI.2 _ (by omega) (by omega)]
          exact this
      · rw [fr p (by omega) (by omega) (by omega)]; exact hfr p (by omega) (by omega)
    · intro l hl ih I2 hI
      obtain ⟨I3, hM3, hb3, hfr3⟩ := c_setLamp_f (g := g) hI.1 hf hl
      refine w_st rfl rfl rfl trivial ?_
      refine w_st rfl rfl rfl trivial ?_
      refine w_n_ge (a := l) (b := 15) rfl (by first | decide | omega) (by first | decide | omega) (by first | rfl | assumption | (simp only [← nI_add, ← nI_mul]; rfl)) (by first | rfl | assumption | (simp only [← nI_add, ← nI_mul]; rfl)) (fun c => by exfalso; omega) (fun _ => ?_)
      refine w_st rfl rfl rfl trivial ?_
      refine w_gr (j := 1) rfl (mm_foc rfl) rfl (by decide) ?_
      refine w_st rfl rfl rfl trivial ?_
      refine w_st rfl rfl rfl trivial ?_
      refine w_st rfl rfl rfl trivial ?_
      refine w_k40 (hM3) rfl ⟨rfl, by decide, by decide, by decide, Or.inl ⟨_, rfl⟩⟩ (Nat.le_of_ble_eq_true rfl) (mm_foc rfl) (Nat.le_of_ble_eq_true rfl) ?_  -- calls 2 cX0_setLamp
      refine w_inc rfl rfl rfl (Nat.le_of_ble_eq_true rfl) (nI_1 _) ?_
      refine w_st rfl rfl rfl trivial ?_
      exact ih I3 ⟨hb3, fun p a c => by rw [hfr3 p a c]; exact hI.2 p a c⟩
  exact K 0 (by decide) I1 ⟨hD1.1, fun _ _ _ => rfl⟩
end SM
