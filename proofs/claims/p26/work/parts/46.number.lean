/-! number, on both sides -/
noncomputable def sp_da (N f : Nat) : Int32 := sp_if (0 < N / 10 ^ (3 - f) ∨ f = 3) (nI (N / 10 ^ (3 - f) % 10)) (-1)
theorem sp_da_k (N f : Nat) : sp_da N f = -1 ∨ ∃ d, d < 10 ∧ sp_da N f = nI d := by
  unfold sp_da
  by_cases c : 0 < N / 10 ^ (3 - f) ∨ f = 3
  · rw [sp_if_t c]; exact Or.inr ⟨_, Nat.mod_lt _ (by decide), rfl⟩
  · rw [sp_if_f c]; exact Or.inl rfl
def sp_nok (σ : sp_St) (N k : Nat) : Prop := ∀ f, f < k → sp_da N f = -1 ∨ sp_can (sp_R σ f) (sp_da N f)
noncomputable def sp_nu (σ : sp_St) (N : Nat) : Nat → sp_St
  | 0 => σ
  | k + 1 => upd (sp_nu σ N k) (4 + k) (sp_da N k)
theorem sp_nu_o {σ : sp_St} {N j : Nat} (k : Nat) (hj : j < 4 ∨ 4 + k ≤ j) : sp_nu σ N k j = σ j := by
  induction k with
  | zero => rfl
  | succ k ih => show upd (sp_nu σ N k) (4 + k) _ j = _; rw [upd_n (by omega), ih (by omega)]
theorem sp_nu_d {σ : sp_St} {N f : Nat} (k : Nat) (hf : f < k) : sp_nu σ N k (4 + f) = sp_da N f := by
  induction k with
  | zero => omega
  | succ k ih =>
    show upd (sp_nu σ N k) (4 + k) _ (4 + f) = _
    by_cases c : f = k
    · subst c; rw [upd_s]
    · rw [upd_n (by omega), ih (by omega)]
theorem sp_ok_nu {σ : sp_St} {N : Nat} (ok : sp_ok σ) : sp_ok (sp_nu σ N 4) := by
  obtain ⟨o1, o2, o3, o4, n, o5, o6, o7⟩ := ok
  refine ⟨fun e he => ?_, fun e he => ?_, ?_, ?_, n, o5, ?_, fun j hj => ?_⟩
  · rw [sp_nu_d 4 he]; exact sp_da_k N e
  · rw [sp_nu_o 4 (by omega)]; exact o2 e he
  · rw [sp_nu_o 4 (by omega)]; exact o3
  · rw [sp_nu_o 4 (by omega)]; exact o4
  · rw [sp_nu_o 4 (by omega)]; exact o6
  · rw [sp_nu_o 4 (by omega)]; exact o7 j hj
section SM
variable {g : mm_Gg} {I : mm_Is} {x y z : Int32} {l d k t u f w n b o m N : Nat} {σ τ : sp_St} {ps : Nat → sp_St} {tx : Nat → Int32}
theorem c_digitAt (hN : N < 10000) (hf : f < 4) : mm_M 51 4 [.int (nI N), .int (nI f)] g I (some (.int (sp_da N f))) I := by
  have hb : ∀ j, N / 10 ^ j < 10000 := fun j => Nat.lt_of_le_of_lt (Nat.div_le_self _ _) hN
  refine w_M ?_
  show mm_W 51 0 [.int (nI N), .int (nI f), .null, .null] [] _ _ _
  generalize hF : mm_EX _ _ _ = F
  refine w_st rfl rfl rfl trivial ?_
  refine w_st rfl rfl rfl (Nat.le_of_ble_eq_true rfl) ?_
  refine w_st rfl rfl rfl trivial ?_
  refine w_st rfl rfl rfl (Nat.le_of_ble_eq_true rfl) ?_
  have K : ∀ j, j ≤ 3 - f → mm_W 51 4 [.int (nI N), .int (nI f), .int (nI (N / 10 ^ j)), .int (nI (3 - j))] [] g I F := by
    refine mm_dn (3 - f) ?_ ?_
    · have hb' := hb (3 - f)
      unfold sp_da at hF
      generalize N / 10 ^ (3 - f) = X at *
      refine w_st rfl rfl rfl trivial ?_
      refine w_st rfl rfl rfl trivial ?_
      refine w_n_le (a := 3 - (3 - f)) (b := f) rfl (by first | decide | omega) (by first | decide | omega) (by first | rfl | assumption | (simp only [← nI_add, ← nI_mul]; rfl)) (by first | rfl | assumption | (simp only [← nI_add, ← nI_mul]; rfl)) (fun _ => ?_) (fun c => by exfalso; omega)
      refine w_st rfl rfl rfl trivial ?_
      refine w_m_gt (a := X) rfl (by first | decide | omega) (by first | rfl | assumption | (simp only [← nI_add, ← nI_mul]; rfl)) (fun c => ?_) (fun c => ?_)
      · rw [sp_if_t (Or.inl c)] at hF
        refine w_st rfl rfl rfl trivial ?_
        refine w_st rfl rfl rfl trivial ?_
        refine w_irem rfl (by decide) ?_
        refine w_hd ((nI_div10 hb').2) ?_
        refine w_st rfl rfl rfl trivial ?_
        refine w_reti rfl ?_
        exact hF ▸ mm_EX_i (rfl)
      · skip
        refine w_st rfl rfl rfl trivial ?_
        refine w_st rfl rfl rfl trivial ?_
        refine w_n_ne (a := f) (b := 3) rfl (by first | decide | omega) (by first | decide | omega) (by first | rfl | assumption | (simp only [← nI_add, ← nI_mul]; rfl)) (by first | rfl | assumption | (simp only [← nI_add, ← nI_mul]; rfl)) (fun c2 => ?_) (fun c2 => ?_)
        · rw [sp_if_f (by omega)] at hF
          refine w_st rfl rfl rfl trivial ?_
          refine w_reti rfl ?_
          exact hF ▸ mm_EX_i (rfl)
        · rw [sp_if_t (Or.inr c2)] at hF
          refine w_st rfl rfl rfl trivial ?_
          refine w_st rfl rfl rfl trivial ?_
          refine w_irem rfl (by decide) ?_
          refine w_hd ((nI_div10 hb').2) ?_
          refine w_st rfl rfl rfl trivial ?_
          refine w_reti rfl ?_
          exact hF ▸ mm_EX_i (rfl)
    · intro j hj ih
      have e1 : 3 - j = (2 - j) + 1 := by omega
      have e2 : 3 - (j + 1) = 2 - j := by omega
      have e3 : N / 10 ^ (j + 1) = N / 10 ^ j / 10 := by rw [Nat.pow_succ, Nat.div_div_eq_div_mul]
      rw [e2, e3] at ih
      rw [e1]
      refine w_st rfl rfl rfl trivial ?_
      refine w_st rfl rfl rfl trivial ?_
      refine w_n_le (a := (2 - j) + 1) (b := f) rfl (by first | decide | omega) (by first | decide | omega) (by first | rfl | assumption | (simp only [← nI_add, ← nI_mul]; rfl)) (by first | rfl | assumption | (simp only [← nI_add, ← nI_mul]; rfl)) (fun c => by exfalso; omega) (fun _ => ?_)
      refine w_st rfl rfl rfl trivial ?_
      refine w_st rfl rfl rfl trivial ?_
      refine w_idiv rfl (by decide) ?_
      refine w_hd ((nI_div10 (hb j)).1) ?_
      refine w_st rfl rfl rfl (Nat.le_of_ble_eq_true rfl) ?_
      refine w_inc rfl rfl rfl (Nat.le_of_ble_eq_true rfl) (nI_dec _) ?_
      refine w_st rfl rfl rfl trivial ?_
      exact ih
  have := K 0 (by omega)
  rw [Nat.pow_zero, Nat.div_one] at this
  exact this
theorem c_canShowNumber (h : sp_D I σ) (hN : N < 10000) : mm_M 52 4 [.ref 0, .int (nI N)] g I (some (.int (mm_bi (sp_nok σ N 4)))) I := by
  refine w_M ?_
  show mm_W 52 0 [.ref 0, .int (nI N), .null, .null] [] _ _ _
  generalize hF : mm_EX _ _ _ = F
  refine w_st rfl rfl rfl trivial ?_
  refine w_st rfl rfl rfl (Nat.le_of_ble_eq_true rfl) ?_
  have K : ∀ f, f ≤ 4 → ∀ v, sp_nok σ N f → mm_W 52 2 [.ref 0, .int (nI N), .int (nI f), v] [] g I F := by
    refine mm_dn 4 ?_ ?_
    · intro v hk
      refine w_st rfl rfl rfl trivial ?_
      refine w_st rfl rfl rfl trivial ?_
      refine w_n_ge (a := 4) (b := 4) rfl (by first | decide | omega) (by first | decide | omega) (by first | rfl | assumption | (simp only [← nI_add, ← nI_mul]; rfl)) (by first | rfl | assumption | (simp only [← nI_add, ← nI_mul]; rfl)) (fun _ => ?_) (fun c => by exfalso; omega)
      refine w_st rfl rfl rfl trivial ?_
      refine w_retz rfl (by first | exact Or.inl rfl | exact Or.inr rfl | exact mm_bi_01 _ | assumption) ?_
      exact hF ▸ mm_EX_i ((mm_bi_t hk).symm)
    · intro f hf ih v hk
      have hT : mm_T (45 + 4 * f) := mm_T_f hf
      refine w_st rfl rfl rfl trivial ?_
      refine w_st rfl rfl rfl trivial ?_
      refine w_n_ge (a := f) (b := 4) rfl (by first | decide | omega) (by first | decide | omega) (by first | rfl | assumption | (simp only [← nI_add, ← nI_mul]; rfl)) (by first | rfl | assumption | (simp only [← nI_add, ← nI_mul]; rfl)) (fun c => by exfalso; omega) (fun _ => ?_)
      refine w_st rfl rfl rfl trivial ?_
      refine w_st rfl rfl rfl trivial ?_
      refine w_k21 (c_digitAt hN hf) rfl ⟨rfl, by decide, by decide, by decide, Or.inr (Or.inl ⟨_, rfl⟩)⟩ (Nat.le_of_ble_eq_true rfl) trivial (Nat.le_of_ble_eq_true rfl) ?_  -- calls 51 cX4_digitAt
      refine w_st rfl rfl rfl (Nat.le_of_ble_eq_true rfl) ?_
      refine w_st rfl rfl rfl trivial ?_
      refine w_st rfl rfl rfl trivial ?_
      refine w_v_eq rfl (fun c1 => ?_) (fun c1 => ?_)
      · skip
        refine w_inc rfl rfl rfl (Nat.le_of_ble_eq_true rfl) (nI_1 _) ?_
        refine w_st rfl rfl rfl trivial ?_
        refine ih _ (fun e he => ?_)
        rcases Nat.lt_succ_iff_lt_or_eq.1 he with z | rfl
        · exact hk e z
        · exact Or.inl c1
      · skip
        refine w_st rfl rfl rfl trivial ?_
        refine w_gr (j := 6) rfl (mm_foc rfl) rfl (by decide) ?_
        refine w_st rfl rfl rfl trivial ?_
        refine w_ra (j := 45 + 4 * (f)) (f) rfl (Or.inl (mm_fac (n := 4) rfl)) (by first | rfl | assumption | (simp only [← nI_add, ← nI_mul]; rfl)) (by first | decide | omega) (mm_T_6 (by omega)) (by omega) ?_
        refine w_st rfl rfl rfl trivial ?_
        refine w_k21 (c_canShow hT (h.2 f hf)) rfl ⟨rfl, by decide, by decide, by decide, Or.inl ⟨_, rfl⟩⟩ (Nat.le_of_ble_eq_true rfl) (mm_T_o hT) (Nat.le_of_ble_eq_true rfl) ?_  -- calls 14 cX2_canShow
        refine w_b_ne rfl (fun c2 => ?_) (fun c2 => ?_)
        · skip
          refine w_inc rfl rfl rfl (Nat.le_of_ble_eq_true rfl) (nI_1 _) ?_
          refine w_st rfl rfl rfl trivial ?_
          refine ih _ (fun e he => ?_)
          rcases Nat.lt_succ_iff_lt_or_eq.1 he with z | rfl
          · exact hk e z
          · exact Or.inr c2
        · skip
          refine w_st rfl rfl rfl trivial ?_
          refine w_retz rfl (by first | exact Or.inl rfl | exact Or.inr rfl | exact mm_bi_01 _ | assumption) ?_
          exact hF ▸ mm_EX_i ((mm_bi_f (fun z => (z f hf).elim c1 c2)).symm)
  exact K 0 (by decide) .null (fun e he => absurd he (Nat.not_lt_zero _))
theorem c_number_1 (h1 : ¬ sp_lt 10000 x) : mm_TH 28 3 [.ref 0, .int x] g I 2 := by
  refine w_MT ?_
  show mm_W 28 0 [.ref 0, .int x, .null] [] _ _ _
  generalize hF : mm_TX _ _ _ = F
  refine w_st rfl rfl rfl trivial ?_
  refine w_z_lt rfl (fun c1 => ?_) (fun c1 => ?_)
  · skip
    refine w_thr rfl (Nat.le_of_ble_eq_true rfl) ?_
    exact hF ▸ ⟨rfl, rfl, rfl⟩
  · skip
    refine w_st rfl rfl rfl trivial ?_
    refine w_st rfl rfl rfl trivial ?_
    refine w_v_le rfl (fun z => by first | exact absurd z (fun c2 => h1 (sp_le_i (n := 9999) (by decide) rfl (Int32.not_lt.1 c1) c2)) | exact absurd (fun c2 => h1 (sp_le_i (n := 9999) (by decide) rfl (Int32.not_lt.1 c1) c2)) z) (fun _ => ?_)
    refine w_thr rfl (Nat.le_of_ble_eq_true rfl) ?_
    exact hF ▸ ⟨rfl, rfl, rfl⟩
theorem c_number_2 (h : sp_D I σ) (hN : N < 10000) (h2 : ¬ sp_nok σ N 4) : mm_TH 28 3 [.ref 0, .int (nI N)] g I 3 := by
  refine w_MT ?_
  show mm_W 28 0 [.ref 0, .int (nI N), .null] [] _ _ _
  generalize hF : mm_TX _ _ _ = F
  refine w_st rfl rfl rfl trivial ?_
  refine w_m_lt (a := N) rfl (by first | decide | omega) (by first | rfl | assumption | (simp only [← nI_add, ← nI_mul]; rfl)) ?_
  refine w_st rfl rfl rfl trivial ?_
  refine w_st rfl rfl rfl trivial ?_
  refine w_n_le (a := N) (b := 9999) rfl (by first | decide | omega) (by first | decide | omega) (by first | rfl | assumption | (simp only [← nI_add, ← nI_mul]; rfl)) (by first | rfl | assumption | (simp only [← nI_add, ← nI_mul]; rfl)) (fun _ => ?_) (fun c => by exfalso; omega)
  refine w_st rfl rfl rfl trivial ?_
  refine w_st rfl rfl rfl trivial ?_
  refine w_k21 (c_canShowNumber h hN) rfl ⟨rfl, by decide, by decide, by decide, Or.inl ⟨_, rfl⟩⟩ (Nat.le_of_ble_eq_true rfl) (mm_foc rfl) (Nat.le_of_ble_eq_true rfl) ?_  -- calls 52 cX4_canShowNumber
  refine w_b_ne rfl (fun z => absurd z (h2)) (fun _ => ?_)
  refine w_thr rfl (Nat.le_of_ble_eq_true rfl) ?_
  exact hF ▸ ⟨rfl, rfl, rfl⟩
theorem c_number (h : sp_C I σ n ps m tx) (hN : N < 10000) (h2 : sp_nok σ N 4) : ∃ I', mm_M 28 3 [.ref 0, .int (nI N)] g I (some (.int (nI (sp_wd (sp_nu σ N 4) 4)))) I' ∧ (sp_C I' (sp_nu σ N 4) (sp_sn n) (sp_sp n ps σ) m tx ∧ sp_cf I I') := by
  obtain ⟨I1, hM, hH, hfr⟩ := c_save (g := g) h.1.1 h.2.1
  have hD1 := sp_D_save hfr h.1
  refine w_MX ?_
  show mm_W 28 0 [.ref 0, .int (nI N), .null] [] _ _ _
  generalize hF : mm_EQ _ _ _ = F
  refine w_st rfl rfl rfl trivial ?_
  refine w_m_lt (a := N) rfl (by first | decide | omega) (by first | rfl | assumption | (simp only [← nI_add, ← nI_mul]; rfl)) ?_
  refine w_st rfl rfl rfl trivial ?_
  refine w_st rfl rfl rfl trivial ?_
  refine w_n_le (a := N) (b := 9999) rfl (by first | decide | omega) (by first | decide | omega) (by first | rfl | assumption | (simp only [← nI_add, ← nI_mul]; rfl)) (by first | rfl | assumption | (simp only [← nI_add, ← nI_mul]; rfl)) (fun _ => ?_) (fun c => by exfalso; omega)
  refine w_st rfl rfl rfl trivial ?_
  refine w_st rfl rfl rfl trivial ?_
  refine w_k21 (c_canShowNumber h.1 hN) rfl ⟨rfl, by decide, by decide, by decide, Or.inl ⟨_, rfl⟩⟩ (Nat.le_of_ble_eq_true rfl) (mm_foc rfl) (Nat.le_of_ble_eq_true rfl) ?_  -- calls 52 cX4_canShowNumber
  refine w_b_ne rfl (fun _ => ?_) (fun z => absurd (h2) z)
  refine w_st rfl rfl rfl trivial ?_
  refine w_gr (j := 13) rfl (mm_foc rfl) rfl (by decide) ?_
  refine w_st rfl rfl rfl trivial ?_
  refine w_gr (j := 1) rfl (mm_foc rfl) rfl (by decide) ?_
  refine w_k20 (hM) rfl ⟨rfl, by decide, by decide, by decide, Or.inl ⟨_, rfl⟩⟩ (Nat.le_of_ble_eq_true rfl) (mm_foc rfl) (Nat.le_of_ble_eq_true rfl) ?_  -- calls 6 cX1_save
  refine w_st rfl rfl rfl trivial ?_
  refine w_st rfl rfl rfl (Nat.le_of_ble_eq_true rfl) ?_
  have K : ∀ f, f ≤ 4 → ∀ I2, (sp_bd I2 1 (sp_nu σ N f) ∧ ∀ p, ¬ p = 2 → I2 p = I1 p) → mm_W 28 52 [.ref 0, .int (nI N), .int (nI f)] [] g I2 F := by
    refine mm_dn 4 ?_ ?_
    · intro I2 hI
      have hD : sp_D I2 (sp_nu σ N 4) := by
        refine ⟨hI.1, fun e he d hd => ?_⟩
        have := hD1.2 e he d hd
        rw [sp_nu_o 4 (by omega), sp_nu_o 4 (by omega)]
        unfold sp_te at this ⊢
        rw [hI.2 _ (by omega), hI.2 _ (by omega), hI.2 _ (by omega)]
        exact this
      refine w_st rfl rfl rfl trivial ?_
      refine w_st rfl rfl rfl trivial ?_
      refine w_n_ge (a := 4) (b := 4) rfl (by first | decide | omega) (by first | decide | omega) (by first | rfl | assumption | (simp only [← nI_add, ← nI_mul]; rfl)) (by first | rfl | assumption | (simp only [← nI_add, ← nI_mul]; rfl)) (fun _ => ?_) (fun c => by exfalso; omega)
      refine w_st rfl rfl rfl trivial ?_
      refine w_k11 (c_fieldsWithDigit hD) rfl ⟨rfl, by decide, by decide, by decide, Or.inl ⟨_, rfl⟩⟩ (Nat.le_of_ble_eq_true rfl) (mm_foc rfl) (Nat.le_of_ble_eq_true rfl) ?_  -- calls 64 cX4_fieldsWithDigit
      refine w_reti rfl ?_
      subst hF
      refine ⟨rfl, rfl, ?_⟩
      refine ⟨⟨hD, sp_H_c (fun p hp => hI.2 p (by omega)) hH, sp_X_c (fun p hp => hI.2 p (by omega)) (sp_X_save hfr h.2.2)⟩, fun p hp => ?_⟩
      rw [hI.2 p (by omega)]; exact hfr p (by omega) (by omega)
    · intro f hf ih I2 hI
      refine w_st rfl rfl rfl trivial ?_
      refine w_st rfl rfl rfl trivial ?_
      refine w_n_ge (a := f) (b := 4) rfl (by first | decide | omega) (by first | decide | omega) (by first | rfl | assumption | (simp only [← nI_add, ← nI_mul]; rfl)) (by first | rfl | assumption | (simp only [← nI_add, ← nI_mul]; rfl)) (fun c => by exfalso; omega) (fun _ => ?_)
      refine w_st rfl rfl rfl trivial ?_
      refine w_gr (j := 1) rfl (mm_foc rfl) rfl (by decide) ?_
      refine w_gr (j := 2) rfl (mm_foc rfl) rfl (by decide) ?_
      refine w_st rfl rfl rfl trivial ?_
      refine w_st rfl rfl rfl trivial ?_
      refine w_st rfl rfl rfl trivial ?_
      refine w_k21 (c_digitAt hN hf) rfl ⟨rfl, by decide, by decide, by decide, Or.inr (Or.inl ⟨_, rfl⟩)⟩ (Nat.le_of_ble_eq_true rfl) trivial (Nat.le_of_ble_eq_true rfl) ?_  -- calls 51 cX4_digitAt
      refine w_is (f) rfl (mm_fac (n := 4) rfl) (by first | rfl | assumption | (simp only [← nI_add, ← nI_mul]; rfl)) (by first | decide | omega) ?_
      refine w_inc rfl rfl rfl (Nat.le_of_ble_eq_true rfl) (nI_1 _) ?_
      refine w_st rfl rfl rfl trivial ?_
      exact ih _ ⟨sp_bd_d1 hI.1 hf, fun p hp => by rw [va_up_ne _ _ hp]; exact hI.2 p hp⟩
  exact K 0 (by decide) I1 ⟨hD1.1, fun _ _ => rfl⟩
end SM
