/-! lamps by a text on the class's side; the reference's buffer -/
noncomputable def sp_fl (tx : Nat → Int32) : Nat → Nat
  | 0 => 0
  | i + 1 => sp_if (sp_isF (tx i)) ((tx i).toNatClampNeg - 48) (sp_fl tx i)
noncomputable def sp_br (tx : Nat → Int32) : Nat → Bool
  | 0 => false
  | i + 1 => sp_if (¬ sp_isF (tx i) ∧ sp_isA (tx i)) (sp_if (tx i = nI 45) true false) (sp_br tx i)
noncomputable def sp_tc (tx : Nat → Int32) (σ : sp_St) : Nat → sp_St
  | 0 => σ
  | i + 1 => sp_if (¬ sp_isF (tx i) ∧ ¬ sp_isA (tx i) ∧ sp_isL (tx i)) (sp_set (sp_tc tx σ i) (sp_fl tx i) ((tx i).toNatClampNeg - 97) (sp_br tx i)) (sp_tc tx σ i)
theorem sp_fl_lt (tx : Nat → Int32) (i : Nat) : sp_fl tx i < 4 := by
  induction i with
  | zero => show 0 < 4; decide
  | succ i ih =>
    have e : sp_fl tx (i + 1) = sp_if (sp_isF (tx i)) ((tx i).toNatClampNeg - 48) (sp_fl tx i) := rfl
    rw [e]
    by_cases c : sp_isF (tx i)
    · rw [sp_if_t c]
      obtain ⟨k, h1, h2, h3⟩ := c
      rw [h3, nI_clamp (by omega)]; omega
    · rw [sp_if_f c]; exact ih
theorem sp_ok_tc {tx : Nat → Int32} {σ : sp_St} (ok : sp_ok σ) (i : Nat) : sp_ok (sp_tc tx σ i) := by
  induction i with
  | zero => exact ok
  | succ i ih =>
    have e : sp_tc tx σ (i + 1) = sp_if (¬ sp_isF (tx i) ∧ ¬ sp_isA (tx i) ∧ sp_isL (tx i)) (sp_set (sp_tc tx σ i) (sp_fl tx i) ((tx i).toNatClampNeg - 97) (sp_br tx i)) (sp_tc tx σ i) := rfl
    rw [e]
    by_cases c : ¬ sp_isF (tx i) ∧ ¬ sp_isA (tx i) ∧ sp_isL (tx i)
    · rw [sp_if_t c]
      obtain ⟨_, _, k, h1, h2, h3⟩ := c
      rw [h3, nI_clamp (by omega)]
      exact sp_ok_set ih (sp_fl_lt tx i) (by omega)
    · rw [sp_if_f c]; exact ih
section SM
variable {g : mm_Gg} {I : mm_Is} {x y z : Int32} {l d k t u f w n b o m N c s i : Nat} {σ τ : sp_St} {ps : Nat → sp_St} {tx : Nat → Int32}
theorem c_at (h : sp_X I m tx) (hk : sp_tk m tx) (hi : i < m) : mm_M 29 2 [.ref 11, .int (nI i)] g I (some (.int (tx i))) I := by
  have hm := h.2.1
  obtain ⟨c, h1, h2, h3⟩ := hk i hi
  have hcx : vp_nar .char (nI c) = nI c := sp_chr c (by omega)
  rw [h3]
  refine w_M ?_
  show mm_W 29 0 [.ref 11, .int (nI i)] [] _ _ _
  generalize hF : mm_EX _ _ _ = F
  refine w_st rfl rfl rfl trivial ?_
  refine w_gr (j := 12) rfl (mm_foc rfl) rfl (by decide) ?_
  refine w_st rfl rfl rfl trivial ?_
  refine w_ca (i) rfl (mm_fac (n := 60) rfl) (by first | rfl | assumption | (simp only [← nI_add, ← nI_mul]; rfl)) (by first | decide | omega) ?_
  rw [h.2.2 i hi, h3]
  refine w_retc rfl (by assumption) ?_
  exact hF ▸ mm_EX_i (rfl)
theorem c_setLamp (h : sp_bd I 1 σ) (hf : f < 4) (hl : l < 15) (q : Bool) : ∃ I', mm_M 2 4 [.ref 1, .int (nI f), .int (nI l), .int (sp_q q)] g I none I' ∧ (sp_bd I' 1 (sp_set σ f l q) ∧ ∀ p, ¬ p = 3 → ¬ p = 4 → I' p = I p) := by
  cases q
  · exact c_setLamp_f h hf hl
  · exact c_setLamp_t h hf hl
theorem c_byText (hb : sp_bd I 1 σ) (h : sp_X I m tx) (hk : sp_tk m tx) : ∃ I', mm_M 79 5 [.ref 0] g I none I' ∧ (sp_bd I' 1 (sp_tc tx σ m) ∧ ∀ p, ¬ p = 3 → ¬ p = 4 → I' p = I p) := by
  have hm := h.2.1
  refine w_MX ?_
  show mm_W 79 0 [.ref 0, .null, .null, .null, .null] [] _ _ _
  generalize hF : mm_EQ _ _ _ = F
  refine w_st rfl rfl rfl trivial ?_
  refine w_st rfl rfl rfl (Nat.le_of_ble_eq_true rfl) ?_
  refine w_st rfl rfl rfl trivial ?_
  refine w_st rfl rfl rfl (Nat.le_of_ble_eq_true rfl) ?_
  refine w_st rfl rfl rfl trivial ?_
  refine w_st rfl rfl rfl (Nat.le_of_ble_eq_true rfl) ?_
  have K : ∀ i, i ≤ m → ∀ I1 v, (sp_bd I1 1 (sp_tc tx σ i) ∧ ∀ p, ¬ p = 3 → ¬ p = 4 → I1 p = I p) → mm_W 79 6 [.ref 0, .int (nI (sp_fl tx i)), .int (sp_q (sp_br tx i)), .int (nI i), v] [] g I1 F := by
    refine mm_dn m ?_ ?_
    · intro I1 v hI
      have hX := sp_X_c (I' := I1) (fun p hp => hI.2 p (by omega) (by omega)) h
      refine w_st rfl rfl rfl trivial ?_
      refine w_st rfl rfl rfl trivial ?_
      refine w_gr (j := 11) rfl (mm_foc rfl) rfl (by decide) ?_
      refine w_gi rfl (mm_foc rfl) ?_
      rw [hX.1]
      refine w_n_ge (a := m) (b := m) rfl (by first | decide | omega) (by first | decide | omega) (by first | rfl | assumption | (simp only [← nI_add, ← nI_mul]; rfl)) (by first | rfl | assumption | (simp only [← nI_add, ← nI_mul]; rfl)) (fun _ => ?_) (fun c => by exfalso; omega)
      refine w_retv rfl ?_
      exact hF ▸ ⟨rfl, rfl, hI⟩
    · intro i hi ih I1 v hI
      have hX := sp_X_c (I' := I1) (fun p hp => hI.2 p (by omega) (by omega)) h
      have e1 : sp_fl tx (i + 1) = sp_if (sp_isF (tx i)) ((tx i).toNatClampNeg - 48) (sp_fl tx i) := rfl
      have e2 : sp_br tx (i + 1) = sp_if (¬ sp_isF (tx i) ∧ sp_isA (tx i)) (sp_if (tx i = nI 45) true false) (sp_br tx i) := rfl
      have e3 : sp_tc tx σ (i + 1) = sp_if (¬ sp_isF (tx i) ∧ ¬ sp_isA (tx i) ∧ sp_isL (tx i)) (sp_set (sp_tc tx σ i) (sp_fl tx i) ((tx i).toNatClampNeg - 97) (sp_br tx i)) (sp_tc tx σ i) := rfl
      refine w_st rfl rfl rfl trivial ?_
      refine w_st rfl rfl rfl trivial ?_
      refine w_gr (j := 11) rfl (mm_foc rfl) rfl (by decide) ?_
      refine w_gi rfl (mm_foc rfl) ?_
      rw [hX.1]
      refine w_n_ge (a := i) (b := m) rfl (by first | decide | omega) (by first | decide | omega) (by first | rfl | assumption | (simp only [← nI_add, ← nI_mul]; rfl)) (by first | rfl | assumption | (simp only [← nI_add, ← nI_mul]; rfl)) (fun c => by exfalso; omega) (fun _ => ?_)
      refine w_st rfl rfl rfl trivial ?_
      refine w_gr (j := 11) rfl (mm_foc rfl) rfl (by decide) ?_
      refine w_st rfl rfl rfl trivial ?_
      refine w_k21 (c_at hX hk hi) rfl ⟨rfl, by decide, by decide, by decide, Or.inl ⟨_, rfl⟩⟩ (Nat.le_of_ble_eq_true rfl) (mm_foc rfl) (Nat.le_of_ble_eq_true rfl) ?_  -- calls 29 cX3_at
      refine w_st rfl rfl rfl (Nat.le_of_ble_eq_true rfl) ?_
      refine w_st rfl rfl rfl trivial ?_
      refine w_k11 (c_isFieldSign) rfl ⟨rfl, by decide, by decide, by decide, Or.inr (Or.inl ⟨_, rfl⟩)⟩ (Nat.le_of_ble_eq_true rfl) trivial (Nat.le_of_ble_eq_true rfl) ?_  -- calls 33 cX3_isFieldSign
      refine w_b_eq rfl (fun c1 => ?_) (fun c1 => ?_)
      · rw [sp_if_f c1] at e1
        refine w_st rfl rfl rfl trivial ?_
        refine w_k11 (c_isAction) rfl ⟨rfl, by decide, by decide, by decide, Or.inr (Or.inl ⟨_, rfl⟩)⟩ (Nat.le_of_ble_eq_true rfl) trivial (Nat.le_of_ble_eq_true rfl) ?_  -- calls 34 cX3_isAction
        refine w_b_eq rfl (fun c2 => ?_) (fun c2 => ?_)
        · rw [sp_if_f (fun z => c2 z.2)] at e2
          refine w_st rfl rfl rfl trivial ?_
          refine w_k11 (c_isLetter) rfl ⟨rfl, by decide, by decide, by decide, Or.inr (Or.inl ⟨_, rfl⟩)⟩ (Nat.le_of_ble_eq_true rfl) trivial (Nat.le_of_ble_eq_true rfl) ?_  -- calls 35 cX3_isLetter
          refine w_b_eq rfl (fun c3 => ?_) (fun c3 => ?_)
          · rw [sp_if_f (fun z => c3 z.2.2)] at e3
            rw [e1, e2, e3] at ih
            refine w_inc rfl rfl rfl (Nat.le_of_ble_eq_true rfl) (nI_1 _) ?_
            refine w_st rfl rfl rfl trivial ?_
            exact ih I1 _ hI
          · rw [sp_if_t ⟨c1, c2, c3⟩] at e3
            obtain ⟨c, h1, h2, h3⟩ := c3
            rw [h3, nI_clamp (by omega)] at e3
            obtain ⟨I2, hM2, hb2, f2⟩ := c_setLamp (g := g) hI.1 (sp_fl_lt tx i) (show c - 97 < 15 by omega) (sp_br tx i)
            rw [h3]
            refine w_st rfl rfl rfl trivial ?_
            refine w_gr (j := 1) rfl (mm_foc rfl) rfl (by decide) ?_
            refine w_st rfl rfl rfl trivial ?_
            refine w_st rfl rfl rfl trivial ?_
            refine w_st rfl rfl rfl trivial ?_
            refine w_isub rfl ?_
            refine w_hd (show nI c - nI 97 = nI (c - 97) from nI_sub h1) ?_
            refine w_st rfl rfl rfl trivial ?_
            refine w_k40 (hM2) rfl ⟨rfl, by decide, by decide, by decide, Or.inl ⟨_, rfl⟩⟩ (Nat.le_of_ble_eq_true rfl) (mm_foc rfl) (Nat.le_of_ble_eq_true rfl) ?_  -- calls 2 cX0_setLamp
            rw [e1, e2, e3] at ih
            refine w_inc rfl rfl rfl (Nat.le_of_ble_eq_true rfl) (nI_1 _) ?_
            refine w_st rfl rfl rfl trivial ?_
            exact ih I2 _ ⟨hb2, fun p a b => by rw [f2 p a b]; exact hI.2 p a b⟩
        · rw [sp_if_t ⟨c1, c2⟩] at e2
          rw [sp_if_f (fun z => z.2.1 c2)] at e3
          rw [e1, e2, e3] at ih
          refine w_st rfl rfl rfl trivial ?_
          refine w_st rfl rfl rfl trivial ?_
          refine w_v_ne rfl (fun c3 => ?_) (fun c3 => ?_)
          · rw [sp_if_f (show ¬ tx i = nI 45 from c3)] at ih
            refine w_st rfl rfl rfl trivial ?_
            refine w_st rfl rfl rfl (Nat.le_of_ble_eq_true rfl) ?_
            refine w_st rfl rfl rfl trivial ?_
            refine w_inc rfl rfl rfl (Nat.le_of_ble_eq_true rfl) (nI_1 _) ?_
            refine w_st rfl rfl rfl trivial ?_
            exact ih I1 _ hI
          · rw [sp_if_t (show tx i = nI 45 from c3)] at ih
            refine w_st rfl rfl rfl trivial ?_
            refine w_st rfl rfl rfl trivial ?_
            refine w_st rfl rfl rfl (Nat.le_of_ble_eq_true rfl) ?_
            refine w_st rfl rfl rfl trivial ?_
            refine w_inc rfl rfl rfl (Nat.le_of_ble_eq_true rfl) (nI_1 _) ?_
            refine w_st rfl rfl rfl trivial ?_
            exact ih I1 _ hI
      · rw [sp_if_t c1] at e1
        rw [sp_if_f (fun z => z.1 c1)] at e2 e3
        obtain ⟨c, h1, h2, h3⟩ := c1
        rw [h3, nI_clamp (by omega)] at e1
        rw [e1, e2, e3] at ih
        rw [h3]
        refine w_st rfl rfl rfl trivial ?_
        refine w_st rfl rfl rfl trivial ?_
        refine w_isub rfl ?_
        refine w_hd (show nI c - nI 48 = nI (c - 48) from nI_sub h1) ?_
        refine w_st rfl rfl rfl (Nat.le_of_ble_eq_true rfl) ?_
        refine w_st rfl rfl rfl trivial ?_
        refine w_inc rfl rfl rfl (Nat.le_of_ble_eq_true rfl) (nI_1 _) ?_
        refine w_st rfl rfl rfl trivial ?_
        exact ih I1 _ hI
  exact K 0 (Nat.zero_le _) I .null ⟨hb, fun _ _ _ => rfl⟩
theorem c_lamps_1 (h : sp_X I m tx) (h3 : ¬ sp_rn tx m = 3) : mm_TH 46 1 [.ref 0] g I 2 := by
  refine w_MT ?_
  show mm_W 46 0 [.ref 0] [] _ _ _
  generalize hF : mm_TX _ _ _ = F
  refine w_st rfl rfl rfl trivial ?_
  refine w_gr (j := 11) rfl (mm_foc rfl) rfl (by decide) ?_
  refine w_k11 (c_isComplete h) rfl ⟨rfl, by decide, by decide, by decide, Or.inl ⟨_, rfl⟩⟩ (Nat.le_of_ble_eq_true rfl) (mm_foc rfl) (Nat.le_of_ble_eq_true rfl) ?_  -- calls 31 cX3_isComplete
  refine w_b_ne rfl (fun z => absurd z (h3)) (fun _ => ?_)
  refine w_thr rfl (Nat.le_of_ble_eq_true rfl) ?_
  exact hF ▸ ⟨rfl, rfl, rfl⟩
theorem c_lamps (h : sp_C I σ n ps m tx) (hk : sp_tk m tx) (h3 : sp_rn tx m = 3) : ∃ I', mm_M 46 1 [.ref 0] g I (some (.int (sp_bl (sp_tc tx σ m) 4))) I' ∧ (sp_C I' (sp_tc tx σ m) (sp_sn n) (sp_sp n ps σ) 0 tx ∧ sp_cf I I') := by
  obtain ⟨I1, hM1, hH1, f1⟩ := c_save (g := g) h.1.1 h.2.1
  have hD1 := sp_D_save f1 h.1
  have hX1 := sp_X_save f1 h.2.2
  obtain ⟨I2, hM2, hb2, f2⟩ := c_byText (g := g) hD1.1 hX1 hk
  obtain ⟨I4, hM4, hD4, f4⟩ := c_chooseAll (g := g) (I := va_up I2 11 (upd (I2 11) 1 0)) (sp_bd_c (fun p hp => va_up_ne _ _ (by unfold sp_in5 at hp; omega)) hb2)
  refine w_MX ?_
  show mm_W 46 0 [.ref 0] [] _ _ _
  generalize hF : mm_EQ _ _ _ = F
  refine w_st rfl rfl rfl trivial ?_
  refine w_gr (j := 11) rfl (mm_foc rfl) rfl (by decide) ?_
  refine w_k11 (c_isComplete h.2.2) rfl ⟨rfl, by decide, by decide, by decide, Or.inl ⟨_, rfl⟩⟩ (Nat.le_of_ble_eq_true rfl) (mm_foc rfl) (Nat.le_of_ble_eq_true rfl) ?_  -- calls 31 cX3_isComplete
  refine w_b_ne rfl (fun _ => ?_) (fun z => absurd (h3) z)
  refine w_st rfl rfl rfl trivial ?_
  refine w_gr (j := 13) rfl (mm_foc rfl) rfl (by decide) ?_
  refine w_st rfl rfl rfl trivial ?_
  refine w_gr (j := 1) rfl (mm_foc rfl) rfl (by decide) ?_
  refine w_k20 (hM1) rfl ⟨rfl, by decide, by decide, by decide, Or.inl ⟨_, rfl⟩⟩ (Nat.le_of_ble_eq_true rfl) (mm_foc rfl) (Nat.le_of_ble_eq_true rfl) ?_  -- calls 6 cX1_save
  refine w_st rfl rfl rfl trivial ?_
  refine w_k10 (hM2) rfl ⟨rfl, by decide, by decide, by decide, Or.inl ⟨_, rfl⟩⟩ (Nat.le_of_ble_eq_true rfl) (mm_foc rfl) (Nat.le_of_ble_eq_true rfl) ?_  -- calls 79 cX4_burnAndMendByText
  refine w_st rfl rfl rfl trivial ?_
  refine w_gr (j := 11) rfl (mm_foc rfl) rfl (by decide) ?_
  refine w_k10 (c_empty) rfl ⟨rfl, by decide, by decide, by decide, Or.inl ⟨_, rfl⟩⟩ (Nat.le_of_ble_eq_true rfl) (mm_foc rfl) (Nat.le_of_ble_eq_true rfl) ?_  -- calls 28 cX3_empty
  refine w_st rfl rfl rfl trivial ?_
  refine w_k10 (hM4) rfl ⟨rfl, by decide, by decide, by decide, Or.inl ⟨_, rfl⟩⟩ (Nat.le_of_ble_eq_true rfl) (mm_foc rfl) (Nat.le_of_ble_eq_true rfl) ?_  -- calls 73 cX4_chooseAllTables
  refine w_st rfl rfl rfl trivial ?_
  refine w_k11 (c_burntLamps hD4) rfl ⟨rfl, by decide, by decide, by decide, Or.inl ⟨_, rfl⟩⟩ (Nat.le_of_ble_eq_true rfl) (mm_foc rfl) (Nat.le_of_ble_eq_true rfl) ?_  -- calls 82 cX4_burntLamps
  refine w_reti rfl ?_
  subst hF
  refine ⟨rfl, rfl, ?_⟩
  refine ⟨⟨hD4, sp_H_c (fun p hp => ?_) hH1, ?_, by decide, fun i hi => absurd hi (Nat.not_lt_zero _)⟩, fun p hp => ?_⟩
  · rw [f4 p (by omega), va_up_ne _ _ (by omega), f2 p (by omega) (by omega)]
  · rw [f4 11 (by omega)]; exact mm_uu
  · rw [f4 p (by omega), va_up_ne _ _ (by omega), f2 p (by omega) (by omega)]; exact f1 p (by omega) (by omega)
-- the reference's buffer
theorem r_append_1 (h1 : ¬ sp_c33 x) : ∃ I', mm_M 119 2 [.ref 61, .int x] g I (some (.int 0)) I' ∧ sp_th 1 I I' := by
  refine w_MX ?_
  show mm_W 119 0 [.ref 61, .int x] [] _ _ _
  generalize hF : mm_EQ _ _ _ = F
  refine w_st rfl rfl rfl trivial ?_
  refine w_st rfl rfl rfl trivial ?_
  refine w_pi rfl (mm_foc rfl) ?_
  show mm_W 119 5 _ _ g (sp_st6 I 0) F
  refine w_st rfl rfl rfl trivial ?_
  refine w_st rfl rfl rfl trivial ?_
  refine w_st rfl rfl rfl trivial ?_
  refine w_k31 (c_in) rfl ⟨rfl, by decide, by decide, by decide, Or.inr (Or.inl ⟨_, rfl⟩)⟩ (Nat.le_of_ble_eq_true rfl) trivial (Nat.le_of_ble_eq_true rfl) ?_  -- calls 90 cX5_in
  refine w_b_ne rfl (fun z => absurd z (fun z => h1 ((sp_in_n (a := 33) (b := 126) (by decide) (by decide) rfl rfl).1 z))) (fun _ => ?_)
  refine w_st rfl rfl rfl trivial ?_
  refine w_st rfl rfl rfl trivial ?_
  refine w_k21 (r_fails) rfl ⟨rfl, by decide, by decide, by decide, Or.inl ⟨_, rfl⟩⟩ (Nat.le_of_ble_eq_true rfl) (mm_foc rfl) (Nat.le_of_ble_eq_true rfl) ?_  -- calls 89 cX5_fails
  refine w_reti rfl ?_
  exact hF ▸ ⟨rfl, rfl, sp_th_k rfl⟩
theorem r_append_2 (h : I 61 5 = nI 60) (h1 : sp_c33 x) : ∃ I', mm_M 119 2 [.ref 61, .int x] g I (some (.int 0)) I' ∧ sp_th 2 I I' := by
  refine w_MX ?_
  show mm_W 119 0 [.ref 61, .int x] [] _ _ _
  generalize hF : mm_EQ _ _ _ = F
  refine w_st rfl rfl rfl trivial ?_
  refine w_st rfl rfl rfl trivial ?_
  refine w_pi rfl (mm_foc rfl) ?_
  show mm_W 119 5 _ _ g (sp_st6 I 0) F
  refine w_st rfl rfl rfl trivial ?_
  refine w_st rfl rfl rfl trivial ?_
  refine w_st rfl rfl rfl trivial ?_
  refine w_k31 (c_in) rfl ⟨rfl, by decide, by decide, by decide, Or.inr (Or.inl ⟨_, rfl⟩)⟩ (Nat.le_of_ble_eq_true rfl) trivial (Nat.le_of_ble_eq_true rfl) ?_  -- calls 90 cX5_in
  refine w_b_ne rfl (fun _ => ?_) (fun z => absurd ((sp_in_n (a := 33) (b := 126) (by decide) (by decide) rfl rfl).2 h1) z)
  refine w_st rfl rfl rfl trivial ?_
  refine w_gi rfl (mm_foc rfl) ?_
  rw [show sp_st6 I 0 61 5 = nI 60 from (mm_un (Or.inr (by decide))).trans h]
  refine w_st rfl rfl rfl trivial ?_
  refine w_n_ne (a := 60) (b := 60) rfl (by first | decide | omega) (by first | decide | omega) (by first | rfl | assumption | (simp only [← nI_add, ← nI_mul]; rfl)) (by first | rfl | assumption | (simp only [← nI_add, ← nI_mul]; rfl)) (fun c => by exfalso; omega) (fun _ => ?_)
  refine w_st rfl rfl rfl trivial ?_
  refine w_st rfl rfl rfl trivial ?_
  refine w_k21 (r_fails) rfl ⟨rfl, by decide, by decide, by decide, Or.inl ⟨_, rfl⟩⟩ (Nat.le_of_ble_eq_true rfl) (mm_foc rfl) (Nat.le_of_ble_eq_true rfl) ?_  -- calls 89 cX5_fails
  refine w_reti rfl ?_
  exact hF ▸ ⟨rfl, rfl, sp_th_k rfl⟩
theorem r_append (h : sp_M I σ n ps m tx) (hm : m < 60) (h1 : 33 ≤ c) (h2 : c ≤ 126) : ∃ I', mm_M 119 2 [.ref 61, .int (nI c)] g I (some (.int (nI (m + 1)))) I' ∧ (sp_M I' σ n ps (m + 1) (upd tx m (nI c)) ∧ I' 61 6 = nI 0 ∧ sp_rf I I') := by
  have e0 : sp_st6 I 0 61 5 = nI m := (mm_un (Or.inr (by decide))).trans h.2.2.1
  refine w_MX ?_
  show mm_W 119 0 [.ref 61, .int (nI c)] [] _ _ _
  generalize hF : mm_EQ _ _ _ = F
  refine w_st rfl rfl rfl trivial ?_
  refine w_st rfl rfl rfl trivial ?_
  refine w_pi rfl (mm_foc rfl) ?_
  show mm_W 119 5 _ _ g (sp_st6 I 0) F
  refine w_st rfl rfl rfl trivial ?_
  refine w_st rfl rfl rfl trivial ?_
  refine w_st rfl rfl rfl trivial ?_
  refine w_k31 (c_in) rfl ⟨rfl, by decide, by decide, by decide, Or.inr (Or.inl ⟨_, rfl⟩)⟩ (Nat.le_of_ble_eq_true rfl) trivial (Nat.le_of_ble_eq_true rfl) ?_  -- calls 90 cX5_in
  refine w_b_ne rfl (fun _ => ?_) (fun z => absurd ((sp_in_n (a := 33) (b := 126) (by decide) (by decide) rfl rfl).2 ⟨c, h1, h2, rfl⟩) z)
  refine w_st rfl rfl rfl trivial ?_
  refine w_gi rfl (mm_foc rfl) ?_
  rw [e0]
  refine w_st rfl rfl rfl trivial ?_
  refine w_n_ne (a := m) (b := 60) rfl (by first | decide | omega) (by first | decide | omega) (by first | rfl | assumption | (simp only [← nI_add, ← nI_mul]; rfl)) (by first | rfl | assumption | (simp only [← nI_add, ← nI_mul]; rfl)) (fun _ => ?_) (fun c => by exfalso; omega)
  refine w_st rfl rfl rfl trivial ?_
  refine w_gr (j := 65) rfl (mm_foc rfl) rfl (by decide) ?_
  refine w_st rfl rfl rfl trivial ?_
  refine w_gi rfl (mm_foc rfl) ?_
  rw [e0]
  refine w_st rfl rfl rfl trivial ?_
  refine w_is (m) rfl (mm_fac (n := 60) rfl) (by first | rfl | assumption | (simp only [← nI_add, ← nI_mul]; rfl)) (by first | decide | omega) ?_
  refine w_st rfl rfl rfl trivial ?_
  refine w_st rfl rfl rfl trivial ?_
  refine w_gi rfl (mm_foc rfl) ?_
  refine w_st rfl rfl rfl trivial ?_
  refine w_iadd rfl ?_
  refine w_hd (show va_up (sp_st6 I 0) 65 (upd (sp_st6 I 0 65) m (nI c)) 61 5 + 1 = nI (m + 1) from by rw [va_up_ne _ _ (by decide), e0]; exact nI_1 m) ?_
  refine w_pi rfl (mm_foc rfl) ?_
  refine w_st rfl rfl rfl trivial ?_
  refine w_gi rfl (mm_foc rfl) ?_
  refine w_hd (mm_uu) ?_
  refine w_reti rfl ?_
  subst hF
  refine ⟨rfl, rfl, ?_⟩
  refine ⟨⟨⟨fun j hj => ?_, fun j hj => ?_⟩, ⟨?_, h.2.1.2.1, fun i hi j hj => ?_⟩, mm_uu, fun i hi => ?_⟩, ?_, fun p hp => ?_⟩
  · rw [va_up_ne _ _ (by decide), va_up_ne _ _ (by decide), sp_st6_o (by decide)]; exact h.1.1 j hj
  · rw [va_up_ne _ _ (by decide), va_up_ne _ _ (by decide), sp_st6_o (by decide)]; exact h.1.2 j hj
  · rw [mm_un (Or.inr (by decide)), va_up_ne _ _ (by decide)]; exact (mm_un (Or.inr (by decide))).trans h.2.1.1
  · rw [va_up_ne _ _ (by decide), va_up_ne _ _ (by decide), sp_st6_o (by decide)]; exact h.2.1.2.2 i hi j hj
  · rw [va_up_ne _ _ (by decide)]
    by_cases e : i = m
    · subst e; rw [mm_uu, upd_s]
    · rw [mm_un (Or.inr e), upd_n e, sp_st6_o (by decide)]; exact h.2.2.2 i (by omega)
  · rw [mm_un (Or.inr (by decide)), va_up_ne _ _ (by decide)]; exact mm_uu
  · rw [va_up_ne _ _ (by omega), va_up_ne _ _ (by omega), sp_st6_o (by omega)]
theorem r_clearBuffer (h : sp_M I σ n ps m tx) : ∃ I', mm_M 120 2 [.ref 61] g I (some (.int (nI m))) I' ∧ (sp_M I' σ n ps 0 tx ∧ I' 61 6 = nI 0 ∧ sp_rf I I') := by
  have e0 : sp_st6 I 0 61 5 = nI m := (mm_un (Or.inr (by decide))).trans h.2.2.1
  refine w_MX ?_
  show mm_W 120 0 [.ref 61, .null] [] _ _ _
  generalize hF : mm_EQ _ _ _ = F
  refine w_st rfl rfl rfl trivial ?_
  refine w_st rfl rfl rfl trivial ?_
  refine w_pi rfl (mm_foc rfl) ?_
  show mm_W 120 5 _ _ g (sp_st6 I 0) F
  refine w_st rfl rfl rfl trivial ?_
  refine w_gi rfl (mm_foc rfl) ?_
  rw [e0]
  refine w_st rfl rfl rfl (Nat.le_of_ble_eq_true rfl) ?_
  refine w_st rfl rfl rfl trivial ?_
  refine w_st rfl rfl rfl trivial ?_
  refine w_pi rfl (mm_foc rfl) ?_
  refine w_st rfl rfl rfl trivial ?_
  refine w_reti rfl ?_
  subst hF
  refine ⟨rfl, rfl, ?_⟩
  refine ⟨⟨⟨fun j hj => ?_, fun j hj => ?_⟩, ⟨?_, h.2.1.2.1, fun i hi j hj => ?_⟩, mm_uu, fun i hi => absurd hi (Nat.not_lt_zero _)⟩, ?_, fun p hp => ?_⟩
  · rw [va_up_ne _ _ (by decide), sp_st6_o (by decide)]; exact h.1.1 j hj
  · rw [va_up_ne _ _ (by decide), sp_st6_o (by decide)]; exact h.1.2 j hj
  · rw [mm_un (Or.inr (by decide))]; exact (mm_un (Or.inr (by decide))).trans h.2.1.1
  · rw [va_up_ne _ _ (by decide), sp_st6_o (by decide)]; exact h.2.1.2.2 i hi j hj
  · rw [mm_un (Or.inr (by decide))]; exact mm_uu
  · rw [va_up_ne _ _ (by omega), sp_st6_o (by omega)]
end SM
