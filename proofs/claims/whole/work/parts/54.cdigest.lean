/-! the class's digest -/
noncomputable def sp_d4 (σ : sp_St) (h : Int64) : Nat → Int64
  | 0 => h
  | f + 1 => 31 * (31 * (31 * sp_hf σ f (sp_d4 σ h f) + ((sp_wl σ f 15).1).toInt64) + (sp_sr (σ (8 + f)) 5).toInt64) + ((sp_nr (sp_R σ f) (σ (8 + f)) (nI 21845) 10).1).toInt64
noncomputable def sp_d5 (σ : sp_St) (n m : Nat) : Int64 := 31 * (31 * (31 * sp_d4 σ (sp_hl (fun s => σ (1 + s)) (sp_hl (sp_cn σ n) 2801 8) 2) 4 + (sp_nb σ 4).toInt64) + (sp_cl (sp_ct σ 4)).toInt64) + (nI m).toInt64
noncomputable def sp_dg (σ : sp_St) (n m : Nat) (tx : Nat → Int32) : Int64 := sp_hl tx (sp_d5 σ n m) m
section SM
variable {g : mm_Gg} {I I1 : mm_Is} {n m : Nat} {σ : sp_St} {ps : Nat → sp_St} {tx : Nat → Int32}
theorem c_digest (h : sp_C I σ n ps m tx) (hk : sp_tk m tx) : ∃ I', mm_M 59 4 [.ref 0] g I (some (.long (sp_dg σ n m tx))) I' ∧ sp_f3 7 I I' := by
  have hm := h.2.2.2.1
  have hct : sp_ct σ 4 < 41 := by have := sp_nt_le σ 4; omega
  refine w_MX ?_
  show mm_W 59 0 [.ref 0, .null, .null, .null] [] _ _ _
  generalize hF : mm_EQ _ _ _ = F
  refine w_st rfl rfl rfl trivial ?_
  refine w_st rfl rfl rfl (Nat.le_of_ble_eq_true rfl) ?_
  refine w_st rfl rfl rfl trivial ?_
  refine w_st rfl rfl rfl (Nat.le_of_ble_eq_true rfl) ?_
  have K4 : ∀ i, i ≤ m → ∀ I1, sp_f3 7 I I1 → mm_W 59 150 [.ref 0, .long (sp_hl tx (sp_d5 σ n m) i), .null, .int (nI i)] [] g I1 F := by
    refine mm_dn m ?_ ?_
    · intro I1 h3
      have hC := (sp_C_f3 h3 h).1
      refine w_st rfl rfl rfl trivial ?_
      refine w_st rfl rfl rfl trivial ?_
      refine w_gr (j := 11) rfl (mm_foc rfl) rfl (by decide) ?_
      refine w_gi rfl (mm_foc rfl) ?_
      rw [hC.2.2.1]
      refine w_n_ge (a := m) (b := m) rfl (by first | decide | omega) (by first | decide | omega) (by first | rfl | assumption | (simp only [← nI_add, ← nI_mul]; rfl)) (by first | rfl | assumption | (simp only [← nI_add, ← nI_mul]; rfl)) (fun _ => ?_) (fun c => by exfalso; omega)
      refine w_st rfl rfl rfl trivial ?_
      refine w_retl rfl ?_
      exact hF ▸ ⟨rfl, rfl, h3⟩
    · intro i hi ih I1 h3
      have hC := (sp_C_f3 h3 h).1
      refine w_st rfl rfl rfl trivial ?_
      refine w_st rfl rfl rfl trivial ?_
      refine w_gr (j := 11) rfl (mm_foc rfl) rfl (by decide) ?_
      refine w_gi rfl (mm_foc rfl) ?_
      rw [hC.2.2.1]
      refine w_n_ge (a := i) (b := m) rfl (by first | decide | omega) (by first | decide | omega) (by first | rfl | assumption | (simp only [← nI_add, ← nI_mul]; rfl)) (by first | rfl | assumption | (simp only [← nI_add, ← nI_mul]; rfl)) (fun c => by exfalso; omega) (fun _ => ?_)
      refine w_st rfl rfl rfl trivial ?_
      refine w_st rfl rfl rfl trivial ?_
      refine w_gr (j := 11) rfl (mm_foc rfl) rfl (by decide) ?_
      refine w_st rfl rfl rfl trivial ?_
      refine w_k21 (c_at hC.2.2 hk hi) rfl ⟨rfl, by decide, by decide, by decide, Or.inl ⟨_, rfl⟩⟩ (Nat.le_of_ble_eq_true rfl) (mm_foc rfl) (Nat.le_of_ble_eq_true rfl) ?_  -- calls 29 cX3_at
      refine w_st rfl rfl rfl trivial ?_
      refine w_k21 (c_hashWith) rfl ⟨rfl, by decide, by decide, by decide, Or.inr (Or.inl ⟨_, rfl⟩)⟩ (Nat.le_of_ble_eq_true rfl) trivial (Nat.le_of_ble_eq_true rfl) ?_  -- calls 61 cX4_hashWith
      refine w_st rfl rfl rfl (Nat.le_of_ble_eq_true rfl) ?_
      refine w_inc rfl rfl rfl (Nat.le_of_ble_eq_true rfl) (nI_1 _) ?_
      refine w_st rfl rfl rfl trivial ?_
      exact ih I1 h3
  have K3 : ∀ f, f ≤ 4 → ∀ I1, sp_f3 7 I I1 → mm_W 59 59 [.ref 0, .long (sp_d4 σ (sp_hl (fun s => σ (1 + s)) (sp_hl (sp_cn σ n) 2801 8) 2) f), .null, .int (nI f)] [] g I1 F := by
    refine mm_dn 4 ?_ ?_
    · intro I1 h3
      have hC := (sp_C_f3 h3 h).1
      refine w_st rfl rfl rfl trivial ?_
      refine w_st rfl rfl rfl trivial ?_
      refine w_n_ge (a := 4) (b := 4) rfl (by first | decide | omega) (by first | decide | omega) (by first | rfl | assumption | (simp only [← nI_add, ← nI_mul]; rfl)) (by first | rfl | assumption | (simp only [← nI_add, ← nI_mul]; rfl)) (fun _ => ?_) (fun c => by exfalso; omega)
      refine w_st rfl rfl rfl trivial ?_
      refine w_st rfl rfl rfl trivial ?_
      refine w_k11 (c_nextBurn hC.1) rfl ⟨rfl, by decide, by decide, by decide, Or.inl ⟨_, rfl⟩⟩ (Nat.le_of_ble_eq_true rfl) (mm_foc rfl) (Nat.le_of_ble_eq_true rfl) ?_  -- calls 57 cX4_nextBurn
      refine w_st rfl rfl rfl trivial ?_
      refine w_k21 (c_hashWith) rfl ⟨rfl, by decide, by decide, by decide, Or.inr (Or.inl ⟨_, rfl⟩)⟩ (Nat.le_of_ble_eq_true rfl) trivial (Nat.le_of_ble_eq_true rfl) ?_  -- calls 61 cX4_hashWith
      refine w_st rfl rfl rfl (Nat.le_of_ble_eq_true rfl) ?_
      refine w_st rfl rfl rfl trivial ?_
      refine w_st rfl rfl rfl trivial ?_
      refine w_k11 (c_clarity hC.1) rfl ⟨rfl, by decide, by decide, by decide, Or.inl ⟨_, rfl⟩⟩ (Nat.le_of_ble_eq_true rfl) (mm_foc rfl) (Nat.le_of_ble_eq_true rfl) ?_  -- calls 58 cX4_clarity
      refine w_k11 (c_bits hct) rfl ⟨rfl, by decide, by decide, by decide, Or.inr (Or.inl ⟨_, rfl⟩)⟩ (Nat.le_of_ble_eq_true rfl) trivial (Nat.le_of_ble_eq_true rfl) ?_  -- calls 62 cX4_bitsOfShare
      refine w_k21 (c_hashWith) rfl ⟨rfl, by decide, by decide, by decide, Or.inr (Or.inl ⟨_, rfl⟩)⟩ (Nat.le_of_ble_eq_true rfl) trivial (Nat.le_of_ble_eq_true rfl) ?_  -- calls 61 cX4_hashWith
      refine w_st rfl rfl rfl (Nat.le_of_ble_eq_true rfl) ?_
      refine w_st rfl rfl rfl trivial ?_
      refine w_st rfl rfl rfl trivial ?_
      refine w_gr (j := 11) rfl (mm_foc rfl) rfl (by decide) ?_
      refine w_gi rfl (mm_foc rfl) ?_
      rw [hC.2.2.1]
      refine w_st rfl rfl rfl trivial ?_
      refine w_k21 (c_hashWith) rfl ⟨rfl, by decide, by decide, by decide, Or.inr (Or.inl ⟨_, rfl⟩)⟩ (Nat.le_of_ble_eq_true rfl) trivial (Nat.le_of_ble_eq_true rfl) ?_  -- calls 61 cX4_hashWith
      refine w_st rfl rfl rfl (Nat.le_of_ble_eq_true rfl) ?_
      refine w_st rfl rfl rfl trivial ?_
      refine w_st rfl rfl rfl (Nat.le_of_ble_eq_true rfl) ?_
      exact K4 0 (Nat.zero_le _) I1 h3
    · intro f hf ih I1 h3
      have hC := (sp_C_f3 h3 h).1
      obtain ⟨I2, hM2, f2⟩ := c_worstLamp (g := g) hC.1 hf
      have h32 : sp_f3 7 I I2 := fun p a b c => (f2 p a b c).trans (h3 p a b c)
      have hC2 := (sp_C_f3 h32 h).1
      obtain ⟨I5, hM5, f5⟩ := c_strictest (g := g) hC2.1 hf
      have h35 : sp_f3 7 I I5 := fun p a b c => (f5 p a b c).trans (h32 p a b c)
      have hC5 := (sp_C_f3 h35 h).1
      refine w_st rfl rfl rfl trivial ?_
      refine w_st rfl rfl rfl trivial ?_
      refine w_n_ge (a := f) (b := 4) rfl (by first | decide | omega) (by first | decide | omega) (by first | rfl | assumption | (simp only [← nI_add, ← nI_mul]; rfl)) (by first | rfl | assumption | (simp only [← nI_add, ← nI_mul]; rfl)) (fun c => by exfalso; omega) (fun _ => ?_)
      refine w_st rfl rfl rfl trivial ?_
      refine w_st rfl rfl rfl trivial ?_
      refine w_st rfl rfl rfl trivial ?_
      refine w_k31 (c_hashWithField hC.1 hf) rfl ⟨rfl, by decide, by decide, by decide, Or.inl ⟨_, rfl⟩⟩ (Nat.le_of_ble_eq_true rfl) (mm_foc rfl) (Nat.le_of_ble_eq_true rfl) ?_  -- calls 60 cX4_hashWithField
      refine w_st rfl rfl rfl (Nat.le_of_ble_eq_true rfl) ?_
      refine w_st rfl rfl rfl trivial ?_
      refine w_st rfl rfl rfl trivial ?_
      refine w_st rfl rfl rfl trivial ?_
      refine w_k21 (hM2) rfl ⟨rfl, by decide, by decide, by decide, Or.inl ⟨_, rfl⟩⟩ (Nat.le_of_ble_eq_true rfl) (mm_foc rfl) (Nat.le_of_ble_eq_true rfl) ?_  -- calls 55 cX4_worstLamp
      refine w_st rfl rfl rfl trivial ?_
      refine w_k21 (c_hashWith) rfl ⟨rfl, by decide, by decide, by decide, Or.inr (Or.inl ⟨_, rfl⟩)⟩ (Nat.le_of_ble_eq_true rfl) trivial (Nat.le_of_ble_eq_true rfl) ?_  -- calls 61 cX4_hashWith
      refine w_st rfl rfl rfl (Nat.le_of_ble_eq_true rfl) ?_
      refine w_st rfl rfl rfl trivial ?_
      refine w_st rfl rfl rfl trivial ?_
      refine w_st rfl rfl rfl trivial ?_
      refine w_k21 (hM5) rfl ⟨rfl, by decide, by decide, by decide, Or.inl ⟨_, rfl⟩⟩ (Nat.le_of_ble_eq_true rfl) (mm_foc rfl) (Nat.le_of_ble_eq_true rfl) ?_  -- calls 56 cX4_strictest
      refine w_st rfl rfl rfl trivial ?_
      refine w_k21 (c_hashWith) rfl ⟨rfl, by decide, by decide, by decide, Or.inr (Or.inl ⟨_, rfl⟩)⟩ (Nat.le_of_ble_eq_true rfl) trivial (Nat.le_of_ble_eq_true rfl) ?_  -- calls 61 cX4_hashWith
      refine w_st rfl rfl rfl (Nat.le_of_ble_eq_true rfl) ?_
      refine w_st rfl rfl rfl trivial ?_
      refine w_st rfl rfl rfl trivial ?_
      refine w_st rfl rfl rfl trivial ?_
      refine w_st rfl rfl rfl trivial ?_
      refine w_k31 (c_read (n := 21845) hC5.1 hf (by decide)) rfl ⟨rfl, by decide, by decide, by decide, Or.inl ⟨_, rfl⟩⟩ (Nat.le_of_ble_eq_true rfl) (mm_foc rfl) (Nat.le_of_ble_eq_true rfl) ?_  -- calls 51 cX4_read
      refine w_st rfl rfl rfl trivial ?_
      refine w_k21 (c_hashWith) rfl ⟨rfl, by decide, by decide, by decide, Or.inr (Or.inl ⟨_, rfl⟩)⟩ (Nat.le_of_ble_eq_true rfl) trivial (Nat.le_of_ble_eq_true rfl) ?_  -- calls 61 cX4_hashWith
      refine w_st rfl rfl rfl (Nat.le_of_ble_eq_true rfl) ?_
      refine w_inc rfl rfl rfl (Nat.le_of_ble_eq_true rfl) (nI_1 _) ?_
      refine w_st rfl rfl rfl trivial ?_
      exact ih I5 h35
  have K2 : ∀ s, s ≤ 2 → mm_W 59 31 [.ref 0, .long (sp_hl (fun s => σ (1 + s)) (sp_hl (sp_cn σ n) 2801 8) s), .null, .int (nI s)] [] g I F := by
    refine mm_dn 2 ?_ ?_
    · skip
      refine w_st rfl rfl rfl trivial ?_
      refine w_st rfl rfl rfl trivial ?_
      refine w_n_ge (a := 2) (b := 2) rfl (by first | decide | omega) (by first | decide | omega) (by first | rfl | assumption | (simp only [← nI_add, ← nI_mul]; rfl)) (by first | rfl | assumption | (simp only [← nI_add, ← nI_mul]; rfl)) (fun _ => ?_) (fun c => by exfalso; omega)
      refine w_st rfl rfl rfl trivial ?_
      refine w_st rfl rfl rfl (Nat.le_of_ble_eq_true rfl) ?_
      exact K3 0 (by decide) I (fun _ _ _ _ => rfl)
    · intro s hs ih
      refine w_st rfl rfl rfl trivial ?_
      refine w_st rfl rfl rfl trivial ?_
      refine w_n_ge (a := s) (b := 2) rfl (by first | decide | omega) (by first | decide | omega) (by first | rfl | assumption | (simp only [← nI_add, ← nI_mul]; rfl)) (by first | rfl | assumption | (simp only [← nI_add, ← nI_mul]; rfl)) (fun c => by exfalso; omega) (fun _ => ?_)
      refine w_st rfl rfl rfl trivial ?_
      refine w_st rfl rfl rfl trivial ?_
      refine w_gr (j := 1) rfl (mm_foc rfl) rfl (by decide) ?_
      refine w_gr (j := 5) rfl (mm_foc rfl) rfl (by decide) ?_
      refine w_st rfl rfl rfl trivial ?_
      refine w_ia (s) rfl (mm_fac (n := 2) rfl) (by first | rfl | assumption | (simp only [← nI_add, ← nI_mul]; rfl)) (by first | decide | omega) ?_
      rw [sp_Ds h.1 hs]
      refine w_st rfl rfl rfl trivial ?_
      refine w_k21 (c_hashWith) rfl ⟨rfl, by decide, by decide, by decide, Or.inr (Or.inl ⟨_, rfl⟩)⟩ (Nat.le_of_ble_eq_true rfl) trivial (Nat.le_of_ble_eq_true rfl) ?_  -- calls 61 cX4_hashWith
      refine w_st rfl rfl rfl (Nat.le_of_ble_eq_true rfl) ?_
      refine w_inc rfl rfl rfl (Nat.le_of_ble_eq_true rfl) (nI_1 _) ?_
      refine w_st rfl rfl rfl trivial ?_
      exact ih
  have K1 : ∀ w, w ≤ 8 → mm_W 59 6 [.ref 0, .long (sp_hl (sp_cn σ n) 2801 w), .null, .int (nI w)] [] g I F := by
    refine mm_dn 8 ?_ ?_
    · skip
      refine w_st rfl rfl rfl trivial ?_
      refine w_st rfl rfl rfl trivial ?_
      refine w_n_ge (a := 8) (b := 8) rfl (by first | decide | omega) (by first | decide | omega) (by first | rfl | assumption | (simp only [← nI_add, ← nI_mul]; rfl)) (by first | rfl | assumption | (simp only [← nI_add, ← nI_mul]; rfl)) (fun _ => ?_) (fun c => by exfalso; omega)
      refine w_st rfl rfl rfl trivial ?_
      refine w_st rfl rfl rfl (Nat.le_of_ble_eq_true rfl) ?_
      exact K2 0 (by decide)
    · intro w hw ih
      refine w_st rfl rfl rfl trivial ?_
      refine w_st rfl rfl rfl trivial ?_
      refine w_n_ge (a := w) (b := 8) rfl (by first | decide | omega) (by first | decide | omega) (by first | rfl | assumption | (simp only [← nI_add, ← nI_mul]; rfl)) (by first | rfl | assumption | (simp only [← nI_add, ← nI_mul]; rfl)) (fun c => by exfalso; omega) (fun _ => ?_)
      refine w_st rfl rfl rfl trivial ?_
      refine w_st rfl rfl rfl trivial ?_
      refine w_st rfl rfl rfl trivial ?_
      refine w_k21 (c_count h.1 h.2.1.1 hw) rfl ⟨rfl, by decide, by decide, by decide, Or.inl ⟨_, rfl⟩⟩ (Nat.le_of_ble_eq_true rfl) (mm_foc rfl) (Nat.le_of_ble_eq_true rfl) ?_  -- calls 52 cX4_count
      refine w_st rfl rfl rfl trivial ?_
      refine w_k21 (c_hashWith) rfl ⟨rfl, by decide, by decide, by decide, Or.inr (Or.inl ⟨_, rfl⟩)⟩ (Nat.le_of_ble_eq_true rfl) trivial (Nat.le_of_ble_eq_true rfl) ?_  -- calls 61 cX4_hashWith
      refine w_st rfl rfl rfl (Nat.le_of_ble_eq_true rfl) ?_
      refine w_inc rfl rfl rfl (Nat.le_of_ble_eq_true rfl) (nI_1 _) ?_
      refine w_st rfl rfl rfl trivial ?_
      exact ih
  exact K1 0 (by decide)
end SM
