/-! the class's looks -/
/-- a method that throws E at once -/
def mm_TH (mj L : Nat) (av : List Value) (g : mm_Gg) (I : mm_Is) (E : Nat) : Prop := mm_Me mj L av (mm_hp g I) ((E, none), mm_hp (mm_gx g) I)
def mm_TX (E : Nat) (g : mm_Gg) (I : mm_Is) : mm_Ph := fun q g' I' => q = (E, none) ∧ g' = mm_gx g ∧ I' = I
theorem w_MT {mj L : Nat} {av : List Value} {g : mm_Gg} {I : mm_Is} {E : Nat} (h : mm_W mj 0 (mm_ent L av) [] g I (mm_TX E g I)) : mm_TH mj L av g I E := by
  obtain ⟨q, g', J, h1, h2, h3, h4⟩ := h
  subst h2 h3 h4
  exact h1
noncomputable def sp_fd (σ : sp_St) (f : Nat) : Nat → Int32
  | 0 => σ (4 + f)
  | 1 => sp_if (sp_vis σ f) (sp_R σ f (σ (4 + f)).toNatClampNeg) (-1)
  | 2 => sp_lit σ f
  | 3 => sp_pop (σ (8 + f))
  | 4 => sp_if (sp_vis σ f) (sp_mi (σ (8 + f)) (σ (4 + f)).toNatClampNeg (sp_R σ f (σ (4 + f)).toNatClampNeg)) 0
  | 5 => sp_mk (sp_R σ f) 10
  | 6 => sp_co (sp_R σ f) (σ (8 + f)) 10
  | _ => sp_fh (sp_R σ f) 10
noncomputable def sp_lo (σ : sp_St) (f l : Nat) : Nat → Int32
  | 0 => mm_bi (¬ σ (8 + f) &&& sp_bit l = 0)
  | 1 => σ (12 + (15 * f + l))
  | 2 => mm_bi (¬ sp_lit σ f &&& sp_bit l = 0)
  | _ => nI (sp_dw (sp_R σ f) l 10)
noncomputable def sp_tb (σ : sp_St) (f d : Nat) : Nat → Int32
  | 0 => sp_R σ f d
  | 1 => sp_if (sp_R σ f d = -1) (-1) (sp_sh (σ (8 + f)) d (sp_R σ f d))
  | _ => sp_if (sp_R σ f d = -1) (-1) (sp_mi (σ (8 + f)) d (sp_R σ f d))
noncomputable def sp_cn (σ : sp_St) (k : Nat) : Nat → Int32
  | 0 => σ 0
  | 1 => sp_bl σ 4
  | 2 => nI (sp_wd σ 4)
  | 3 => nI (sp_wd σ 4) - nI (sp_fs σ 4)
  | 4 => sp_ll σ 4
  | 5 => σ 3
  | 6 => sp_ns σ 4 (-1)
  | _ => nI k
/-- what would be the table -/
noncomputable def sp_Q (σ : sp_St) (f l : Nat) : Nat → Int32 := sp_row (σ (8 + f) ||| sp_bit l) (σ 1)
noncomputable def sp_ib (σ : sp_St) (f l : Nat) : Nat → Int32
  | 0 => nI (sp_no (sp_Q σ f l) 10)
  | 1 => nI (sp_cg (sp_Q σ f l) (sp_R σ f) 10)
  | _ => sp_co (sp_Q σ f l) (σ (8 + f) ||| sp_bit l) 10
/-- the worst lamp, what it hides, what it changes, of the first n lamps -/
noncomputable def sp_wl (σ : sp_St) (f : Nat) : Nat → Int32 × Int32 × Int32
  | 0 => (-1, -1, -1)
  | l + 1 => sp_if (¬ σ (8 + f) &&& sp_bit l = 0) (sp_wl σ f l) (sp_if ((sp_wl σ f l).2.1 < sp_ib σ f l 0 ∨ (sp_ib σ f l 0 = (sp_wl σ f l).2.1 ∧ (sp_wl σ f l).2.2 < sp_ib σ f l 1)) (nI l, sp_ib σ f l 0, sp_ib σ f l 1) (sp_wl σ f l))
noncomputable def sp_sr (b : Int32) : Nat → Int32
  | 0 => 0
  | s + 1 => sp_if (sp_no (sp_row b (nI (s + 1))) 10 = 0) (nI (s + 1)) (sp_sr b s)
section SM
variable {g : mm_Gg} {I : mm_Is} {x y z : Int32} {l d k t u f w n : Nat} {σ : sp_St}
theorem sp_D_f3 {I' : mm_Is} (h : sp_f3 7 I I') (x : sp_D I σ) : sp_D I' σ := by
  have e : ∀ p, ¬ p = 8 → ¬ p = 9 → ¬ p = 10 → I' p = I p := fun p a b c => h p a b c
  unfold sp_D sp_bd at x ⊢
  rw [e (1 + 1 + 0) (by decide) (by decide) (by decide), e (1 + 1 + 1) (by decide) (by decide) (by decide), e (1 + 1 + 2) (by decide) (by decide) (by decide), e (1 + 1 + 3) (by decide) (by decide) (by decide), e 1 (by decide) (by decide) (by decide)]
  refine ⟨x.1, fun f hf d hd => ?_⟩
  have := x.2 f hf d hd
  unfold sp_te at this ⊢
  rw [e (45 + 4 * f + 1 + 0) (by omega) (by omega) (by omega), e (45 + 4 * f + 1 + 1) (by omega) (by omega) (by omega), e (45 + 4 * f + 1 + 2) (by omega) (by omega) (by omega)]
  exact this
theorem c_field_1 (h1 : ¬ sp_lt 4 x) : mm_TH 34 5 [.ref 0, .int x, .int y] g I 1 := by
  refine w_MT ?_
  show mm_W 34 0 [.ref 0, .int x, .int y, .null, .null] [] _ _ _
  generalize hF : mm_TX _ _ _ = F
  refine w_st rfl rfl rfl trivial ?_
  refine w_k11 (c_isField) rfl ⟨rfl, by decide, by decide, by decide, Or.inr (Or.inl ⟨_, rfl⟩)⟩ (Nat.le_of_ble_eq_true rfl) trivial (Nat.le_of_ble_eq_true rfl) ?_  -- calls 44 cX4_isField
  refine w_b_ne rfl (fun z => absurd z (h1)) (fun _ => ?_)
  refine w_thr rfl (Nat.le_of_ble_eq_true rfl) ?_
  exact hF ▸ ⟨rfl, rfl, rfl⟩
theorem c_field_2 (h1 : sp_lt 4 x) (h2 : ¬ sp_lt 8 y) : mm_TH 34 5 [.ref 0, .int x, .int y] g I 2 := by
  refine w_MT ?_
  show mm_W 34 0 [.ref 0, .int x, .int y, .null, .null] [] _ _ _
  generalize hF : mm_TX _ _ _ = F
  refine w_st rfl rfl rfl trivial ?_
  refine w_k11 (c_isField) rfl ⟨rfl, by decide, by decide, by decide, Or.inr (Or.inl ⟨_, rfl⟩)⟩ (Nat.le_of_ble_eq_true rfl) trivial (Nat.le_of_ble_eq_true rfl) ?_  -- calls 44 cX4_isField
  refine w_b_ne rfl (fun _ => ?_) (fun z => absurd (h1) z)
  refine w_st rfl rfl rfl trivial ?_
  refine w_z_lt rfl (fun c1 => ?_) (fun c1 => ?_)
  · skip
    refine w_thr rfl (Nat.le_of_ble_eq_true rfl) ?_
    exact hF ▸ ⟨rfl, rfl, rfl⟩
  · skip
    refine w_st rfl rfl rfl trivial ?_
    refine w_st rfl rfl rfl trivial ?_
    refine w_v_lt rfl (fun z => by first | exact absurd z (fun c2 => h2 (sp_lt_i (by decide) rfl c1 (Int32.not_le.2 c2))) | exact absurd (fun c2 => h2 (sp_lt_i (by decide) rfl c1 (Int32.not_le.2 c2))) z) (fun _ => ?_)
    refine w_thr rfl (Nat.le_of_ble_eq_true rfl) ?_
    exact hF ▸ ⟨rfl, rfl, rfl⟩
theorem c_field (h : sp_D I σ) (hf : f < 4) (hw : w < 8) : mm_M 34 5 [.ref 0, .int (nI f), .int (nI w)] g I (some (.int (sp_fd σ f w))) I := by
  have hT : mm_T (45 + 4 * f) := mm_T_f hf
  refine w_M ?_
  show mm_W 34 0 [.ref 0, .int (nI f), .int (nI w), .null, .null] [] _ _ _
  generalize hF : mm_EX _ _ _ = F
  refine w_st rfl rfl rfl trivial ?_
  refine w_k11 (c_isField) rfl ⟨rfl, by decide, by decide, by decide, Or.inr (Or.inl ⟨_, rfl⟩)⟩ (Nat.le_of_ble_eq_true rfl) trivial (Nat.le_of_ble_eq_true rfl) ?_  -- calls 44 cX4_isField
  refine w_b_ne rfl (fun _ => ?_) (fun z => absurd (⟨f, hf, rfl⟩) z)
  refine w_st rfl rfl rfl trivial ?_
  refine w_m_lt (a := w) rfl (by first | decide | omega) (by first | rfl | assumption | (simp only [← nI_add, ← nI_mul]; rfl)) ?_
  refine w_st rfl rfl rfl trivial ?_
  refine w_st rfl rfl rfl trivial ?_
  refine w_n_lt (a := w) (b := 8) rfl (by first | decide | omega) (by first | decide | omega) (by first | rfl | assumption | (simp only [← nI_add, ← nI_mul]; rfl)) (by first | rfl | assumption | (simp only [← nI_add, ← nI_mul]; rfl)) (fun _ => ?_) (fun c => by exfalso; omega)
  refine w_st rfl rfl rfl trivial ?_
  refine w_gr (j := 1) rfl (mm_foc rfl) rfl (by decide) ?_
  refine w_gr (j := 2) rfl (mm_foc rfl) rfl (by decide) ?_
  refine w_st rfl rfl rfl trivial ?_
  refine w_ia (f) rfl (mm_fac (n := 4) rfl) (by first | rfl | assumption | (simp only [← nI_add, ← nI_mul]; rfl)) (by first | decide | omega) ?_
  rw [sp_Dd h hf]
  refine w_st rfl rfl rfl (Nat.le_of_ble_eq_true rfl) ?_
  refine w_st rfl rfl rfl trivial ?_
  refine w_gr (j := 6) rfl (mm_foc rfl) rfl (by decide) ?_
  refine w_st rfl rfl rfl trivial ?_
  refine w_ra (j := 45 + 4 * (f)) (f) rfl (Or.inl (mm_fac (n := 4) rfl)) (by first | rfl | assumption | (simp only [← nI_add, ← nI_mul]; rfl)) (by first | decide | omega) (mm_T_6 (by omega)) (by omega) ?_
  refine w_st rfl rfl rfl (Nat.le_of_ble_eq_true rfl) ?_
  refine w_st rfl rfl rfl trivial ?_
  have hw' : w = 0 ∨ w = 1 ∨ w = 2 ∨ w = 3 ∨ w = 4 ∨ w = 5 ∨ w = 6 ∨ w = 7 := by omega
  rcases hw' with rfl | rfl | rfl | rfl | rfl | rfl | rfl | rfl
  · skip
    refine w_tab rfl 100 (by decide +kernel) ?_
    refine w_st rfl rfl rfl trivial ?_
    refine w_reti rfl ?_
    exact hF ▸ mm_EX_i (rfl)
  · skip
    refine w_tab rfl 102 (by decide +kernel) ?_
    refine w_st rfl rfl rfl trivial ?_
    refine w_st rfl rfl rfl trivial ?_
    refine w_k21 (c_shapeOf hT (h.2 f hf)) rfl ⟨rfl, by decide, by decide, by decide, Or.inl ⟨_, rfl⟩⟩ (Nat.le_of_ble_eq_true rfl) (mm_T_o hT) (Nat.le_of_ble_eq_true rfl) ?_  -- calls 15 cX2_shapeOf
    refine w_reti rfl ?_
    exact hF ▸ mm_EX_i (rfl)
  · skip
    refine w_tab rfl 109 (by decide +kernel) ?_
    refine w_st rfl rfl rfl trivial ?_
    refine w_st rfl rfl rfl trivial ?_
    refine w_k21 (c_litOf h hf) rfl ⟨rfl, by decide, by decide, by decide, Or.inl ⟨_, rfl⟩⟩ (Nat.le_of_ble_eq_true rfl) (mm_foc rfl) (Nat.le_of_ble_eq_true rfl) ?_  -- calls 61 cX4_litOf
    refine w_reti rfl ?_
    exact hF ▸ mm_EX_i (rfl)
  · skip
    refine w_tab rfl 115 (by decide +kernel) ?_
    refine w_st rfl rfl rfl trivial ?_
    refine w_gr (j := 1) rfl (mm_foc rfl) rfl (by decide) ?_
    refine w_gr (j := 3) rfl (mm_foc rfl) rfl (by decide) ?_
    refine w_st rfl rfl rfl trivial ?_
    refine w_ia (f) rfl (mm_fac (n := 4) rfl) (by first | rfl | assumption | (simp only [← nI_add, ← nI_mul]; rfl)) (by first | decide | omega) ?_
    rw [sp_Db h hf]
    refine w_k11 (c_bitCount) rfl ⟨rfl, by decide, by decide, by decide, Or.inr (Or.inl ⟨_, rfl⟩)⟩ (Nat.le_of_ble_eq_true rfl) trivial (Nat.le_of_ble_eq_true rfl) ?_  -- calls 67 cJ6_bitCount_0f7a4
    refine w_reti rfl ?_
    exact hF ▸ mm_EX_i (rfl)
  · skip
    refine w_tab rfl 128 (by decide +kernel) ?_
    refine w_st rfl rfl rfl trivial ?_
    refine w_st rfl rfl rfl trivial ?_
    refine w_k21 (c_isShown h hf) rfl ⟨rfl, by decide, by decide, by decide, Or.inl ⟨_, rfl⟩⟩ (Nat.le_of_ble_eq_true rfl) (mm_foc rfl) (Nat.le_of_ble_eq_true rfl) ?_  -- calls 60 cX4_isShown
    refine w_b_eq rfl (fun c => ?_) (fun c => ?_)
    · skip
      refine w_st rfl rfl rfl trivial ?_
      refine w_reti rfl ?_
      exact hF ▸ mm_EX_i ((sp_if_f c _ _).symm)
    · skip
      refine w_st rfl rfl rfl trivial ?_
      refine w_st rfl rfl rfl trivial ?_
      refine w_k21 (c_missingOf hT (h.2 f hf)) rfl ⟨rfl, by decide, by decide, by decide, Or.inl ⟨_, rfl⟩⟩ (Nat.le_of_ble_eq_true rfl) (mm_T_o hT) (Nat.le_of_ble_eq_true rfl) ?_  -- calls 17 cX2_missingOf
      refine w_st rfl rfl rfl trivial ?_
      refine w_reti rfl ?_
      exact hF ▸ mm_EX_i ((sp_if_t c _ _).trans (sp_if_t c _ _).symm)
  · skip
    refine w_tab rfl 147 (by decide +kernel) ?_
    refine w_st rfl rfl rfl trivial ?_
    refine w_k11 (c_digitsAsMask hT (h.2 f hf)) rfl ⟨rfl, by decide, by decide, by decide, Or.inl ⟨_, rfl⟩⟩ (Nat.le_of_ble_eq_true rfl) (mm_T_o hT) (Nat.le_of_ble_eq_true rfl) ?_  -- calls 18 cX2_digitsAsMask
    refine w_reti rfl ?_
    exact hF ▸ mm_EX_i (rfl)
  · skip
    refine w_tab rfl 153 (by decide +kernel) ?_
    refine w_st rfl rfl rfl trivial ?_
    refine w_k11 (c_leastDifference hT (h.2 f hf)) rfl ⟨rfl, by decide, by decide, by decide, Or.inl ⟨_, rfl⟩⟩ (Nat.le_of_ble_eq_true rfl) (mm_T_o hT) (Nat.le_of_ble_eq_true rfl) ?_  -- calls 21 cX2_leastDifference
    refine w_reti rfl ?_
    exact hF ▸ mm_EX_i (rfl)
  · skip
    refine w_tab rfl 159 (by decide +kernel) ?_
    refine w_st rfl rfl rfl trivial ?_
    refine w_k11 (c_firstHidden hT (h.2 f hf)) rfl ⟨rfl, by decide, by decide, by decide, Or.inl ⟨_, rfl⟩⟩ (Nat.le_of_ble_eq_true rfl) (mm_T_o hT) (Nat.le_of_ble_eq_true rfl) ?_  -- calls 20 cX2_firstHidden
    refine w_reti rfl ?_
    exact hF ▸ mm_EX_i (rfl)
theorem c_lampOf_1 (h1 : ¬ (sp_lt 4 x ∧ sp_lt 15 y)) : mm_TH 35 4 [.ref 0, .int x, .int y, .int z] g I 1 := by
  refine w_MT ?_
  show mm_W 35 0 [.ref 0, .int x, .int y, .int z] [] _ _ _
  generalize hF : mm_TX _ _ _ = F
  refine w_st rfl rfl rfl trivial ?_
  refine w_k11 (c_isField) rfl ⟨rfl, by decide, by decide, by decide, Or.inr (Or.inl ⟨_, rfl⟩)⟩ (Nat.le_of_ble_eq_true rfl) trivial (Nat.le_of_ble_eq_true rfl) ?_  -- calls 44 cX4_isField
  refine w_b_eq rfl (fun c => ?_) (fun c => ?_)
  · skip
    refine w_thr rfl (Nat.le_of_ble_eq_true rfl) ?_
    exact hF ▸ ⟨rfl, rfl, rfl⟩
  · skip
    refine w_st rfl rfl rfl trivial ?_
    refine w_k11 (c_isLamp) rfl ⟨rfl, by decide, by decide, by decide, Or.inr (Or.inl ⟨_, rfl⟩)⟩ (Nat.le_of_ble_eq_true rfl) trivial (Nat.le_of_ble_eq_true rfl) ?_  -- calls 45 cX4_isLamp
    refine w_b_ne rfl (fun z => absurd z (fun z => h1 ⟨c, z⟩)) (fun _ => ?_)
    refine w_thr rfl (Nat.le_of_ble_eq_true rfl) ?_
    exact hF ▸ ⟨rfl, rfl, rfl⟩
theorem c_lampOf_2 (h1 : sp_lt 4 x ∧ sp_lt 15 y) (h2 : ¬ sp_lt 4 z) : mm_TH 35 4 [.ref 0, .int x, .int y, .int z] g I 2 := by
  refine w_MT ?_
  show mm_W 35 0 [.ref 0, .int x, .int y, .int z] [] _ _ _
  generalize hF : mm_TX _ _ _ = F
  refine w_st rfl rfl rfl trivial ?_
  refine w_k11 (c_isField) rfl ⟨rfl, by decide, by decide, by decide, Or.inr (Or.inl ⟨_, rfl⟩)⟩ (Nat.le_of_ble_eq_true rfl) trivial (Nat.le_of_ble_eq_true rfl) ?_  -- calls 44 cX4_isField
  refine w_b_eq rfl (fun z => absurd (h1.1) z) (fun _ => ?_)
  refine w_st rfl rfl rfl trivial ?_
  refine w_k11 (c_isLamp) rfl ⟨rfl, by decide, by decide, by decide, Or.inr (Or.inl ⟨_, rfl⟩)⟩ (Nat.le_of_ble_eq_true rfl) trivial (Nat.le_of_ble_eq_true rfl) ?_  -- calls 45 cX4_isLamp
  refine w_b_ne rfl (fun _ => ?_) (fun z => absurd (h1.2) z)
  refine w_st rfl rfl rfl trivial ?_
  refine w_z_lt rfl (fun c1 => ?_) (fun c1 => ?_)
  · skip
    refine w_thr rfl (Nat.le_of_ble_eq_true rfl) ?_
    exact hF ▸ ⟨rfl, rfl, rfl⟩
  · skip
    refine w_st rfl rfl rfl trivial ?_
    refine w_st rfl rfl rfl trivial ?_
    refine w_v_lt rfl (fun z => by first | exact absurd z (fun c2 => h2 (sp_lt_i (by decide) rfl c1 (Int32.not_le.2 c2))) | exact absurd (fun c2 => h2 (sp_lt_i (by decide) rfl c1 (Int32.not_le.2 c2))) z) (fun _ => ?_)
    refine w_thr rfl (Nat.le_of_ble_eq_true rfl) ?_
    exact hF ▸ ⟨rfl, rfl, rfl⟩
theorem c_lampOf (h : sp_D I σ) (hf : f < 4) (hl : l < 15) (hw : w < 4) : mm_M 35 4 [.ref 0, .int (nI f), .int (nI l), .int (nI w)] g I (some (.int (sp_lo σ f l w))) I := by
  have hT : mm_T (45 + 4 * f) := mm_T_f hf
  refine w_M ?_
  show mm_W 35 0 [.ref 0, .int (nI f), .int (nI l), .int (nI w)] [] _ _ _
  generalize hF : mm_EX _ _ _ = F
  refine w_st rfl rfl rfl trivial ?_
  refine w_k11 (c_isField) rfl ⟨rfl, by decide, by decide, by decide, Or.inr (Or.inl ⟨_, rfl⟩)⟩ (Nat.le_of_ble_eq_true rfl) trivial (Nat.le_of_ble_eq_true rfl) ?_  -- calls 44 cX4_isField
  refine w_b_eq rfl (fun z => absurd (⟨f, hf, rfl⟩) z) (fun _ => ?_)
  refine w_st rfl rfl rfl trivial ?_
  refine w_k11 (c_isLamp) rfl ⟨rfl, by decide, by decide, by decide, Or.inr (Or.inl ⟨_, rfl⟩)⟩ (Nat.le_of_ble_eq_true rfl) trivial (Nat.le_of_ble_eq_true rfl) ?_  -- calls 45 cX4_isLamp
  refine w_b_ne rfl (fun _ => ?_) (fun z => absurd (⟨l, hl, rfl⟩) z)
  refine w_st rfl rfl rfl trivial ?_
  refine w_m_lt (a := w) rfl (by first | decide | omega) (by first | rfl | assumption | (simp only [← nI_add, ← nI_mul]; rfl)) ?_
  refine w_st rfl rfl rfl trivial ?_
  refine w_st rfl rfl rfl trivial ?_
  refine w_n_lt (a := w) (b := 4) rfl (by first | decide | omega) (by first | decide | omega) (by first | rfl | assumption | (simp only [← nI_add, ← nI_mul]; rfl)) (by first | rfl | assumption | (simp only [← nI_add, ← nI_mul]; rfl)) (fun _ => ?_) (fun c => by exfalso; omega)
  refine w_st rfl rfl rfl trivial ?_
  have hw' : w = 0 ∨ w = 1 ∨ w = 2 ∨ w = 3 := by omega
  rcases hw' with rfl | rfl | rfl | rfl
  · skip
    refine w_tab rfl 72 (by decide +kernel) ?_
    refine w_st rfl rfl rfl trivial ?_
    refine w_gr (j := 1) rfl (mm_foc rfl) rfl (by decide) ?_
    refine w_gr (j := 3) rfl (mm_foc rfl) rfl (by decide) ?_
    refine w_st rfl rfl rfl trivial ?_
    refine w_ia (f) rfl (mm_fac (n := 4) rfl) (by first | rfl | assumption | (simp only [← nI_add, ← nI_mul]; rfl)) (by first | decide | omega) ?_
    rw [sp_Db h hf]
    refine w_st rfl rfl rfl trivial ?_
    refine w_k21 (c_has) rfl ⟨rfl, by decide, by decide, by decide, Or.inr (Or.inl ⟨_, rfl⟩)⟩ (Nat.le_of_ble_eq_true rfl) trivial (Nat.le_of_ble_eq_true rfl) ?_  -- calls 50 cX4_has
    refine w_b_eq rfl (fun c => ?_) (fun c => ?_)
    · skip
      refine w_st rfl rfl rfl trivial ?_
      refine w_reti rfl ?_
      exact hF ▸ mm_EX_i ((mm_bi_f c).symm)
    · skip
      refine w_st rfl rfl rfl trivial ?_
      refine w_st rfl rfl rfl trivial ?_
      refine w_reti rfl ?_
      exact hF ▸ mm_EX_i ((mm_bi_t c).symm)
  · skip
    refine w_tab rfl 94 (by decide +kernel) ?_
    refine w_st rfl rfl rfl trivial ?_
    refine w_gr (j := 1) rfl (mm_foc rfl) rfl (by decide) ?_
    refine w_st rfl rfl rfl trivial ?_
    refine w_st rfl rfl rfl trivial ?_
    refine w_k31 (c_hoursOf h hf hl) rfl ⟨rfl, by decide, by decide, by decide, Or.inl ⟨_, rfl⟩⟩ (Nat.le_of_ble_eq_true rfl) (mm_foc rfl) (Nat.le_of_ble_eq_true rfl) ?_  -- calls 3 cX0_hoursOf
    refine w_reti rfl ?_
    exact hF ▸ mm_EX_i (rfl)
  · skip
    refine w_tab rfl 104 (by decide +kernel) ?_
    refine w_st rfl rfl rfl trivial ?_
    refine w_st rfl rfl rfl trivial ?_
    refine w_k21 (c_litOf h hf) rfl ⟨rfl, by decide, by decide, by decide, Or.inl ⟨_, rfl⟩⟩ (Nat.le_of_ble_eq_true rfl) (mm_foc rfl) (Nat.le_of_ble_eq_true rfl) ?_  -- calls 61 cX4_litOf
    refine w_st rfl rfl rfl trivial ?_
    refine w_k21 (c_has) rfl ⟨rfl, by decide, by decide, by decide, Or.inr (Or.inl ⟨_, rfl⟩)⟩ (Nat.le_of_ble_eq_true rfl) trivial (Nat.le_of_ble_eq_true rfl) ?_  -- calls 50 cX4_has
    refine w_b_eq rfl (fun c => ?_) (fun c => ?_)
    · skip
      refine w_st rfl rfl rfl trivial ?_
      refine w_reti rfl ?_
      exact hF ▸ mm_EX_i ((mm_bi_f c).symm)
    · skip
      refine w_st rfl rfl rfl trivial ?_
      refine w_st rfl rfl rfl trivial ?_
      refine w_reti rfl ?_
      exact hF ▸ mm_EX_i ((mm_bi_t c).symm)
  · skip
    refine w_tab rfl 122 (by decide +kernel) ?_
    refine w_st rfl rfl rfl trivial ?_
    refine w_gr (j := 6) rfl (mm_foc rfl) rfl (by decide) ?_
    refine w_st rfl rfl rfl trivial ?_
    refine w_ra (j := 45 + 4 * (f)) (f) rfl (Or.inl (mm_fac (n := 4) rfl)) (by first | rfl | assumption | (simp only [← nI_add, ← nI_mul]; rfl)) (by first | decide | omega) (mm_T_6 (by omega)) (by omega) ?_
    refine w_st rfl rfl rfl trivial ?_
    refine w_k21 (c_digitsWith hT (h.2 f hf)) rfl ⟨rfl, by decide, by decide, by decide, Or.inl ⟨_, rfl⟩⟩ (Nat.le_of_ble_eq_true rfl) (mm_T_o hT) (Nat.le_of_ble_eq_true rfl) ?_  -- calls 22 cX2_digitsWith
    refine w_reti rfl ?_
    exact hF ▸ mm_EX_i (rfl)
theorem c_table_1 (h1 : ¬ sp_lt 4 x) : mm_TH 36 5 [.ref 0, .int x, .int y, .int z] g I 1 := by
  refine w_MT ?_
  show mm_W 36 0 [.ref 0, .int x, .int y, .int z, .null] [] _ _ _
  generalize hF : mm_TX _ _ _ = F
  refine w_st rfl rfl rfl trivial ?_
  refine w_k11 (c_isField) rfl ⟨rfl, by decide, by decide, by decide, Or.inr (Or.inl ⟨_, rfl⟩)⟩ (Nat.le_of_ble_eq_true rfl) trivial (Nat.le_of_ble_eq_true rfl) ?_  -- calls 44 cX4_isField
  refine w_b_ne rfl (fun z => absurd z (h1)) (fun _ => ?_)
  refine w_thr rfl (Nat.le_of_ble_eq_true rfl) ?_
  exact hF ▸ ⟨rfl, rfl, rfl⟩
theorem c_table_2 (h1 : sp_lt 4 x) (h2 : ¬ (sp_lt 10 y ∧ sp_lt 3 z)) : mm_TH 36 5 [.ref 0, .int x, .int y, .int z] g I 2 := by
  refine w_MT ?_
  show mm_W 36 0 [.ref 0, .int x, .int y, .int z, .null] [] _ _ _
  generalize hF : mm_TX _ _ _ = F
  refine w_st rfl rfl rfl trivial ?_
  refine w_k11 (c_isField) rfl ⟨rfl, by decide, by decide, by decide, Or.inr (Or.inl ⟨_, rfl⟩)⟩ (Nat.le_of_ble_eq_true rfl) trivial (Nat.le_of_ble_eq_true rfl) ?_  -- calls 44 cX4_isField
  refine w_b_ne rfl (fun _ => ?_) (fun z => absurd (h1) z)
  refine w_st rfl rfl rfl trivial ?_
  refine w_k11 (c_isDigit) rfl ⟨rfl, by decide, by decide, by decide, Or.inr (Or.inl ⟨_, rfl⟩)⟩ (Nat.le_of_ble_eq_true rfl) trivial (Nat.le_of_ble_eq_true rfl) ?_  -- calls 46 cX4_isDigit
  refine w_b_eq rfl (fun c => ?_) (fun c => ?_)
  · skip
    refine w_thr rfl (Nat.le_of_ble_eq_true rfl) ?_
    exact hF ▸ ⟨rfl, rfl, rfl⟩
  · skip
    refine w_st rfl rfl rfl trivial ?_
    refine w_z_lt rfl (fun c1 => ?_) (fun c1 => ?_)
    · skip
      refine w_thr rfl (Nat.le_of_ble_eq_true rfl) ?_
      exact hF ▸ ⟨rfl, rfl, rfl⟩
    · skip
      refine w_st rfl rfl rfl trivial ?_
      refine w_st rfl rfl rfl trivial ?_
      refine w_v_lt rfl (fun z => by first | exact absurd z (fun c2 => h2 ⟨c, sp_lt_i (by decide) rfl c1 (Int32.not_le.2 c2)⟩) | exact absurd (fun c2 => h2 ⟨c, sp_lt_i (by decide) rfl c1 (Int32.not_le.2 c2)⟩) z) (fun _ => ?_)
      refine w_thr rfl (Nat.le_of_ble_eq_true rfl) ?_
      exact hF ▸ ⟨rfl, rfl, rfl⟩
theorem sp_can_n {r : Nat → Int32} (hd : d < 10) : sp_can r (nI d) ↔ ¬ r d = -1 := by
  constructor
  · rintro ⟨e, he, h1, h2⟩
    rw [(nI_eq (by omega) (by omega)).1 h1]; exact h2
  · intro h; exact ⟨d, hd, rfl, h⟩
theorem sp_can_if {r : Nat → Int32} (hd : d < 10) : sp_if (sp_can r (nI d)) x (-1) = sp_if (r d = -1) (-1) x := by
  by_cases c : r d = -1
  · rw [sp_if_t c, sp_if_f (fun z => (sp_can_n hd).1 z c)]
  · rw [sp_if_f c, sp_if_t ((sp_can_n hd).2 c)]
theorem c_table (h : sp_D I σ) (hf : f < 4) (hd : d < 10) (hw : w < 3) : mm_M 36 5 [.ref 0, .int (nI f), .int (nI d), .int (nI w)] g I (some (.int (sp_tb σ f d w))) I := by
  have hT : mm_T (45 + 4 * f) := mm_T_f hf
  have hc : (nI d).toNatClampNeg = d := nI_clamp (by omega)
  refine w_M ?_
  show mm_W 36 0 [.ref 0, .int (nI f), .int (nI d), .int (nI w), .null] [] _ _ _
  generalize hF : mm_EX _ _ _ = F
  refine w_st rfl rfl rfl trivial ?_
  refine w_k11 (c_isField) rfl ⟨rfl, by decide, by decide, by decide, Or.inr (Or.inl ⟨_, rfl⟩)⟩ (Nat.le_of_ble_eq_true rfl) trivial (Nat.le_of_ble_eq_true rfl) ?_  -- calls 44 cX4_isField
  refine w_b_ne rfl (fun _ => ?_) (fun z => absurd (⟨f, hf, rfl⟩) z)
  refine w_st rfl rfl rfl trivial ?_
  refine w_k11 (c_isDigit) rfl ⟨rfl, by decide, by decide, by decide, Or.inr (Or.inl ⟨_, rfl⟩)⟩ (Nat.le_of_ble_eq_true rfl) trivial (Nat.le_of_ble_eq_true rfl) ?_  -- calls 46 cX4_isDigit
  refine w_b_eq rfl (fun z => absurd (⟨d, hd, rfl⟩) z) (fun _ => ?_)
  refine w_st rfl rfl rfl trivial ?_
  refine w_m_lt (a := w) rfl (by first | decide | omega) (by first | rfl | assumption | (simp only [← nI_add, ← nI_mul]; rfl)) ?_
  refine w_st rfl rfl rfl trivial ?_
  refine w_st rfl rfl rfl trivial ?_
  refine w_n_lt (a := w) (b := 3) rfl (by first | decide | omega) (by first | decide | omega) (by first | rfl | assumption | (simp only [← nI_add, ← nI_mul]; rfl)) (by first | rfl | assumption | (simp only [← nI_add, ← nI_mul]; rfl)) (fun _ => ?_) (fun c => by exfalso; omega)
  refine w_st rfl rfl rfl trivial ?_
  refine w_gr (j := 6) rfl (mm_foc rfl) rfl (by decide) ?_
  refine w_st rfl rfl rfl trivial ?_
  refine w_ra (j := 45 + 4 * (f)) (f) rfl (Or.inl (mm_fac (n := 4) rfl)) (by first | rfl | assumption | (simp only [← nI_add, ← nI_mul]; rfl)) (by first | decide | omega) (mm_T_6 (by omega)) (by omega) ?_
  refine w_st rfl rfl rfl (Nat.le_of_ble_eq_true rfl) ?_
  refine w_st rfl rfl rfl trivial ?_
  have hw' : w = 0 ∨ w = 1 ∨ w = 2 := by omega
  rcases hw' with rfl | rfl | rfl
  · skip
    refine w_lok rfl 80 (by decide +kernel) ?_
    refine w_st rfl rfl rfl trivial ?_
    refine w_st rfl rfl rfl trivial ?_
    refine w_k21 (c_shapeOf hT (h.2 f hf)) rfl ⟨rfl, by decide, by decide, by decide, Or.inl ⟨_, rfl⟩⟩ (Nat.le_of_ble_eq_true rfl) (mm_T_o hT) (Nat.le_of_ble_eq_true rfl) ?_  -- calls 15 cX2_shapeOf
    rw [hc, sp_can_if hd]
    by_cases c : sp_row (σ (8 + f)) (σ 1) d = -1
    · rw [sp_if_t c]
      refine w_reti rfl ?_
      exact hF ▸ mm_EX_i (c.symm)
    · rw [sp_if_f c]
      refine w_reti rfl ?_
      exact hF ▸ mm_EX_i (rfl)
  · skip
    refine w_lok rfl 87 (by decide +kernel) ?_
    refine w_st rfl rfl rfl trivial ?_
    refine w_st rfl rfl rfl trivial ?_
    refine w_k21 (c_shownOf hT (h.2 f hf)) rfl ⟨rfl, by decide, by decide, by decide, Or.inl ⟨_, rfl⟩⟩ (Nat.le_of_ble_eq_true rfl) (mm_T_o hT) (Nat.le_of_ble_eq_true rfl) ?_  -- calls 16 cX2_shownOf
    rw [hc, sp_can_if hd]
    refine w_reti rfl ?_
    exact hF ▸ mm_EX_i (rfl)
  · skip
    refine w_lok rfl 94 (by decide +kernel) ?_
    refine w_st rfl rfl rfl trivial ?_
    refine w_st rfl rfl rfl trivial ?_
    refine w_k21 (c_missingOf hT (h.2 f hf)) rfl ⟨rfl, by decide, by decide, by decide, Or.inl ⟨_, rfl⟩⟩ (Nat.le_of_ble_eq_true rfl) (mm_T_o hT) (Nat.le_of_ble_eq_true rfl) ?_  -- calls 17 cX2_missingOf
    rw [hc, sp_can_if hd]
    refine w_reti rfl ?_
    exact hF ▸ mm_EX_i (rfl)
theorem c_read_1 (h1 : ¬ sp_lt 4 x) : mm_TH 37 3 [.ref 0, .int x, .int y] g I 1 := by
  refine w_MT ?_
  show mm_W 37 0 [.ref 0, .int x, .int y] [] _ _ _
  generalize hF : mm_TX _ _ _ = F
  refine w_st rfl rfl rfl trivial ?_
  refine w_k11 (c_isField) rfl ⟨rfl, by decide, by decide, by decide, Or.inr (Or.inl ⟨_, rfl⟩)⟩ (Nat.le_of_ble_eq_true rfl) trivial (Nat.le_of_ble_eq_true rfl) ?_  -- calls 44 cX4_isField
  refine w_b_ne rfl (fun z => absurd z (h1)) (fun _ => ?_)
  refine w_thr rfl (Nat.le_of_ble_eq_true rfl) ?_
  exact hF ▸ ⟨rfl, rfl, rfl⟩
theorem c_read_2 (h1 : sp_lt 4 x) (h2 : ¬ sp_lt 32768 y) : mm_TH 37 3 [.ref 0, .int x, .int y] g I 2 := by
  refine w_MT ?_
  show mm_W 37 0 [.ref 0, .int x, .int y] [] _ _ _
  generalize hF : mm_TX _ _ _ = F
  refine w_st rfl rfl rfl trivial ?_
  refine w_k11 (c_isField) rfl ⟨rfl, by decide, by decide, by decide, Or.inr (Or.inl ⟨_, rfl⟩)⟩ (Nat.le_of_ble_eq_true rfl) trivial (Nat.le_of_ble_eq_true rfl) ?_  -- calls 44 cX4_isField
  refine w_b_ne rfl (fun _ => ?_) (fun z => absurd (h1) z)
  refine w_st rfl rfl rfl trivial ?_
  refine w_z_lt rfl (fun c1 => ?_) (fun c1 => ?_)
  · skip
    refine w_thr rfl (Nat.le_of_ble_eq_true rfl) ?_
    exact hF ▸ ⟨rfl, rfl, rfl⟩
  · skip
    refine w_st rfl rfl rfl trivial ?_
    refine w_st rfl rfl rfl trivial ?_
    refine w_v_le rfl (fun z => by first | exact absurd z (fun c2 => h2 (sp_le_i (n := 32767) (by decide) rfl (by rw [← Int32.not_lt]; exact c1) c2)) | exact absurd (fun c2 => h2 (sp_le_i (n := 32767) (by decide) rfl (by rw [← Int32.not_lt]; exact c1) c2)) z) (fun _ => ?_)
    refine w_thr rfl (Nat.le_of_ble_eq_true rfl) ?_
    exact hF ▸ ⟨rfl, rfl, rfl⟩
theorem c_read (h : sp_D I σ) (hf : f < 4) (hn : n < 32768) : mm_M 37 3 [.ref 0, .int (nI f), .int (nI n)] g I (some (.int (sp_nr (sp_R σ f) (σ (8 + f)) (nI n) 10).1)) I := by
  have hT : mm_T (45 + 4 * f) := mm_T_f hf
  refine w_M ?_
  show mm_W 37 0 [.ref 0, .int (nI f), .int (nI n)] [] _ _ _
  generalize hF : mm_EX _ _ _ = F
  refine w_st rfl rfl rfl trivial ?_
  refine w_k11 (c_isField) rfl ⟨rfl, by decide, by decide, by decide, Or.inr (Or.inl ⟨_, rfl⟩)⟩ (Nat.le_of_ble_eq_true rfl) trivial (Nat.le_of_ble_eq_true rfl) ?_  -- calls 44 cX4_isField
  refine w_b_ne rfl (fun _ => ?_) (fun z => absurd (⟨f, hf, rfl⟩) z)
  refine w_st rfl rfl rfl trivial ?_
  refine w_m_lt (a := n) rfl (by first | decide | omega) (by first | rfl | assumption | (simp only [← nI_add, ← nI_mul]; rfl)) ?_
  refine w_st rfl rfl rfl trivial ?_
  refine w_st rfl rfl rfl trivial ?_
  refine w_n_le (a := n) (b := 32767) rfl (by first | decide | omega) (by first | decide | omega) (by first | rfl | assumption | (simp only [← nI_add, ← nI_mul]; rfl)) (by first | rfl | assumption | (simp only [← nI_add, ← nI_mul]; rfl)) (fun _ => ?_) (fun c => by exfalso; omega)
  refine w_st rfl rfl rfl trivial ?_
  refine w_gr (j := 6) rfl (mm_foc rfl) rfl (by decide) ?_
  refine w_st rfl rfl rfl trivial ?_
  refine w_ra (j := 45 + 4 * (f)) (f) rfl (Or.inl (mm_fac (n := 4) rfl)) (by first | rfl | assumption | (simp only [← nI_add, ← nI_mul]; rfl)) (by first | decide | omega) (mm_T_6 (by omega)) (by omega) ?_
  refine w_st rfl rfl rfl trivial ?_
  refine w_k21 (c_nearestTo hT (h.2 f hf)) rfl ⟨rfl, by decide, by decide, by decide, Or.inl ⟨_, rfl⟩⟩ (Nat.le_of_ble_eq_true rfl) (mm_T_o hT) (Nat.le_of_ble_eq_true rfl) ?_  -- calls 24 cX2_nearestTo
  refine w_reti rfl ?_
  exact hF ▸ mm_EX_i (rfl)
theorem c_count_1 (h1 : ¬ sp_lt 8 y) : mm_TH 38 2 [.ref 0, .int y] g I 2 := by
  refine w_MT ?_
  show mm_W 38 0 [.ref 0, .int y] [] _ _ _
  generalize hF : mm_TX _ _ _ = F
  refine w_st rfl rfl rfl trivial ?_
  refine w_z_lt rfl (fun c1 => ?_) (fun c1 => ?_)
  · skip
    refine w_thr rfl (Nat.le_of_ble_eq_true rfl) ?_
    exact hF ▸ ⟨rfl, rfl, rfl⟩
  · skip
    refine w_st rfl rfl rfl trivial ?_
    refine w_st rfl rfl rfl trivial ?_
    refine w_v_lt rfl (fun z => by first | exact absurd z (fun c2 => h1 (sp_lt_i (by decide) rfl c1 (Int32.not_le.2 c2))) | exact absurd (fun c2 => h1 (sp_lt_i (by decide) rfl c1 (Int32.not_le.2 c2))) z) (fun _ => ?_)
    refine w_thr rfl (Nat.le_of_ble_eq_true rfl) ?_
    exact hF ▸ ⟨rfl, rfl, rfl⟩
theorem c_count (h : sp_D I σ) (hk : I 13 2 = nI k) (hw : w < 8) : mm_M 38 2 [.ref 0, .int (nI w)] g I (some (.int (sp_cn σ k w))) I := by
  refine w_M ?_
  show mm_W 38 0 [.ref 0, .int (nI w)] [] _ _ _
  generalize hF : mm_EX _ _ _ = F
  refine w_st rfl rfl rfl trivial ?_
  refine w_m_lt (a := w) rfl (by first | decide | omega) (by first | rfl | assumption | (simp only [← nI_add, ← nI_mul]; rfl)) ?_
  refine w_st rfl rfl rfl trivial ?_
  refine w_st rfl rfl rfl trivial ?_
  refine w_n_lt (a := w) (b := 8) rfl (by first | decide | omega) (by first | decide | omega) (by first | rfl | assumption | (simp only [← nI_add, ← nI_mul]; rfl)) (by first | rfl | assumption | (simp only [← nI_add, ← nI_mul]; rfl)) (fun _ => ?_) (fun c => by exfalso; omega)
  refine w_st rfl rfl rfl trivial ?_
  have hw' : w = 0 ∨ w = 1 ∨ w = 2 ∨ w = 3 ∨ w = 4 ∨ w = 5 ∨ w = 6 ∨ w = 7 := by omega
  rcases hw' with rfl | rfl | rfl | rfl | rfl | rfl | rfl | rfl
  · skip
    refine w_tab rfl 64 (by decide +kernel) ?_
    refine w_st rfl rfl rfl trivial ?_
    refine w_gr (j := 1) rfl (mm_foc rfl) rfl (by decide) ?_
    refine w_gi rfl (mm_foc rfl) ?_
    refine w_reti rfl ?_
    exact hF ▸ mm_EX_i (h.1.2.2.2.2.1)
  · skip
    refine w_tab rfl 72 (by decide +kernel) ?_
    refine w_st rfl rfl rfl trivial ?_
    refine w_k11 (c_burntLamps h) rfl ⟨rfl, by decide, by decide, by decide, Or.inl ⟨_, rfl⟩⟩ (Nat.le_of_ble_eq_true rfl) (mm_foc rfl) (Nat.le_of_ble_eq_true rfl) ?_  -- calls 62 cX4_burntLamps
    refine w_reti rfl ?_
    exact hF ▸ mm_EX_i (rfl)
  · skip
    refine w_tab rfl 77 (by decide +kernel) ?_
    refine w_st rfl rfl rfl trivial ?_
    refine w_k11 (c_fieldsWithDigit h) rfl ⟨rfl, by decide, by decide, by decide, Or.inl ⟨_, rfl⟩⟩ (Nat.le_of_ble_eq_true rfl) (mm_foc rfl) (Nat.le_of_ble_eq_true rfl) ?_  -- calls 64 cX4_fieldsWithDigit
    refine w_reti rfl ?_
    exact hF ▸ mm_EX_i (rfl)
  · skip
    refine w_tab rfl 82 (by decide +kernel) ?_
    refine w_st rfl rfl rfl trivial ?_
    refine w_k11 (c_fieldsWithDigit h) rfl ⟨rfl, by decide, by decide, by decide, Or.inl ⟨_, rfl⟩⟩ (Nat.le_of_ble_eq_true rfl) (mm_foc rfl) (Nat.le_of_ble_eq_true rfl) ?_  -- calls 64 cX4_fieldsWithDigit
    refine w_st rfl rfl rfl trivial ?_
    refine w_k11 (c_fieldsShown h) rfl ⟨rfl, by decide, by decide, by decide, Or.inl ⟨_, rfl⟩⟩ (Nat.le_of_ble_eq_true rfl) (mm_foc rfl) (Nat.le_of_ble_eq_true rfl) ?_  -- calls 65 cX4_fieldsShown
    refine w_isub rfl ?_
    refine w_reti rfl ?_
    exact hF ▸ mm_EX_i (rfl)
  · skip
    refine w_tab rfl 92 (by decide +kernel) ?_
    refine w_st rfl rfl rfl trivial ?_
    refine w_k11 (c_litLamps h) rfl ⟨rfl, by decide, by decide, by decide, Or.inl ⟨_, rfl⟩⟩ (Nat.le_of_ble_eq_true rfl) (mm_foc rfl) (Nat.le_of_ble_eq_true rfl) ?_  -- calls 63 cX4_litLamps
    refine w_reti rfl ?_
    exact hF ▸ mm_EX_i (rfl)
  · skip
    refine w_tab rfl 97 (by decide +kernel) ?_
    refine w_st rfl rfl rfl trivial ?_
    refine w_gr (j := 1) rfl (mm_foc rfl) rfl (by decide) ?_
    refine w_gi rfl (mm_foc rfl) ?_
    refine w_reti rfl ?_
    exact hF ▸ mm_EX_i (h.1.2.2.2.2.2)
  · skip
    refine w_tab rfl 105 (by decide +kernel) ?_
    refine w_st rfl rfl rfl trivial ?_
    refine w_k11 (c_numberShown h) rfl ⟨rfl, by decide, by decide, by decide, Or.inl ⟨_, rfl⟩⟩ (Nat.le_of_ble_eq_true rfl) (mm_foc rfl) (Nat.le_of_ble_eq_true rfl) ?_  -- calls 66 cX4_numberShown
    refine w_reti rfl ?_
    exact hF ▸ mm_EX_i (rfl)
  · skip
    refine w_tab rfl 110 (by decide +kernel) ?_
    refine w_st rfl rfl rfl trivial ?_
    refine w_gr (j := 13) rfl (mm_foc rfl) rfl (by decide) ?_
    refine w_gi rfl (mm_foc rfl) ?_
    refine w_reti rfl ?_
    exact hF ▸ mm_EX_i (hk)
theorem c_setting_1 (h1 : ¬ sp_lt 2 x) : mm_TH 39 2 [.ref 0, .int x] g I 1 := by
  refine w_MT ?_
  show mm_W 39 0 [.ref 0, .int x] [] _ _ _
  generalize hF : mm_TX _ _ _ = F
  refine w_st rfl rfl rfl trivial ?_
  refine w_k11 (c_isSetting) rfl ⟨rfl, by decide, by decide, by decide, Or.inr (Or.inl ⟨_, rfl⟩)⟩ (Nat.le_of_ble_eq_true rfl) trivial (Nat.le_of_ble_eq_true rfl) ?_  -- calls 47 cX4_isSetting
  refine w_b_ne rfl (fun z => absurd z (h1)) (fun _ => ?_)
  refine w_thr rfl (Nat.le_of_ble_eq_true rfl) ?_
  exact hF ▸ ⟨rfl, rfl, rfl⟩
theorem c_setting (h : sp_D I σ) (hk : k < 2) : mm_M 39 2 [.ref 0, .int (nI k)] g I (some (.int (σ (1 + k)))) I := by
  refine w_M ?_
  show mm_W 39 0 [.ref 0, .int (nI k)] [] _ _ _
  generalize hF : mm_EX _ _ _ = F
  refine w_st rfl rfl rfl trivial ?_
  refine w_k11 (c_isSetting) rfl ⟨rfl, by decide, by decide, by decide, Or.inr (Or.inl ⟨_, rfl⟩)⟩ (Nat.le_of_ble_eq_true rfl) trivial (Nat.le_of_ble_eq_true rfl) ?_  -- calls 47 cX4_isSetting
  refine w_b_ne rfl (fun _ => ?_) (fun z => absurd (⟨k, hk, rfl⟩) z)
  refine w_st rfl rfl rfl trivial ?_
  refine w_gr (j := 1) rfl (mm_foc rfl) rfl (by decide) ?_
  refine w_gr (j := 5) rfl (mm_foc rfl) rfl (by decide) ?_
  refine w_st rfl rfl rfl trivial ?_
  refine w_ia (k) rfl (mm_fac (n := 2) rfl) (by first | rfl | assumption | (simp only [← nI_add, ← nI_mul]; rfl)) (by first | decide | omega) ?_
  rw [sp_Ds h hk]
  refine w_reti rfl ?_
  exact hF ▸ mm_EX_i (rfl)
theorem c_worstLamp_1 (h1 : ¬ sp_lt 4 x) : mm_TH 40 8 [.ref 0, .int x] g I 1 := by
  refine w_MT ?_
  show mm_W 40 0 [.ref 0, .int x, .null, .null, .null, .null, .null, .null] [] _ _ _
  generalize hF : mm_TX _ _ _ = F
  refine w_st rfl rfl rfl trivial ?_
  refine w_k11 (c_isField) rfl ⟨rfl, by decide, by decide, by decide, Or.inr (Or.inl ⟨_, rfl⟩)⟩ (Nat.le_of_ble_eq_true rfl) trivial (Nat.le_of_ble_eq_true rfl) ?_  -- calls 44 cX4_isField
  refine w_b_ne rfl (fun z => absurd z (h1)) (fun _ => ?_)
  refine w_thr rfl (Nat.le_of_ble_eq_true rfl) ?_
  exact hF ▸ ⟨rfl, rfl, rfl⟩
theorem c_worstLamp (h : sp_D I σ) (hf : f < 4) : ∃ I', mm_M 40 8 [.ref 0, .int (nI f)] g I (some (.int (sp_wl σ f 15).1)) I' ∧ sp_f3 7 I I' := by
  have hT : mm_T (45 + 4 * f) := mm_T_f hf
  have hU : mm_T 7 := Or.inl rfl
  refine w_MX ?_
  show mm_W 40 0 [.ref 0, .int (nI f), .null, .null, .null, .null, .null, .null] [] _ _ _
  generalize hF : mm_EQ _ _ _ = F
  refine w_st rfl rfl rfl trivial ?_
  refine w_k11 (c_isField) rfl ⟨rfl, by decide, by decide, by decide, Or.inr (Or.inl ⟨_, rfl⟩)⟩ (Nat.le_of_ble_eq_true rfl) trivial (Nat.le_of_ble_eq_true rfl) ?_  -- calls 44 cX4_isField
  refine w_b_ne rfl (fun _ => ?_) (fun z => absurd (⟨f, hf, rfl⟩) z)
  refine w_st rfl rfl rfl trivial ?_
  refine w_st rfl rfl rfl (Nat.le_of_ble_eq_true rfl) ?_
  refine w_st rfl rfl rfl trivial ?_
  refine w_st rfl rfl rfl (Nat.le_of_ble_eq_true rfl) ?_
  refine w_st rfl rfl rfl trivial ?_
  refine w_st rfl rfl rfl (Nat.le_of_ble_eq_true rfl) ?_
  refine w_st rfl rfl rfl trivial ?_
  refine w_st rfl rfl rfl (Nat.le_of_ble_eq_true rfl) ?_
  have K : ∀ l, l ≤ 15 → ∀ I1 v6 v7, sp_f3 7 I I1 → mm_W 40 27 [.ref 0, .int (nI f), .int (sp_wl σ f l).1, .int (sp_wl σ f l).2.1, .int (sp_wl σ f l).2.2, .int (nI l), v6, v7] [] g I1 F := by
    refine mm_dn 15 ?_ ?_
    · intro I1 v6 v7 h3
      refine w_st rfl rfl rfl trivial ?_
      refine w_st rfl rfl rfl trivial ?_
      refine w_n_ge (a := 15) (b := 15) rfl (by first | decide | omega) (by first | decide | omega) (by first | rfl | assumption | (simp only [← nI_add, ← nI_mul]; rfl)) (by first | rfl | assumption | (simp only [← nI_add, ← nI_mul]; rfl)) (fun _ => ?_) (fun c => by exfalso; omega)
      refine w_st rfl rfl rfl trivial ?_
      refine w_reti rfl ?_
      exact hF ▸ ⟨rfl, rfl, h3⟩
    · intro l hl ih I1 v6 v7 h3
      have h1 := sp_D_f3 h3 h
      have e : sp_wl σ f (l + 1) = sp_if (¬ σ (8 + f) &&& sp_bit l = 0) (sp_wl σ f l) (sp_if ((sp_wl σ f l).2.1 < sp_ib σ f l 0 ∨ (sp_ib σ f l 0 = (sp_wl σ f l).2.1 ∧ (sp_wl σ f l).2.2 < sp_ib σ f l 1)) (nI l, sp_ib σ f l 0, sp_ib σ f l 1) (sp_wl σ f l)) := rfl
      refine w_st rfl rfl rfl trivial ?_
      refine w_st rfl rfl rfl trivial ?_
      refine w_n_ge (a := l) (b := 15) rfl (by first | decide | omega) (by first | decide | omega) (by first | rfl | assumption | (simp only [← nI_add, ← nI_mul]; rfl)) (by first | rfl | assumption | (simp only [← nI_add, ← nI_mul]; rfl)) (fun c => by exfalso; omega) (fun _ => ?_)
      refine w_st rfl rfl rfl trivial ?_
      refine w_gr (j := 1) rfl (mm_foc rfl) rfl (by decide) ?_
      refine w_gr (j := 3) rfl (mm_foc rfl) rfl (by decide) ?_
      refine w_st rfl rfl rfl trivial ?_
      refine w_ia (f) rfl (mm_fac (n := 4) rfl) (by first | rfl | assumption | (simp only [← nI_add, ← nI_mul]; rfl)) (by first | decide | omega) ?_
      rw [sp_Db h1 hf]
      refine w_st rfl rfl rfl trivial ?_
      refine w_k21 (c_has) rfl ⟨rfl, by decide, by decide, by decide, Or.inr (Or.inl ⟨_, rfl⟩)⟩ (Nat.le_of_ble_eq_true rfl) trivial (Nat.le_of_ble_eq_true rfl) ?_  -- calls 50 cX4_has
      refine w_b_eq rfl (fun c1 => ?_) (fun c1 => ?_)
      · rw [sp_if_f c1] at e
        obtain ⟨I2, hM, hI, h4⟩ := c_tryBurning (g := g) (I := I1) (l := l) h1.1 hf
        have h2 := sp_D_f3 h4 h1
        have h5 : sp_f3 7 I I2 := fun p a b c => (h4 p a b c).trans (h3 p a b c)
        refine w_st rfl rfl rfl trivial ?_
        refine w_st rfl rfl rfl trivial ?_
        refine w_st rfl rfl rfl trivial ?_
        refine w_k30 (hM) rfl ⟨rfl, by decide, by decide, by decide, Or.inl ⟨_, rfl⟩⟩ (Nat.le_of_ble_eq_true rfl) (mm_foc rfl) (Nat.le_of_ble_eq_true rfl) ?_  -- calls 55 cX4_tryBurning
        refine w_st rfl rfl rfl trivial ?_
        refine w_gr (j := 7) rfl (mm_foc rfl) rfl (by decide) ?_
        refine w_k11 (c_hiddenDigits hU hI) rfl ⟨rfl, by decide, by decide, by decide, Or.inl ⟨_, rfl⟩⟩ (Nat.le_of_ble_eq_true rfl) (mm_foc rfl) (Nat.le_of_ble_eq_true rfl) ?_  -- calls 19 cX2_hiddenDigits
        refine w_st rfl rfl rfl (Nat.le_of_ble_eq_true rfl) ?_
        refine w_st rfl rfl rfl trivial ?_
        refine w_gr (j := 7) rfl (mm_foc rfl) rfl (by decide) ?_
        refine w_st rfl rfl rfl trivial ?_
        refine w_gr (j := 6) rfl (mm_foc rfl) rfl (by decide) ?_
        refine w_st rfl rfl rfl trivial ?_
        refine w_ra (j := 45 + 4 * (f)) (f) rfl (Or.inl (mm_fac (n := 4) rfl)) (by first | rfl | assumption | (simp only [← nI_add, ← nI_mul]; rfl)) (by first | decide | omega) (mm_T_6 (by omega)) (by omega) ?_
        refine w_k21 (c_changesFrom hU hT hI (h2.2 f hf)) rfl ⟨rfl, by decide, by decide, by decide, Or.inl ⟨_, rfl⟩⟩ (Nat.le_of_ble_eq_true rfl) (mm_foc rfl) (Nat.le_of_ble_eq_true rfl) ?_  -- calls 23 cX2_changesFrom
        have Y : mm_W 40 104 [.ref 0, .int (nI f), .int (sp_wl σ f l).1, .int (sp_wl σ f l).2.1, .int (sp_wl σ f l).2.2, .int (nI l), .int (sp_ib σ f l 0), .int (sp_ib σ f l 1)] [] g I2 F ∨ ¬ ((sp_wl σ f l).2.1 < sp_ib σ f l 0 ∨ (sp_ib σ f l 0 = (sp_wl σ f l).2.1 ∧ (sp_wl σ f l).2.2 < sp_ib σ f l 1)) := by
          refine Classical.or_iff_not_imp_right.2 (fun c => ?_)
          rw [sp_if_t (Classical.not_not.1 c)] at e
          rw [e] at ih
          refine w_st rfl rfl rfl trivial ?_
          refine w_st rfl rfl rfl (Nat.le_of_ble_eq_true rfl) ?_
          refine w_st rfl rfl rfl trivial ?_
          refine w_st rfl rfl rfl (Nat.le_of_ble_eq_true rfl) ?_
          refine w_st rfl rfl rfl trivial ?_
          refine w_st rfl rfl rfl (Nat.le_of_ble_eq_true rfl) ?_
          refine w_inc rfl rfl rfl (Nat.le_of_ble_eq_true rfl) (nI_1 _) ?_
          refine w_st rfl rfl rfl trivial ?_
          exact ih I2 _ _ h5
        have N : mm_W 40 114 [.ref 0, .int (nI f), .int (sp_wl σ f l).1, .int (sp_wl σ f l).2.1, .int (sp_wl σ f l).2.2, .int (nI l), .int (sp_ib σ f l 0), .int (sp_ib σ f l 1)] [] g I2 F ∨ ((sp_wl σ f l).2.1 < sp_ib σ f l 0 ∨ (sp_ib σ f l 0 = (sp_wl σ f l).2.1 ∧ (sp_wl σ f l).2.2 < sp_ib σ f l 1)) := by
          refine Classical.or_iff_not_imp_right.2 (fun c => ?_)
          rw [sp_if_f c] at e
          rw [e] at ih
          refine w_inc rfl rfl rfl (Nat.le_of_ble_eq_true rfl) (nI_1 _) ?_
          refine w_st rfl rfl rfl trivial ?_
          exact ih I2 _ _ h5
        refine w_st rfl rfl rfl (Nat.le_of_ble_eq_true rfl) ?_
        refine w_st rfl rfl rfl trivial ?_
        refine w_st rfl rfl rfl trivial ?_
        refine w_v_gt rfl (fun c2 => ?_) (fun c2 => ?_)
        · exact Y.resolve_right (fun z => z (Or.inl c2))
        · skip
          refine w_st rfl rfl rfl trivial ?_
          refine w_st rfl rfl rfl trivial ?_
          refine w_v_ne rfl (fun c3 => ?_) (fun c3 => ?_)
          · exact N.resolve_right (fun z => z.elim c2 (fun z => c3 z.1))
          · skip
            refine w_st rfl rfl rfl trivial ?_
            refine w_st rfl rfl rfl trivial ?_
            refine w_v_le rfl (fun c4 => ?_) (fun c4 => ?_)
            · exact N.resolve_right (fun z => z.elim c2 (fun z => absurd c4 (Int32.not_le.2 z.2)))
            · exact Y.resolve_right (fun z => z (Or.inr ⟨c3, Int32.not_le.1 c4⟩))
      · rw [sp_if_t c1] at e
        rw [e] at ih
        refine w_st rfl rfl rfl trivial ?_
        refine w_inc rfl rfl rfl (Nat.le_of_ble_eq_true rfl) (nI_1 _) ?_
        refine w_st rfl rfl rfl trivial ?_
        exact ih I1 v6 v7 h3
  exact K 0 (by decide) I .null .null (fun _ _ _ _ => rfl)
theorem c_strictest_1 (h1 : ¬ sp_lt 4 x) : mm_TH 41 3 [.ref 0, .int x] g I 1 := by
  refine w_MT ?_
  show mm_W 41 0 [.ref 0, .int x, .null] [] _ _ _
  generalize hF : mm_TX _ _ _ = F
  refine w_st rfl rfl rfl trivial ?_
  refine w_k11 (c_isField) rfl ⟨rfl, by decide, by decide, by decide, Or.inr (Or.inl ⟨_, rfl⟩)⟩ (Nat.le_of_ble_eq_true rfl) trivial (Nat.le_of_ble_eq_true rfl) ?_  -- calls 44 cX4_isField
  refine w_b_ne rfl (fun z => absurd z (h1)) (fun _ => ?_)
  refine w_thr rfl (Nat.le_of_ble_eq_true rfl) ?_
  exact hF ▸ ⟨rfl, rfl, rfl⟩
theorem c_strictest (h : sp_D I σ) (hf : f < 4) : ∃ I', mm_M 41 3 [.ref 0, .int (nI f)] g I (some (.int (sp_sr (σ (8 + f)) 5))) I' ∧ sp_f3 7 I I' := by
  have hU : mm_T 7 := Or.inl rfl
  refine w_MX ?_
  show mm_W 41 0 [.ref 0, .int (nI f), .null] [] _ _ _
  generalize hF : mm_EQ _ _ _ = F
  refine w_st rfl rfl rfl trivial ?_
  refine w_k11 (c_isField) rfl ⟨rfl, by decide, by decide, by decide, Or.inr (Or.inl ⟨_, rfl⟩)⟩ (Nat.le_of_ble_eq_true rfl) trivial (Nat.le_of_ble_eq_true rfl) ?_  -- calls 44 cX4_isField
  refine w_b_ne rfl (fun _ => ?_) (fun z => absurd (⟨f, hf, rfl⟩) z)
  refine w_st rfl rfl rfl trivial ?_
  refine w_st rfl rfl rfl (Nat.le_of_ble_eq_true rfl) ?_
  have K : ∀ s, s ≤ 5 → sp_sr (σ (8 + f)) 5 = sp_sr (σ (8 + f)) s → ∀ I1, sp_f3 7 I I1 → mm_W 41 19 [.ref 0, .int (nI f), .int (nI s)] [] g I1 F := by
    intro s
    induction s with
    | zero =>
      intro _ e I1 h3
      refine w_st rfl rfl rfl trivial ?_
      refine w_st rfl rfl rfl trivial ?_
      refine w_n_lt (a := 0) (b := 1) rfl (by first | decide | omega) (by first | decide | omega) (by first | rfl | assumption | (simp only [← nI_add, ← nI_mul]; rfl)) (by first | rfl | assumption | (simp only [← nI_add, ← nI_mul]; rfl)) (fun _ => ?_) (fun c => by exfalso; omega)
      refine w_st rfl rfl rfl trivial ?_
      refine w_reti rfl ?_
      exact hF ▸ ⟨by rw [e]; rfl, rfl, h3⟩
    | succ s ih =>
      intro hs e I1 h3
      have h1 := sp_D_f3 h3 h
      have e1 : sp_sr (σ (8 + f)) (s + 1) = sp_if (sp_no (sp_row (σ (8 + f)) (nI (s + 1))) 10 = 0) (nI (s + 1)) (sp_sr (σ (8 + f)) s) := rfl
      refine w_st rfl rfl rfl trivial ?_
      refine w_st rfl rfl rfl trivial ?_
      refine w_n_lt (a := s + 1) (b := 1) rfl (by first | decide | omega) (by first | decide | omega) (by first | rfl | assumption | (simp only [← nI_add, ← nI_mul]; rfl)) (by first | rfl | assumption | (simp only [← nI_add, ← nI_mul]; rfl)) (fun c => by exfalso; omega) (fun _ => ?_)
      refine w_st rfl rfl rfl trivial ?_
      refine w_gr (j := 7) rfl (mm_foc rfl) rfl (by decide) ?_
      refine w_st rfl rfl rfl trivial ?_
      refine w_gr (j := 1) rfl (mm_foc rfl) rfl (by decide) ?_
      refine w_gr (j := 3) rfl (mm_foc rfl) rfl (by decide) ?_
      refine w_st rfl rfl rfl trivial ?_
      refine w_ia (f) rfl (mm_fac (n := 4) rfl) (by first | rfl | assumption | (simp only [← nI_add, ← nI_mul]; rfl)) (by first | decide | omega) ?_
      rw [sp_Db h1 hf]
      obtain ⟨I2, hM, hI, h4⟩ := c_choose (g := g) (I := I1) (b := σ (8 + f)) (s := nI (s + 1)) hU
      have h5 : sp_f3 7 I I2 := fun p a b c => (h4 p a b c).trans (h3 p a b c)
      refine w_st rfl rfl rfl trivial ?_
      refine w_k30 (hM) rfl ⟨rfl, by decide, by decide, by decide, Or.inl ⟨_, rfl⟩⟩ (Nat.le_of_ble_eq_true rfl) (mm_foc rfl) (Nat.le_of_ble_eq_true rfl) ?_  -- calls 10 cX2_choose
      refine w_st rfl rfl rfl trivial ?_
      refine w_gr (j := 7) rfl (mm_foc rfl) rfl (by decide) ?_
      refine w_k11 (c_hiddenDigits hU hI) rfl ⟨rfl, by decide, by decide, by decide, Or.inl ⟨_, rfl⟩⟩ (Nat.le_of_ble_eq_true rfl) (mm_foc rfl) (Nat.le_of_ble_eq_true rfl) ?_  -- calls 19 cX2_hiddenDigits
      have := sp_no_le (sp_row (σ (8 + f)) (nI (s + 1))) 10
      refine w_m_ne (a := sp_no (sp_row (σ (8 + f)) (nI (s + 1))) 10) rfl (by first | decide | omega) (by first | rfl | assumption | (simp only [← nI_add, ← nI_mul]; rfl)) (fun c => ?_) (fun c => ?_)
      · rw [sp_if_f (by omega)] at e1
        refine w_inc rfl rfl rfl (Nat.le_of_ble_eq_true rfl) (nI_dec _) ?_
        refine w_st rfl rfl rfl trivial ?_
        exact ih (by omega) (e.trans e1) I2 h5
      · rw [sp_if_t c] at e1
        refine w_st rfl rfl rfl trivial ?_
        refine w_reti rfl ?_
        exact hF ▸ ⟨by rw [e, e1], rfl, h5⟩
  exact K 5 (by decide) rfl I (fun _ _ _ _ => rfl)
end SM
