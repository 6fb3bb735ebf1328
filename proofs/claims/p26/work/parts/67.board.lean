/-! the law's board -/
theorem sp_cl_z : ∀ m, m < 41 → Op.cmpValue (FP.dcmp (sp_cl m) (sp_cl m)) .l = 0 := by decide +kernel
section SM
variable {g : mm_Gg} {I I0 I1 : mm_Is} {F : mm_Ph} {v5 v8 x y z : Int32} {v9 v10 v11 : Value} {l d k t f n m q L cn sn j : Nat} {σ : sp_St}
theorem l_bB (h : sp_D I σ) (ok : sp_ok σ) (f3 : sp_f3 7 I0 I) (hk : I 13 2 = nI k) (hF : mm_EQ (some (.int 1)) g (sp_f3 7 I0) = F) : mm_W 75 130 [.ref 0, .int (sp_bl σ 4), .int (nI (sp_wd σ 4)), .int (nI (sp_dk σ 4)), .int (sp_ll σ 4), .int (nI (sp_ct σ 4)), .int 1, .int (nI 4)] [] g I F := by
  obtain ⟨lf, lf1, lf2⟩ := ok.2.2.2.1
  have lf2 : σ (1 + 1) = nI lf := lf2
  obtain ⟨qq, qq1, qq2, qq3⟩ := p_ll (σ := σ) 4
  have K262 : mm_W 75 262 [.ref 0, .int (sp_bl σ 4), .int (nI (sp_wd σ 4)), .int (nI (sp_dk σ 4)), .int (sp_ll σ 4), .int (nI (sp_ct σ 4)), .int 1, .int (nI 4)] [] g I F := by
    refine w_st rfl rfl rfl trivial ?_
    refine w_st rfl rfl rfl trivial ?_
    refine w_retz rfl (by first | exact Or.inl rfl | exact Or.inr rfl | exact mm_bi_01 _ | assumption) ?_
    exact hF ▸ ⟨rfl, rfl, f3⟩
  have K233 : mm_W 75 233 [.ref 0, .int (sp_bl σ 4), .int (nI (sp_wd σ 4)), .int (nI (sp_dk σ 4)), .int (sp_ll σ 4), .int (nI (sp_ct σ 4)), .int 1, .int (nI 4)] [] g I F := by
    refine w_st rfl rfl rfl trivial ?_
    refine w_m_gt (a := qq) rfl (by first | decide | omega) (by first | rfl | assumption | (simp only [← nI_add, ← nI_mul]; rfl)) (fun c2 => ?_) (fun c2 => ?_)
    · exact K262
    · have nb := p_nb (σ := σ) 4 (qq3 c2)
      refine w_st rfl rfl rfl trivial ?_
      refine w_st rfl rfl rfl trivial ?_
      refine w_k21 (c_setting h (show 1 < 2 by decide)) rfl ⟨rfl, by decide, by decide, by decide, Or.inl ⟨_, rfl⟩⟩ (Nat.le_of_ble_eq_true rfl) (mm_foc rfl) (Nat.le_of_ble_eq_true rfl) ?_  -- calls 39 cX4_setting
      refine w_m_eq (a := lf) rfl (by first | decide | omega) (by first | rfl | assumption | (simp only [← nI_add, ← nI_mul]; rfl)) (fun c3 => ?_) (fun c3 => ?_)
      · exact K262
      · skip
        refine w_st rfl rfl rfl trivial ?_
        refine w_k11 (c_nextBurn h) rfl ⟨rfl, by decide, by decide, by decide, Or.inl ⟨_, rfl⟩⟩ (Nat.le_of_ble_eq_true rfl) (mm_foc rfl) (Nat.le_of_ble_eq_true rfl) ?_  -- calls 42 cX4_nextBurn
        refine w_st rfl rfl rfl trivial ?_
        refine w_v_eq rfl (fun c4 => ?_) (fun c4 => ?_)
        · exact K262
        · skip
          refine w_st rfl rfl rfl trivial ?_
          refine w_k11 (c_nextBurn h) rfl ⟨rfl, by decide, by decide, by decide, Or.inl ⟨_, rfl⟩⟩ (Nat.le_of_ble_eq_true rfl) (mm_foc rfl) (Nat.le_of_ble_eq_true rfl) ?_  -- calls 42 cX4_nextBurn
          refine w_st rfl rfl rfl trivial ?_
          refine w_v_ne rfl (fun z => by first | exact absurd z (nb.resolve_left c4) | exact absurd (nb.resolve_left c4) z) (fun _ => ?_)
          exact K262
  have K217 : mm_W 75 217 [.ref 0, .int (sp_bl σ 4), .int (nI (sp_wd σ 4)), .int (nI (sp_dk σ 4)), .int (sp_ll σ 4), .int (nI (sp_ct σ 4)), .int 1, .int (nI 4)] [] g I F := by
    refine w_st rfl rfl rfl trivial ?_
    refine w_st rfl rfl rfl trivial ?_
    refine w_k21 (c_setting h (show 1 < 2 by decide)) rfl ⟨rfl, by decide, by decide, by decide, Or.inl ⟨_, rfl⟩⟩ (Nat.le_of_ble_eq_true rfl) (mm_foc rfl) (Nat.le_of_ble_eq_true rfl) ?_  -- calls 39 cX4_setting
    refine w_m_gt (a := lf) rfl (by first | decide | omega) (by first | rfl | assumption | (simp only [← nI_add, ← nI_mul]; rfl)) (fun c1 => ?_) (fun c1 => ?_)
    · exact K233
    · have e : sp_nb σ 4 = -1 := sp_nb_0 (show σ 2 = 0 by rw [show σ 2 = nI lf from lf2, c1]; rfl) 4
      refine w_st rfl rfl rfl trivial ?_
      refine w_k11 (c_nextBurn h) rfl ⟨rfl, by decide, by decide, by decide, Or.inl ⟨_, rfl⟩⟩ (Nat.le_of_ble_eq_true rfl) (mm_foc rfl) (Nat.le_of_ble_eq_true rfl) ?_  -- calls 42 cX4_nextBurn
      refine w_st rfl rfl rfl trivial ?_
      refine w_v_ne rfl (fun z => by first | exact absurd z (e) | exact absurd (e) z) (fun _ => ?_)
      exact K233
  have hct : sp_ct σ 4 < 41 := by have := sp_nt_le σ 4; omega
  have hv : vf_n64 (FP.ddiv (FP.i2d (nI (sp_ct σ 4))) 4630826316843712512) := sp_cl_n _ hct
  have dz : Op.cmpValue (FP.dcmp (sp_cl (sp_ct σ 4)) (FP.ddiv (FP.i2d (nI (sp_ct σ 4))) 4630826316843712512)) .l = 0 := sp_cl_z _ hct
  have e3 : nI (sp_dk σ 4) = sp_cn σ k 3 := by
    show _ = nI (sp_wd σ 4) - nI (sp_fs σ 4)
    have := sp_dk_wd σ 4
    rw [nI_sub (by omega)]
    congr 1
    omega
  refine w_st rfl rfl rfl trivial ?_
  refine w_z_eq rfl (fun z => by first | exact absurd z ((by decide : ¬ (1 : Int32) = 0)) | exact absurd ((by decide : ¬ (1 : Int32) = 0)) z) (fun _ => ?_)
  refine w_st rfl rfl rfl trivial ?_
  refine w_st rfl rfl rfl trivial ?_
  refine w_st rfl rfl rfl trivial ?_
  refine w_k21 (c_count h hk (show 1 < 8 by decide)) rfl ⟨rfl, by decide, by decide, by decide, Or.inl ⟨_, rfl⟩⟩ (Nat.le_of_ble_eq_true rfl) (mm_foc rfl) (Nat.le_of_ble_eq_true rfl) ?_  -- calls 38 cX4_count
  refine w_v_ne rfl (fun z => by first | exact absurd z (rfl) | exact absurd (rfl) z) (fun _ => ?_)
  refine w_st rfl rfl rfl trivial ?_
  refine w_st rfl rfl rfl trivial ?_
  refine w_st rfl rfl rfl trivial ?_
  refine w_k21 (c_count h hk (show 2 < 8 by decide)) rfl ⟨rfl, by decide, by decide, by decide, Or.inl ⟨_, rfl⟩⟩ (Nat.le_of_ble_eq_true rfl) (mm_foc rfl) (Nat.le_of_ble_eq_true rfl) ?_  -- calls 38 cX4_count
  refine w_v_ne rfl (fun z => by first | exact absurd z (rfl) | exact absurd (rfl) z) (fun _ => ?_)
  refine w_st rfl rfl rfl trivial ?_
  refine w_st rfl rfl rfl trivial ?_
  refine w_st rfl rfl rfl trivial ?_
  refine w_k21 (c_count h hk (show 3 < 8 by decide)) rfl ⟨rfl, by decide, by decide, by decide, Or.inl ⟨_, rfl⟩⟩ (Nat.le_of_ble_eq_true rfl) (mm_foc rfl) (Nat.le_of_ble_eq_true rfl) ?_  -- calls 38 cX4_count
  refine w_v_ne rfl (fun z => by first | exact absurd z (e3) | exact absurd (e3) z) (fun _ => ?_)
  refine w_st rfl rfl rfl trivial ?_
  refine w_st rfl rfl rfl trivial ?_
  refine w_st rfl rfl rfl trivial ?_
  refine w_k21 (c_count h hk (show 4 < 8 by decide)) rfl ⟨rfl, by decide, by decide, by decide, Or.inl ⟨_, rfl⟩⟩ (Nat.le_of_ble_eq_true rfl) (mm_foc rfl) (Nat.le_of_ble_eq_true rfl) ?_  -- calls 38 cX4_count
  refine w_v_ne rfl (fun z => by first | exact absurd z (rfl) | exact absurd (rfl) z) (fun _ => ?_)
  refine w_st rfl rfl rfl trivial ?_
  refine w_k11 (c_clarity h) rfl ⟨rfl, by decide, by decide, by decide, Or.inl ⟨_, rfl⟩⟩ (Nat.le_of_ble_eq_true rfl) (mm_foc rfl) (Nat.le_of_ble_eq_true rfl) ?_  -- calls 43 cX4_clarity
  refine w_st rfl rfl rfl trivial ?_
  refine w_st rfl rfl rfl trivial ?_
  refine w_st rfl rfl rfl trivial ?_
  refine w_st rfl rfl rfl (by assumption) ?_
  refine w_st rfl rfl rfl trivial ?_
  refine w_z_ne rfl (fun z => by first | exact absurd z (dz) | exact absurd (dz) z) (fun _ => ?_)
  refine w_st rfl rfl rfl trivial ?_
  refine w_st rfl rfl rfl trivial ?_
  refine w_st rfl rfl rfl (Nat.le_of_ble_eq_true rfl) ?_
  refine w_st rfl rfl rfl trivial ?_
  refine w_z_eq rfl (fun z => by first | exact absurd z ((by decide : ¬ (1 : Int32) = 0)) | exact absurd ((by decide : ¬ (1 : Int32) = 0)) z) (fun _ => ?_)
  refine w_st rfl rfl rfl trivial ?_
  refine w_st rfl rfl rfl trivial ?_
  refine w_k21 (c_count h hk (show 6 < 8 by decide)) rfl ⟨rfl, by decide, by decide, by decide, Or.inl ⟨_, rfl⟩⟩ (Nat.le_of_ble_eq_true rfl) (mm_foc rfl) (Nat.le_of_ble_eq_true rfl) ?_  -- calls 38 cX4_count
  refine w_st rfl rfl rfl trivial ?_
  refine w_v_eq rfl (fun c6 => ?_) (fun c6 => ?_)
  · exact K217
  · obtain ⟨n1, n2⟩ := (p_ns4 (σ := σ)).resolve_left c6
    have w4 : sp_wd σ 4 ≤ 4 := by
      have key : ∀ n, sp_wd σ n ≤ n := by
        intro n
        induction n with
        | zero => exact Nat.le_refl _
        | succ n ih =>
          show sp_wd σ n + sp_if (σ (4 + n) = -1) 0 1 ≤ n + 1
          by_cases c : σ (4 + n) = -1
          · rw [sp_if_t c]; omega
          · rw [sp_if_f c]; omega
      exact key 4
    refine w_st rfl rfl rfl trivial ?_
    refine w_m_ne (a := sp_dk σ 4) rfl (by first | decide | omega) (by first | rfl | assumption | (simp only [← nI_add, ← nI_mul]; rfl)) (fun c => by exfalso; omega) (fun _ => ?_)
    refine w_st rfl rfl rfl trivial ?_
    refine w_m_le (a := sp_wd σ 4) rfl (by first | decide | omega) (by first | rfl | assumption | (simp only [← nI_add, ← nI_mul]; rfl)) (fun c => by exfalso; omega) (fun _ => ?_)
    exact K217
theorem l_board (h : sp_D I σ) (ok : sp_ok σ) (hk : I 13 2 = nI k) : ∃ I', mm_M 75 8 [.ref 0] g I (some (.int 1)) I' ∧ sp_f3 7 I I' := by
  refine w_MX ?_
  show mm_W 75 0 [.ref 0, .null, .null, .null, .null, .null, .null, .null] [] _ _ _
  generalize hF : mm_EQ _ _ _ = F
  refine w_st rfl rfl rfl trivial ?_
  refine w_st rfl rfl rfl (Nat.le_of_ble_eq_true rfl) ?_
  refine w_st rfl rfl rfl trivial ?_
  refine w_st rfl rfl rfl (Nat.le_of_ble_eq_true rfl) ?_
  refine w_st rfl rfl rfl trivial ?_
  refine w_st rfl rfl rfl (Nat.le_of_ble_eq_true rfl) ?_
  refine w_st rfl rfl rfl trivial ?_
  refine w_st rfl rfl rfl (Nat.le_of_ble_eq_true rfl) ?_
  refine w_st rfl rfl rfl trivial ?_
  refine w_st rfl rfl rfl (Nat.le_of_ble_eq_true rfl) ?_
  refine w_st rfl rfl rfl trivial ?_
  refine w_st rfl rfl rfl (Nat.le_of_ble_eq_true rfl) ?_
  refine w_st rfl rfl rfl trivial ?_
  refine w_st rfl rfl rfl (Nat.le_of_ble_eq_true rfl) ?_
  have K : ∀ j, j ≤ 4 → ∀ I1, sp_f3 7 I I1 → mm_W 75 18 [.ref 0, .int (sp_bl σ j), .int (nI (sp_wd σ j)), .int (nI (sp_dk σ j)), .int (sp_ll σ j), .int (nI (sp_ct σ j)), .int 1, .int (nI j)] [] g I1 F := by
    refine mm_dn 4 ?_ ?_
    · intro I1 f3
      refine w_st rfl rfl rfl trivial ?_
      refine w_st rfl rfl rfl trivial ?_
      refine w_n_ge (a := 4) (b := 4) rfl (by first | decide | omega) (by first | decide | omega) (by first | rfl | assumption | (simp only [← nI_add, ← nI_mul]; rfl)) (by first | rfl | assumption | (simp only [← nI_add, ← nI_mul]; rfl)) (fun _ => ?_) (fun c => by exfalso; omega)
      exact l_bB (sp_D_f3 f3 h) ok f3 (sp_f3_13 f3 hk) hF
    · intro j hj ih I1 f3
      have h1 := sp_D_f3 f3 h
      obtain ⟨I2, hM2, f2⟩ := l_field (g := g) h1 ok hj (sp_f3_13 f3 hk)
      have h2 := sp_D_f3 f2 h1
      have f4 := sp_f3_t f3 f2
      have ih := ih I2 f4
      have ew : sp_wd σ (j + 1) = sp_wd σ j + sp_if (σ (4 + j) = -1) 0 1 := rfl
      have ed : sp_dk σ (j + 1) = sp_dk σ j + sp_if (¬ σ (4 + j) = -1 ∧ ¬ sp_vis σ j) 1 0 := rfl
      obtain ⟨w, w1, w2, w3, w4⟩ := p_can_n (sp_R σ j)
      have ec : sp_ct σ (j + 1) = sp_ct σ j + w := by
        show sp_ct σ j + (10 - sp_no (sp_R σ j) 10) = _
        omega
      have K94 : mm_W 75 94 [.ref 0, .int (sp_bl σ (j + 1)), .int (nI (sp_wd σ (j + 1))), .int (nI (sp_dk σ (j + 1))), .int (sp_ll σ j), .int (nI (sp_ct σ j)), .int 1, .int (nI j)] [] g I2 F := by
        refine w_st rfl rfl rfl trivial ?_
        refine w_st rfl rfl rfl trivial ?_
        refine w_st rfl rfl rfl trivial ?_
        refine w_st rfl rfl rfl trivial ?_
        refine w_k31 (c_field h2 hj (show 2 < 8 by decide)) rfl ⟨rfl, by decide, by decide, by decide, Or.inl ⟨_, rfl⟩⟩ (Nat.le_of_ble_eq_true rfl) (mm_foc rfl) (Nat.le_of_ble_eq_true rfl) ?_  -- calls 34 cX4_field
        refine w_k11 (l_ones sp_lit_b) rfl ⟨rfl, by decide, by decide, by decide, Or.inr (Or.inl ⟨_, rfl⟩)⟩ (Nat.le_of_ble_eq_true rfl) trivial (Nat.le_of_ble_eq_true rfl) ?_  -- calls 70 cL_ones
        refine w_iadd rfl ?_
        refine w_st rfl rfl rfl (Nat.le_of_ble_eq_true rfl) ?_
        refine w_st rfl rfl rfl trivial ?_
        refine w_st rfl rfl rfl trivial ?_
        refine w_st rfl rfl rfl trivial ?_
        refine w_st rfl rfl rfl trivial ?_
        refine w_k31 (c_field h2 hj (show 5 < 8 by decide)) rfl ⟨rfl, by decide, by decide, by decide, Or.inl ⟨_, rfl⟩⟩ (Nat.le_of_ble_eq_true rfl) (mm_foc rfl) (Nat.le_of_ble_eq_true rfl) ?_  -- calls 34 cX4_field
        refine w_k11 (l_ones w4) rfl ⟨rfl, by decide, by decide, by decide, Or.inr (Or.inl ⟨_, rfl⟩)⟩ (Nat.le_of_ble_eq_true rfl) trivial (Nat.le_of_ble_eq_true rfl) ?_  -- calls 70 cL_ones
        refine w_iadd rfl ?_
        refine w_hd (show nI (sp_ct σ j) + sp_pop (sp_mk (sp_R σ j) 10) = nI (sp_ct σ (j + 1)) from by rw [w3, nI_add, ec]) ?_
        refine w_st rfl rfl rfl (Nat.le_of_ble_eq_true rfl) ?_
        refine w_inc rfl rfl rfl (Nat.le_of_ble_eq_true rfl) (nI_1 _) ?_
        refine w_st rfl rfl rfl trivial ?_
        exact ih
      refine w_st rfl rfl rfl trivial ?_
      refine w_st rfl rfl rfl trivial ?_
      refine w_n_ge (a := j) (b := 4) rfl (by first | decide | omega) (by first | decide | omega) (by first | rfl | assumption | (simp only [← nI_add, ← nI_mul]; rfl)) (by first | rfl | assumption | (simp only [← nI_add, ← nI_mul]; rfl)) (fun c => by exfalso; omega) (fun _ => ?_)
      refine w_st rfl rfl rfl trivial ?_
      refine w_z_eq rfl (fun z => by first | exact absurd z ((by decide : ¬ (1 : Int32) = 0)) | exact absurd ((by decide : ¬ (1 : Int32) = 0)) z) (fun _ => ?_)
      refine w_st rfl rfl rfl trivial ?_
      refine w_st rfl rfl rfl trivial ?_
      refine w_k21 (hM2) rfl ⟨rfl, by decide, by decide, by decide, Or.inr (Or.inl ⟨_, rfl⟩)⟩ (Nat.le_of_ble_eq_true rfl) trivial (Nat.le_of_ble_eq_true rfl) ?_  -- calls 74 cL_field
      refine w_st rfl rfl rfl (Nat.le_of_ble_eq_true rfl) ?_
      refine w_st rfl rfl rfl trivial ?_
      refine w_st rfl rfl rfl trivial ?_
      refine w_st rfl rfl rfl trivial ?_
      refine w_st rfl rfl rfl trivial ?_
      refine w_k31 (c_field h2 hj (show 3 < 8 by decide)) rfl ⟨rfl, by decide, by decide, by decide, Or.inl ⟨_, rfl⟩⟩ (Nat.le_of_ble_eq_true rfl) (mm_foc rfl) (Nat.le_of_ble_eq_true rfl) ?_  -- calls 34 cX4_field
      refine w_iadd rfl ?_
      refine w_st rfl rfl rfl (Nat.le_of_ble_eq_true rfl) ?_
      refine w_st rfl rfl rfl trivial ?_
      refine w_st rfl rfl rfl trivial ?_
      refine w_st rfl rfl rfl trivial ?_
      refine w_st rfl rfl rfl trivial ?_
      refine w_k31 (c_field h2 hj (show 0 < 8 by decide)) rfl ⟨rfl, by decide, by decide, by decide, Or.inl ⟨_, rfl⟩⟩ (Nat.le_of_ble_eq_true rfl) (mm_foc rfl) (Nat.le_of_ble_eq_true rfl) ?_  -- calls 34 cX4_field
      rcases ok.1 j hj with eD | ⟨d, hd, eD⟩
      · rw [sp_if_t eD] at ew
        rw [sp_if_f (fun z => z.1 eD)] at ed
        have e0 : sp_fd σ j 0 < 0 := by rw [show sp_fd σ j 0 = -1 from eD]; decide
        refine w_z_lt rfl (fun _ => ?_) (fun z => by first | exact absurd (e0) z | exact absurd z (e0))
        refine w_st rfl rfl rfl trivial ?_
        refine w_iadd rfl ?_
        refine w_hd (show nI (sp_wd σ j) + 0 = nI (sp_wd σ (j + 1)) from by rw [ew]; exact Int32.add_zero _) ?_
        refine w_st rfl rfl rfl (Nat.le_of_ble_eq_true rfl) ?_
        refine w_st rfl rfl rfl trivial ?_
        refine w_st rfl rfl rfl trivial ?_
        refine w_st rfl rfl rfl trivial ?_
        refine w_st rfl rfl rfl trivial ?_
        refine w_k31 (c_field h2 hj (show 0 < 8 by decide)) rfl ⟨rfl, by decide, by decide, by decide, Or.inl ⟨_, rfl⟩⟩ (Nat.le_of_ble_eq_true rfl) (mm_foc rfl) (Nat.le_of_ble_eq_true rfl) ?_  -- calls 34 cX4_field
        refine w_z_lt rfl (fun _ => ?_) (fun z => by first | exact absurd (e0) z | exact absurd z (e0))
        refine w_st rfl rfl rfl trivial ?_
        refine w_iadd rfl ?_
        refine w_hd (show nI (sp_dk σ j) + 0 = nI (sp_dk σ (j + 1)) from by rw [ed]; exact Int32.add_zero _) ?_
        refine w_st rfl rfl rfl (Nat.le_of_ble_eq_true rfl) ?_
        exact K94
      · have en : ¬ σ (4 + j) = -1 := by rw [eD]; exact nI_ne1 (by omega)
        have e0 : sp_fd σ j 0 = nI d := eD
        rw [sp_if_f en] at ew
        refine w_m_lt (a := d) rfl (by first | decide | omega) (by first | rfl | assumption | (simp only [← nI_add, ← nI_mul]; rfl)) ?_
        refine w_st rfl rfl rfl trivial ?_
        refine w_st rfl rfl rfl trivial ?_
        refine w_iadd rfl ?_
        refine w_hd (show nI (sp_wd σ j) + 1 = nI (sp_wd σ (j + 1)) from by rw [ew]; exact nI_1 _) ?_
        refine w_st rfl rfl rfl (Nat.le_of_ble_eq_true rfl) ?_
        refine w_st rfl rfl rfl trivial ?_
        refine w_st rfl rfl rfl trivial ?_
        refine w_st rfl rfl rfl trivial ?_
        refine w_st rfl rfl rfl trivial ?_
        refine w_k31 (c_field h2 hj (show 0 < 8 by decide)) rfl ⟨rfl, by decide, by decide, by decide, Or.inl ⟨_, rfl⟩⟩ (Nat.le_of_ble_eq_true rfl) (mm_foc rfl) (Nat.le_of_ble_eq_true rfl) ?_  -- calls 34 cX4_field
        refine w_m_lt (a := d) rfl (by first | decide | omega) (by first | rfl | assumption | (simp only [← nI_add, ← nI_mul]; rfl)) ?_
        refine w_st rfl rfl rfl trivial ?_
        refine w_st rfl rfl rfl trivial ?_
        refine w_st rfl rfl rfl trivial ?_
        refine w_k31 (c_field h2 hj (show 1 < 8 by decide)) rfl ⟨rfl, by decide, by decide, by decide, Or.inl ⟨_, rfl⟩⟩ (Nat.le_of_ble_eq_true rfl) (mm_foc rfl) (Nat.le_of_ble_eq_true rfl) ?_  -- calls 34 cX4_field
        by_cases v : sp_vis σ j
        · have e1 : ¬ sp_fd σ j 1 = -1 := by
            rw [show sp_fd σ j 1 = sp_R σ j (σ (4 + j)).toNatClampNeg from sp_if_t v _ _]
            obtain ⟨e, he, h1, h2⟩ := v
            rw [h1, nI_clamp (by omega)]
            exact h2
          rw [sp_if_f (fun z => z.2 v)] at ed
          refine w_st rfl rfl rfl trivial ?_
          refine w_v_ne rfl (fun _ => ?_) (fun z => by first | exact absurd (e1) z | exact absurd z (e1))
          refine w_st rfl rfl rfl trivial ?_
          refine w_iadd rfl ?_
          refine w_hd (show nI (sp_dk σ j) + 0 = nI (sp_dk σ (j + 1)) from by rw [ed]; exact Int32.add_zero _) ?_
          refine w_st rfl rfl rfl (Nat.le_of_ble_eq_true rfl) ?_
          exact K94
        · have e1 : sp_fd σ j 1 = -1 := sp_if_f v _ _
          rw [sp_if_t ⟨en, v⟩] at ed
          refine w_st rfl rfl rfl trivial ?_
          refine w_v_ne rfl (fun z => by first | exact absurd z (e1) | exact absurd (e1) z) (fun _ => ?_)
          refine w_st rfl rfl rfl trivial ?_
          refine w_st rfl rfl rfl trivial ?_
          refine w_iadd rfl ?_
          refine w_hd (show nI (sp_dk σ j) + 1 = nI (sp_dk σ (j + 1)) from by rw [ed]; exact nI_1 _) ?_
          refine w_st rfl rfl rfl (Nat.le_of_ble_eq_true rfl) ?_
          exact K94
  exact K 0 (by decide) I (fun _ _ _ _ => rfl)
end SM
