/-! the law's field: from behind -/
section SM
variable {g : mm_Gg} {I I0 I1 : mm_Is} {F : mm_Ph} {v5 v8 x y z : Int32} {v9 v10 v11 : Value} {l d k t f n m q L cn sn : Nat} {σ : sp_St}
theorem sp_f3_t {I2 : mm_Is} (h : sp_f3 7 I0 I) (h' : sp_f3 7 I I2) : sp_f3 7 I0 I2 := fun p a b c => (h' p a b c).trans (h p a b c)
theorem sp_f3_13 (h : sp_f3 7 I0 I) (hk : I0 13 2 = nI k) : I 13 2 = nI k := by rw [h 13 (by decide) (by decide) (by decide)]; exact hk
theorem l_fE (h : sp_D I σ) (hf : f < 4) (f3 : sp_f3 7 I0 I) (hb : σ (8 + f) = nI q) (hq : q < 32768) (hF : mm_EQ (some (.int 1)) g (sp_f3 7 I0) = F) : mm_W 74 585 [.ref 0, .int (nI f), .int (σ (4 + f)), .int (sp_lit σ f), .int (nI q), .int v5, .int (sp_mk (sp_R σ f) 10), .int 1, .int v8, v9, v10, v11] [] g I F := by
  obtain ⟨I1, hM, f1⟩ := c_worstLamp (g := g) h hf
  have f4 := sp_f3_t f3 f1
  refine w_st rfl rfl rfl trivial ?_
  refine w_st rfl rfl rfl trivial ?_
  refine w_k21 (hM) rfl ⟨rfl, by decide, by decide, by decide, Or.inl ⟨_, rfl⟩⟩ (Nat.le_of_ble_eq_true rfl) (mm_foc rfl) (Nat.le_of_ble_eq_true rfl) ?_  -- calls 40 cX4_worstLamp
  rcases p_worst hb hq with ⟨w1, j, w2, w3⟩ | ⟨w1, w2⟩
  · rw [w3]
    refine w_m_lt (a := j) rfl (by first | decide | omega) (by first | rfl | assumption | (simp only [← nI_add, ← nI_mul]; rfl)) ?_
    refine w_st rfl rfl rfl trivial ?_
    refine w_st rfl rfl rfl trivial ?_
    refine w_st rfl rfl rfl trivial ?_
    refine w_st rfl rfl rfl trivial ?_
    refine w_n_ge (a := q) (b := 32767) rfl (by first | decide | omega) (by first | decide | omega) (by first | rfl | assumption | (simp only [← nI_add, ← nI_mul]; rfl)) (by first | rfl | assumption | (simp only [← nI_add, ← nI_mul]; rfl)) (fun c => by exfalso; omega) (fun _ => ?_)
    refine w_st rfl rfl rfl trivial ?_
    refine w_st rfl rfl rfl trivial ?_
    refine w_v_ne rfl (fun z => by first | exact absurd z (rfl) | exact absurd (rfl) z) (fun _ => ?_)
    refine w_st rfl rfl rfl trivial ?_
    refine w_st rfl rfl rfl trivial ?_
    refine w_retz rfl (by first | exact Or.inl rfl | exact Or.inr rfl | exact mm_bi_01 _ | assumption) ?_
    exact hF ▸ ⟨rfl, rfl, f4⟩
  · rw [w2]
    refine w_z_lt rfl (fun _ => ?_) (fun z => by first | exact absurd ((by decide : (-1 : Int32) < 0)) z | exact absurd z ((by decide : (-1 : Int32) < 0)))
    refine w_st rfl rfl rfl trivial ?_
    refine w_st rfl rfl rfl trivial ?_
    refine w_st rfl rfl rfl trivial ?_
    refine w_n_ge (a := q) (b := 32767) rfl (by first | decide | omega) (by first | decide | omega) (by first | rfl | assumption | (simp only [← nI_add, ← nI_mul]; rfl)) (by first | rfl | assumption | (simp only [← nI_add, ← nI_mul]; rfl)) (fun _ => ?_) (fun c => by exfalso; omega)
    refine w_st rfl rfl rfl trivial ?_
    refine w_v_ne rfl (fun z => by first | exact absurd z (rfl) | exact absurd (rfl) z) (fun _ => ?_)
    refine w_st rfl rfl rfl trivial ?_
    refine w_st rfl rfl rfl trivial ?_
    refine w_retz rfl (by first | exact Or.inl rfl | exact Or.inr rfl | exact mm_bi_01 _ | assumption) ?_
    exact hF ▸ ⟨rfl, rfl, f4⟩
theorem l_fD (h : sp_D I σ) (hf : f < 4) (f3 : sp_f3 7 I0 I) (hb : σ (8 + f) = nI q) (hq : q < 32768) (es : σ (1 + 0) = nI m) (hm : m ≤ 5) (hF : mm_EQ (some (.int 1)) g (sp_f3 7 I0) = F) : mm_W 74 497 [.ref 0, .int (nI f), .int (σ (4 + f)), .int (sp_lit σ f), .int (nI q), .int v5, .int (sp_mk (sp_R σ f) 10), .int 1, .int v8, v9, v10, v11] [] g I F := by
  have K2 : mm_W 74 550 [.ref 0, .int (nI f), .int (σ (4 + f)), .int (sp_lit σ f), .int (nI q), .int v5, .int (sp_mk (sp_R σ f) 10), .int 1, .int v8, v9, v10, v11] [] g I F := by
    obtain ⟨I1, hM1, f1⟩ := c_strictest (g := g) h hf
    have D1 := sp_D_f3 f1 h
    obtain ⟨I2, hM2, f2⟩ := c_strictest (g := g) D1 hf
    have D2 := sp_D_f3 f2 D1
    obtain ⟨I3, hM3, f5⟩ := c_strictest (g := g) D2 hf
    have D3 := sp_D_f3 f5 D2
    refine w_st rfl rfl rfl trivial ?_
    refine w_st rfl rfl rfl trivial ?_
    refine w_k21 (hM1) rfl ⟨rfl, by decide, by decide, by decide, Or.inl ⟨_, rfl⟩⟩ (Nat.le_of_ble_eq_true rfl) (mm_foc rfl) (Nat.le_of_ble_eq_true rfl) ?_  -- calls 41 cX4_strictest
    refine w_st rfl rfl rfl trivial ?_
    refine w_st rfl rfl rfl trivial ?_
    refine w_k21 (c_setting D1 (show 0 < 2 by decide)) rfl ⟨rfl, by decide, by decide, by decide, Or.inl ⟨_, rfl⟩⟩ (Nat.le_of_ble_eq_true rfl) (mm_foc rfl) (Nat.le_of_ble_eq_true rfl) ?_  -- calls 39 cX4_setting
    refine w_v_lt rfl (fun c7 => ?_) (fun c7 => ?_)
    · exact l_fE D1 hf (sp_f3_t f3 f1) hb hq hF
    · skip
      refine w_st rfl rfl rfl trivial ?_
      refine w_st rfl rfl rfl trivial ?_
      refine w_k21 (hM2) rfl ⟨rfl, by decide, by decide, by decide, Or.inl ⟨_, rfl⟩⟩ (Nat.le_of_ble_eq_true rfl) (mm_foc rfl) (Nat.le_of_ble_eq_true rfl) ?_  -- calls 41 cX4_strictest
      refine w_st rfl rfl rfl trivial ?_
      refine w_v_eq rfl (fun c8 => ?_) (fun c8 => ?_)
      · exact l_fE D2 hf (sp_f3_t (sp_f3_t f3 f1) f2) hb hq hF
      · skip
        refine w_st rfl rfl rfl trivial ?_
        refine w_st rfl rfl rfl trivial ?_
        refine w_k21 (hM3) rfl ⟨rfl, by decide, by decide, by decide, Or.inl ⟨_, rfl⟩⟩ (Nat.le_of_ble_eq_true rfl) (mm_foc rfl) (Nat.le_of_ble_eq_true rfl) ?_  -- calls 41 cX4_strictest
        refine w_st rfl rfl rfl trivial ?_
        refine w_st rfl rfl rfl trivial ?_
        refine w_k21 (c_setting D3 (show 0 < 2 by decide)) rfl ⟨rfl, by decide, by decide, by decide, Or.inl ⟨_, rfl⟩⟩ (Nat.le_of_ble_eq_true rfl) (mm_foc rfl) (Nat.le_of_ble_eq_true rfl) ?_  -- calls 39 cX4_setting
        refine w_v_lt rfl (fun z => by first | exact absurd z (c7) | exact absurd (c7) z) (fun _ => ?_)
        exact l_fE D3 hf (sp_f3_t (sp_f3_t (sp_f3_t f3 f1) f2) f5) hb hq hF
  have K1 : mm_W 74 528 [.ref 0, .int (nI f), .int (σ (4 + f)), .int (sp_lit σ f), .int (nI q), .int v5, .int (sp_mk (sp_R σ f) 10), .int 1, .int v8, v9, v10, v11] [] g I F := by
    refine w_st rfl rfl rfl trivial ?_
    refine w_m_gt (a := q) rfl (by first | decide | omega) (by first | rfl | assumption | (simp only [← nI_add, ← nI_mul]; rfl)) (fun c0 => ?_) (fun c0 => ?_)
    · exact K2
    · subst c0
      refine w_st rfl rfl rfl trivial ?_
      refine w_st rfl rfl rfl trivial ?_
      refine w_k21 (c_setting h (show 0 < 2 by decide)) rfl ⟨rfl, by decide, by decide, by decide, Or.inl ⟨_, rfl⟩⟩ (Nat.le_of_ble_eq_true rfl) (mm_foc rfl) (Nat.le_of_ble_eq_true rfl) ?_  -- calls 39 cX4_setting
      refine w_st rfl rfl rfl trivial ?_
      refine w_n_gt (a := m) (b := 2) rfl (by first | decide | omega) (by first | decide | omega) (by first | rfl | assumption | (simp only [← nI_add, ← nI_mul]; rfl)) (by first | rfl | assumption | (simp only [← nI_add, ← nI_mul]; rfl)) (fun c2 => ?_) (fun c2 => ?_)
      · exact K2
      · have e : sp_mk (sp_R σ f) 10 = 1023 := by
          unfold sp_R
          rw [hb, show σ 1 = nI m from es]
          exact p_all0 (by omega)
        refine w_st rfl rfl rfl trivial ?_
        refine w_st rfl rfl rfl trivial ?_
        refine w_v_ne rfl (fun z => by first | exact absurd z (e) | exact absurd (e) z) (fun _ => ?_)
        exact K2
  refine w_st rfl rfl rfl trivial ?_
  refine w_z_eq rfl (fun z => by first | exact absurd z ((by decide : ¬ (1 : Int32) = 0)) | exact absurd ((by decide : ¬ (1 : Int32) = 0)) z) (fun _ => ?_)
  refine w_st rfl rfl rfl trivial ?_
  refine w_st rfl rfl rfl trivial ?_
  refine w_st rfl rfl rfl trivial ?_
  refine w_k31 (c_field h hf (show 6 < 8 by decide)) rfl ⟨rfl, by decide, by decide, by decide, Or.inl ⟨_, rfl⟩⟩ (Nat.le_of_ble_eq_true rfl) (mm_foc rfl) (Nat.le_of_ble_eq_true rfl) ?_  -- calls 34 cX4_field
  refine w_st rfl rfl rfl trivial ?_
  refine w_v_eq rfl (fun c6 => ?_) (fun c6 => ?_)
  · exact K1
  · skip
    refine w_st rfl rfl rfl trivial ?_
    refine w_st rfl rfl rfl trivial ?_
    refine w_st rfl rfl rfl trivial ?_
    refine w_k31 (c_field h hf (show 6 < 8 by decide)) rfl ⟨rfl, by decide, by decide, by decide, Or.inl ⟨_, rfl⟩⟩ (Nat.le_of_ble_eq_true rfl) (mm_foc rfl) (Nat.le_of_ble_eq_true rfl) ?_  -- calls 34 cX4_field
    refine w_st rfl rfl rfl trivial ?_
    refine w_st rfl rfl rfl trivial ?_
    refine w_k21 (c_setting h (show 0 < 2 by decide)) rfl ⟨rfl, by decide, by decide, by decide, Or.inl ⟨_, rfl⟩⟩ (Nat.le_of_ble_eq_true rfl) (mm_foc rfl) (Nat.le_of_ble_eq_true rfl) ?_  -- calls 39 cX4_setting
    refine w_v_lt rfl (fun z => by first | exact absurd z ((p_co 10 (Nat.le_refl _)).resolve_left c6) | exact absurd ((p_co 10 (Nat.le_refl _)).resolve_left c6) z) (fun _ => ?_)
    exact K1
theorem l_fC (h : sp_D I σ) (ok : sp_ok σ) (hf : f < 4) (f3 : sp_f3 7 I0 I) (hb : σ (8 + f) = nI q) (hq : q < 32768) (es : σ (1 + 0) = nI m) (hm : m ≤ 5) (hF : mm_EQ (some (.int 1)) g (sp_f3 7 I0) = F) : mm_W 74 390 [.ref 0, .int (nI f), .int (σ (4 + f)), .int (sp_lit σ f), .int (nI q), .int v5, .int (sp_mk (sp_R σ f) 10), .int 1, .int v8, v9, v10, v11] [] g I F := by
  have KD : ¬ sp_vis σ f → mm_W 74 404 [.ref 0, .int (nI f), .int (σ (4 + f)), .int (sp_lit σ f), .int (nI q), .int v5, .int (sp_mk (sp_R σ f) 10), .int 1, .int v8, v9, v10, v11] [] g I F := by
    intro nv
    have e0 : sp_lit σ f = 0 := sp_if_f nv _ _
    have e1 : sp_fd σ f 1 = -1 := sp_if_f nv _ _
    have e4 : sp_fd σ f 4 = 0 := sp_if_f nv _ _
    refine w_st rfl rfl rfl trivial ?_
    refine w_st rfl rfl rfl trivial ?_
    refine w_st rfl rfl rfl (Nat.le_of_ble_eq_true rfl) ?_
    refine w_st rfl rfl rfl trivial ?_
    refine w_z_eq rfl (fun z => by first | exact absurd z ((by decide : ¬ (1 : Int32) = 0)) | exact absurd ((by decide : ¬ (1 : Int32) = 0)) z) (fun _ => ?_)
    refine w_st rfl rfl rfl trivial ?_
    refine w_z_eq rfl (fun z => by first | exact absurd z ((by decide : ¬ (1 : Int32) = 0)) | exact absurd ((by decide : ¬ (1 : Int32) = 0)) z) (fun _ => ?_)
    refine w_st rfl rfl rfl trivial ?_
    refine w_z_ne rfl (fun z => by first | exact absurd z (e0) | exact absurd (e0) z) (fun _ => ?_)
    refine w_st rfl rfl rfl trivial ?_
    refine w_st rfl rfl rfl trivial ?_
    refine w_st rfl rfl rfl trivial ?_
    refine w_k31 (c_field h hf (show 1 < 8 by decide)) rfl ⟨rfl, by decide, by decide, by decide, Or.inl ⟨_, rfl⟩⟩ (Nat.le_of_ble_eq_true rfl) (mm_foc rfl) (Nat.le_of_ble_eq_true rfl) ?_  -- calls 34 cX4_field
    refine w_st rfl rfl rfl trivial ?_
    refine w_v_ne rfl (fun z => by first | exact absurd z (e1) | exact absurd (e1) z) (fun _ => ?_)
    refine w_st rfl rfl rfl trivial ?_
    refine w_st rfl rfl rfl trivial ?_
    refine w_st rfl rfl rfl trivial ?_
    refine w_k31 (c_field h hf (show 4 < 8 by decide)) rfl ⟨rfl, by decide, by decide, by decide, Or.inl ⟨_, rfl⟩⟩ (Nat.le_of_ble_eq_true rfl) (mm_foc rfl) (Nat.le_of_ble_eq_true rfl) ?_  -- calls 34 cX4_field
    refine w_z_ne rfl (fun z => by first | exact absurd z (e4) | exact absurd (e4) z) (fun _ => ?_)
    refine w_st rfl rfl rfl trivial ?_
    refine w_st rfl rfl rfl trivial ?_
    refine w_st rfl rfl rfl trivial ?_
    refine w_st rfl rfl rfl (Nat.le_of_ble_eq_true rfl) ?_
    exact l_fD h hf f3 hb hq es hm hF
  rcases ok.1 f hf with eD | ⟨d, hd, eD⟩
  · skip
    refine w_st rfl rfl rfl trivial ?_
    refine w_st rfl rfl rfl trivial ?_
    refine w_v_eq rfl (fun _ => ?_) (fun z => by first | exact absurd (eD) z | exact absurd z (eD))
    exact KD (fun z => sp_vis_ne z eD)
  · by_cases c : sp_R σ f d = -1
    · have e : (sp_mk (sp_R σ f) 10 >>> (σ (4 + f) &&& 31)) &&& 1 = 0 := by rw [eD, p_bit hd, sp_if_t c]
      refine w_st rfl rfl rfl trivial ?_
      refine w_st rfl rfl rfl trivial ?_
      refine w_v_eq rfl (fun z => by first | exact absurd z ((show ¬ σ (4 + f) = -1 by rw [eD]; exact nI_ne1 (by omega))) | exact absurd ((show ¬ σ (4 + f) = -1 by rw [eD]; exact nI_ne1 (by omega))) z) (fun _ => ?_)
      refine w_st rfl rfl rfl trivial ?_
      refine w_st rfl rfl rfl trivial ?_
      refine w_ishr rfl ?_
      refine w_st rfl rfl rfl trivial ?_
      refine w_iand rfl ?_
      refine w_z_ne rfl (fun z => by first | exact absurd z (e) | exact absurd (e) z) (fun _ => ?_)
      exact KD (fun z => by
        obtain ⟨e, he, h1, h2⟩ := z
        rw [eD] at h1
        rw [← (nI_eq (by omega) (by omega)).1 h1] at h2
        exact h2 c)
    · have v : sp_vis σ f := ⟨d, hd, eD, c⟩
      have hc : (nI d).toNatClampNeg = d := nI_clamp (by omega)
      have e : ¬ (sp_mk (sp_R σ f) 10 >>> (nI d &&& 31)) &&& 1 = 0 := by rw [p_bit hd, sp_if_f c]; decide
      have e1 : sp_lit σ f = sp_tb σ f d 1 := by
        show _ = sp_if (sp_R σ f d = -1) (-1) (sp_sh (σ (8 + f)) d (sp_R σ f d))
        unfold sp_lit
        rw [sp_if_t v, sp_if_f c, eD, hc]
      have e2 : sp_fd σ f 1 = sp_tb σ f d 0 := by
        show sp_if (sp_vis σ f) (sp_R σ f (σ (4 + f)).toNatClampNeg) (-1) = sp_R σ f d
        rw [sp_if_t v, eD, hc]
      have e3 : sp_fd σ f 4 = sp_tb σ f d 2 := by
        show sp_if (sp_vis σ f) (sp_mi (σ (8 + f)) (σ (4 + f)).toNatClampNeg (sp_R σ f (σ (4 + f)).toNatClampNeg)) 0 = sp_if (sp_R σ f d = -1) (-1) (sp_mi (σ (8 + f)) d (sp_R σ f d))
        rw [sp_if_t v, sp_if_f c, eD, hc]
      have KL : mm_W 74 497 [.ref 0, .int (nI f), .int (nI d), .int (sp_lit σ f), .int (nI q), .int v5, .int (sp_mk (sp_R σ f) 10), .int 1, .int 0, v9, v10, v11] [] g I F := by
        rw [← eD]
        exact l_fD h hf f3 hb hq es hm hF
      rw [eD]
      refine w_st rfl rfl rfl trivial ?_
      refine w_st rfl rfl rfl trivial ?_
      refine w_v_eq rfl (fun z => by first | exact absurd z ((nI_ne1 (show d < 2 ^ 31 by omega))) | exact absurd ((nI_ne1 (show d < 2 ^ 31 by omega))) z) (fun _ => ?_)
      refine w_st rfl rfl rfl trivial ?_
      refine w_st rfl rfl rfl trivial ?_
      refine w_ishr rfl ?_
      refine w_st rfl rfl rfl trivial ?_
      refine w_iand rfl ?_
      refine w_z_ne rfl (fun _ => ?_) (fun z => by first | exact absurd (e) z | exact absurd z (e))
      refine w_st rfl rfl rfl trivial ?_
      refine w_st rfl rfl rfl (Nat.le_of_ble_eq_true rfl) ?_
      refine w_st rfl rfl rfl trivial ?_
      refine w_z_eq rfl (fun z => by first | exact absurd z ((by decide : ¬ (1 : Int32) = 0)) | exact absurd ((by decide : ¬ (1 : Int32) = 0)) z) (fun _ => ?_)
      refine w_st rfl rfl rfl trivial ?_
      refine w_z_eq rfl (fun _ => ?_) (fun z => by first | exact absurd (rfl) z | exact absurd z (rfl))
      refine w_st rfl rfl rfl trivial ?_
      refine w_st rfl rfl rfl trivial ?_
      refine w_st rfl rfl rfl trivial ?_
      refine w_st rfl rfl rfl trivial ?_
      refine w_st rfl rfl rfl trivial ?_
      refine w_k41 (c_table h hf hd (show 1 < 3 by decide)) rfl ⟨rfl, by decide, by decide, by decide, Or.inl ⟨_, rfl⟩⟩ (Nat.le_of_ble_eq_true rfl) (mm_foc rfl) (Nat.le_of_ble_eq_true rfl) ?_  -- calls 36 cX4_table
      refine w_v_ne rfl (fun z => by first | exact absurd z (e1) | exact absurd (e1) z) (fun _ => ?_)
      refine w_st rfl rfl rfl trivial ?_
      refine w_st rfl rfl rfl trivial ?_
      refine w_st rfl rfl rfl trivial ?_
      refine w_k31 (c_field h hf (show 1 < 8 by decide)) rfl ⟨rfl, by decide, by decide, by decide, Or.inl ⟨_, rfl⟩⟩ (Nat.le_of_ble_eq_true rfl) (mm_foc rfl) (Nat.le_of_ble_eq_true rfl) ?_  -- calls 34 cX4_field
      refine w_st rfl rfl rfl trivial ?_
      refine w_st rfl rfl rfl trivial ?_
      refine w_st rfl rfl rfl trivial ?_
      refine w_st rfl rfl rfl trivial ?_
      refine w_k41 (c_table h hf hd (show 0 < 3 by decide)) rfl ⟨rfl, by decide, by decide, by decide, Or.inl ⟨_, rfl⟩⟩ (Nat.le_of_ble_eq_true rfl) (mm_foc rfl) (Nat.le_of_ble_eq_true rfl) ?_  -- calls 36 cX4_table
      refine w_v_ne rfl (fun z => by first | exact absurd z (e2) | exact absurd (e2) z) (fun _ => ?_)
      refine w_st rfl rfl rfl trivial ?_
      refine w_st rfl rfl rfl trivial ?_
      refine w_st rfl rfl rfl trivial ?_
      refine w_k31 (c_field h hf (show 4 < 8 by decide)) rfl ⟨rfl, by decide, by decide, by decide, Or.inl ⟨_, rfl⟩⟩ (Nat.le_of_ble_eq_true rfl) (mm_foc rfl) (Nat.le_of_ble_eq_true rfl) ?_  -- calls 34 cX4_field
      refine w_st rfl rfl rfl trivial ?_
      refine w_st rfl rfl rfl trivial ?_
      refine w_st rfl rfl rfl trivial ?_
      refine w_st rfl rfl rfl trivial ?_
      refine w_k41 (c_table h hf hd (show 2 < 3 by decide)) rfl ⟨rfl, by decide, by decide, by decide, Or.inl ⟨_, rfl⟩⟩ (Nat.le_of_ble_eq_true rfl) (mm_foc rfl) (Nat.le_of_ble_eq_true rfl) ?_  -- calls 36 cX4_table
      refine w_v_ne rfl (fun z => by first | exact absurd z (e3) | exact absurd (e3) z) (fun _ => ?_)
      refine w_st rfl rfl rfl trivial ?_
      refine w_st rfl rfl rfl trivial ?_
      refine w_st rfl rfl rfl (Nat.le_of_ble_eq_true rfl) ?_
      exact KL
theorem l_fB (h : sp_D I σ) (ok : sp_ok σ) (hf : f < 4) (f3 : sp_f3 7 I0 I) (hb : σ (8 + f) = nI q) (hq : q < 32768) (es : σ (1 + 0) = nI m) (hm1 : 1 ≤ m) (hm : m ≤ 5) (hF : mm_EQ (some (.int 1)) g (sp_f3 7 I0) = F) : ∀ d, d ≤ 10 → ∀ v9 v10 v11, mm_W 74 194 [.ref 0, .int (nI f), .int (σ (4 + f)), .int (sp_lit σ f), .int (nI q), .int v5, .int (sp_mk (sp_R σ f) 10), .int 1, .int (nI d), v9, v10, v11] [] g I F := by
  refine mm_dn 10 ?_ ?_
  · intro v9 v10 v11
    refine w_st rfl rfl rfl trivial ?_
    refine w_st rfl rfl rfl trivial ?_
    refine w_n_ge (a := 10) (b := 10) rfl (by first | decide | omega) (by first | decide | omega) (by first | rfl | assumption | (simp only [← nI_add, ← nI_mul]; rfl)) (by first | rfl | assumption | (simp only [← nI_add, ← nI_mul]; rfl)) (fun _ => ?_) (fun c => by exfalso; omega)
    exact l_fC h ok hf f3 hb hq es hm hF
  · intro d hd ih v9 v10 v11
    by_cases c : sp_R σ f d = -1
    · have e : ¬ (sp_mk (sp_R σ f) 10 >>> (nI d &&& 31)) &&& 1 = 1 := by rw [p_bit hd, sp_if_t c]; decide
      have t0 : sp_tb σ f d 0 < 0 := by rw [show sp_tb σ f d 0 = -1 from c]; decide
      have t1 : sp_tb σ f d 1 < 0 := by rw [show sp_tb σ f d 1 = -1 from sp_if_t c _ _]; decide
      refine w_st rfl rfl rfl trivial ?_
      refine w_st rfl rfl rfl trivial ?_
      refine w_n_ge (a := d) (b := 10) rfl (by first | decide | omega) (by first | decide | omega) (by first | rfl | assumption | (simp only [← nI_add, ← nI_mul]; rfl)) (by first | rfl | assumption | (simp only [← nI_add, ← nI_mul]; rfl)) (fun c => by exfalso; omega) (fun _ => ?_)
      refine w_st rfl rfl rfl trivial ?_
      refine w_z_eq rfl (fun z => by first | exact absurd z ((by decide : ¬ (1 : Int32) = 0)) | exact absurd ((by decide : ¬ (1 : Int32) = 0)) z) (fun _ => ?_)
      refine w_st rfl rfl rfl trivial ?_
      refine w_st rfl rfl rfl trivial ?_
      refine w_ishr rfl ?_
      refine w_st rfl rfl rfl trivial ?_
      refine w_iand rfl ?_
      refine w_st rfl rfl rfl trivial ?_
      refine w_v_ne rfl (fun _ => ?_) (fun z => by first | exact absurd (e) z | exact absurd z (e))
      refine w_st rfl rfl rfl trivial ?_
      refine w_st rfl rfl rfl (Nat.le_of_ble_eq_true rfl) ?_
      refine w_st rfl rfl rfl trivial ?_
      refine w_st rfl rfl rfl trivial ?_
      refine w_st rfl rfl rfl trivial ?_
      refine w_st rfl rfl rfl trivial ?_
      refine w_k41 (c_table h hf hd (show 1 < 3 by decide)) rfl ⟨rfl, by decide, by decide, by decide, Or.inl ⟨_, rfl⟩⟩ (Nat.le_of_ble_eq_true rfl) (mm_foc rfl) (Nat.le_of_ble_eq_true rfl) ?_  -- calls 36 cX4_table
      refine w_st rfl rfl rfl (Nat.le_of_ble_eq_true rfl) ?_
      refine w_st rfl rfl rfl trivial ?_
      refine w_st rfl rfl rfl trivial ?_
      refine w_st rfl rfl rfl trivial ?_
      refine w_st rfl rfl rfl trivial ?_
      refine w_st rfl rfl rfl trivial ?_
      refine w_k41 (c_table h hf hd (show 0 < 3 by decide)) rfl ⟨rfl, by decide, by decide, by decide, Or.inl ⟨_, rfl⟩⟩ (Nat.le_of_ble_eq_true rfl) (mm_foc rfl) (Nat.le_of_ble_eq_true rfl) ?_  -- calls 36 cX4_table
      refine w_z_lt rfl (fun _ => ?_) (fun z => by first | exact absurd (t0) z | exact absurd z (t0))
      refine w_st rfl rfl rfl trivial ?_
      refine w_v_ne rfl (fun z => by first | exact absurd z (rfl) | exact absurd (rfl) z) (fun _ => ?_)
      refine w_st rfl rfl rfl trivial ?_
      refine w_st rfl rfl rfl trivial ?_
      refine w_z_lt rfl (fun _ => ?_) (fun z => by first | exact absurd (t1) z | exact absurd z (t1))
      refine w_st rfl rfl rfl trivial ?_
      refine w_v_ne rfl (fun z => by first | exact absurd z (rfl) | exact absurd (rfl) z) (fun _ => ?_)
      refine w_st rfl rfl rfl trivial ?_
      refine w_z_eq rfl (fun _ => ?_) (fun z => by first | exact absurd (rfl) z | exact absurd z (rfl))
      refine w_st rfl rfl rfl trivial ?_
      refine w_st rfl rfl rfl trivial ?_
      refine w_st rfl rfl rfl (Nat.le_of_ble_eq_true rfl) ?_
      refine w_st rfl rfl rfl trivial ?_
      refine w_st rfl rfl rfl (Nat.le_of_ble_eq_true rfl) ?_
      refine w_st rfl rfl rfl trivial ?_
      refine w_st rfl rfl rfl trivial ?_
      refine w_n_ge (a := 0) (b := d) rfl (by first | decide | omega) (by first | decide | omega) (by first | rfl | assumption | (simp only [← nI_add, ← nI_mul]; rfl)) (by first | rfl | assumption | (simp only [← nI_add, ← nI_mul]; rfl)) (fun c0 => ?_) (fun c0 => ?_)
      · skip
        refine w_inc rfl rfl rfl (Nat.le_of_ble_eq_true rfl) (nI_1 _) ?_
        refine w_st rfl rfl rfl trivial ?_
        exact ih _ _ _
      · skip
        refine w_st rfl rfl rfl trivial ?_
        refine w_z_eq rfl (fun z => by first | exact absurd z ((by decide : ¬ (1 : Int32) = 0)) | exact absurd ((by decide : ¬ (1 : Int32) = 0)) z) (fun _ => ?_)
        refine w_st rfl rfl rfl trivial ?_
        refine w_z_eq rfl (fun _ => ?_) (fun z => by first | exact absurd (rfl) z | exact absurd z (rfl))
        refine w_inc rfl rfl rfl (Nat.le_of_ble_eq_true rfl) (nI_1 _) ?_
        refine w_st rfl rfl rfl trivial ?_
        exact ih _ _ _
    · have e : (sp_mk (sp_R σ f) 10 >>> (nI d &&& 31)) &&& 1 = 1 := by rw [p_bit hd, sp_if_f c]
      obtain ⟨j, hj, t0⟩ : ∃ j, j < 3 ∧ sp_tb σ f d 0 = nI j := (sp_row_k hd).resolve_left c
      obtain ⟨u, hu, hsh⟩ := p_sh_b (b := σ (8 + f)) (s := σ 1) hd c
      have t1 : sp_tb σ f d 1 = nI u := (sp_if_f c _ _).trans hsh
      have t2 : nI u &&& nI q = 0 := by rw [← hsh, ← hb]; exact p_sh_nb _
      obtain ⟨i, i2, i3, i4, i5, i6⟩ := p_mi_le (b := σ (8 + f)) (s := σ 1) hd (ok.2.1 f hf) c
      have t3 : sp_tb σ f d 2 = nI i := (sp_if_f c _ _).trans i5
      have t4 : sp_fd σ f 3 = nI i2 := i6
      have t5 : (sp_nr (sp_R σ f) (σ (8 + f)) (nI u) 10).1 = nI d := by rw [← hsh]; exact p_read hm1 hm es hd c
      refine w_st rfl rfl rfl trivial ?_
      refine w_st rfl rfl rfl trivial ?_
      refine w_n_ge (a := d) (b := 10) rfl (by first | decide | omega) (by first | decide | omega) (by first | rfl | assumption | (simp only [← nI_add, ← nI_mul]; rfl)) (by first | rfl | assumption | (simp only [← nI_add, ← nI_mul]; rfl)) (fun c => by exfalso; omega) (fun _ => ?_)
      refine w_st rfl rfl rfl trivial ?_
      refine w_z_eq rfl (fun z => by first | exact absurd z ((by decide : ¬ (1 : Int32) = 0)) | exact absurd ((by decide : ¬ (1 : Int32) = 0)) z) (fun _ => ?_)
      refine w_st rfl rfl rfl trivial ?_
      refine w_st rfl rfl rfl trivial ?_
      refine w_ishr rfl ?_
      refine w_st rfl rfl rfl trivial ?_
      refine w_iand rfl ?_
      refine w_st rfl rfl rfl trivial ?_
      refine w_v_ne rfl (fun z => by first | exact absurd z (e) | exact absurd (e) z) (fun _ => ?_)
      refine w_st rfl rfl rfl trivial ?_
      refine w_st rfl rfl rfl trivial ?_
      refine w_st rfl rfl rfl (Nat.le_of_ble_eq_true rfl) ?_
      refine w_st rfl rfl rfl trivial ?_
      refine w_st rfl rfl rfl trivial ?_
      refine w_st rfl rfl rfl trivial ?_
      refine w_st rfl rfl rfl trivial ?_
      refine w_k41 (c_table h hf hd (show 1 < 3 by decide)) rfl ⟨rfl, by decide, by decide, by decide, Or.inl ⟨_, rfl⟩⟩ (Nat.le_of_ble_eq_true rfl) (mm_foc rfl) (Nat.le_of_ble_eq_true rfl) ?_  -- calls 36 cX4_table
      rw [t1]
      refine w_st rfl rfl rfl (Nat.le_of_ble_eq_true rfl) ?_
      refine w_st rfl rfl rfl trivial ?_
      refine w_st rfl rfl rfl trivial ?_
      refine w_st rfl rfl rfl trivial ?_
      refine w_st rfl rfl rfl trivial ?_
      refine w_st rfl rfl rfl trivial ?_
      refine w_k41 (c_table h hf hd (show 0 < 3 by decide)) rfl ⟨rfl, by decide, by decide, by decide, Or.inl ⟨_, rfl⟩⟩ (Nat.le_of_ble_eq_true rfl) (mm_foc rfl) (Nat.le_of_ble_eq_true rfl) ?_  -- calls 36 cX4_table
      refine w_m_lt (a := j) rfl (by first | decide | omega) (by first | rfl | assumption | (simp only [← nI_add, ← nI_mul]; rfl)) ?_
      refine w_st rfl rfl rfl trivial ?_
      refine w_st rfl rfl rfl trivial ?_
      refine w_v_ne rfl (fun z => by first | exact absurd z (rfl) | exact absurd (rfl) z) (fun _ => ?_)
      refine w_st rfl rfl rfl trivial ?_
      refine w_st rfl rfl rfl trivial ?_
      refine w_m_lt (a := u) rfl (by first | decide | omega) (by first | rfl | assumption | (simp only [← nI_add, ← nI_mul]; rfl)) ?_
      refine w_st rfl rfl rfl trivial ?_
      refine w_st rfl rfl rfl trivial ?_
      refine w_v_ne rfl (fun z => by first | exact absurd z (rfl) | exact absurd (rfl) z) (fun _ => ?_)
      refine w_st rfl rfl rfl trivial ?_
      refine w_z_eq rfl (fun z => by first | exact absurd z ((by decide : ¬ (1 : Int32) = 0)) | exact absurd ((by decide : ¬ (1 : Int32) = 0)) z) (fun _ => ?_)
      refine w_st rfl rfl rfl trivial ?_
      refine w_st rfl rfl rfl trivial ?_
      refine w_iand rfl ?_
      refine w_z_ne rfl (fun z => by first | exact absurd z (t2) | exact absurd (t2) z) (fun _ => ?_)
      refine w_st rfl rfl rfl trivial ?_
      refine w_st rfl rfl rfl trivial ?_
      refine w_st rfl rfl rfl trivial ?_
      refine w_st rfl rfl rfl trivial ?_
      refine w_k41 (c_table h hf hd (show 2 < 3 by decide)) rfl ⟨rfl, by decide, by decide, by decide, Or.inl ⟨_, rfl⟩⟩ (Nat.le_of_ble_eq_true rfl) (mm_foc rfl) (Nat.le_of_ble_eq_true rfl) ?_  -- calls 36 cX4_table
      refine w_st rfl rfl rfl trivial ?_
      refine w_st rfl rfl rfl trivial ?_
      refine w_st rfl rfl rfl trivial ?_
      refine w_k31 (c_field h hf (show 3 < 8 by decide)) rfl ⟨rfl, by decide, by decide, by decide, Or.inl ⟨_, rfl⟩⟩ (Nat.le_of_ble_eq_true rfl) (mm_foc rfl) (Nat.le_of_ble_eq_true rfl) ?_  -- calls 34 cX4_field
      refine w_n_gt (a := i) (b := i2) rfl (by first | decide | omega) (by first | decide | omega) (by first | rfl | assumption | (simp only [← nI_add, ← nI_mul]; rfl)) (by first | rfl | assumption | (simp only [← nI_add, ← nI_mul]; rfl)) (fun c => by exfalso; omega) (fun _ => ?_)
      refine w_st rfl rfl rfl trivial ?_
      refine w_st rfl rfl rfl trivial ?_
      refine w_st rfl rfl rfl trivial ?_
      refine w_k31 (c_read h hf hu) rfl ⟨rfl, by decide, by decide, by decide, Or.inl ⟨_, rfl⟩⟩ (Nat.le_of_ble_eq_true rfl) (mm_foc rfl) (Nat.le_of_ble_eq_true rfl) ?_  -- calls 37 cX4_read
      refine w_st rfl rfl rfl trivial ?_
      refine w_v_ne rfl (fun z => by first | exact absurd z (t5) | exact absurd (t5) z) (fun _ => ?_)
      refine w_st rfl rfl rfl trivial ?_
      refine w_st rfl rfl rfl trivial ?_
      refine w_st rfl rfl rfl (Nat.le_of_ble_eq_true rfl) ?_
      refine w_st rfl rfl rfl trivial ?_
      refine w_st rfl rfl rfl (Nat.le_of_ble_eq_true rfl) ?_
      have K : ∀ e, e ≤ d → mm_W 74 322 [.ref 0, .int (nI f), .int (σ (4 + f)), .int (sp_lit σ f), .int (nI q), .int v5, .int (sp_mk (sp_R σ f) 10), .int 1, .int (nI d), .int 1, .int (nI u), .int (nI e)] [] g I F := by
        refine mm_dn d ?_ ?_
        · skip
          refine w_st rfl rfl rfl trivial ?_
          refine w_st rfl rfl rfl trivial ?_
          refine w_n_ge (a := d) (b := d) rfl (by first | decide | omega) (by first | decide | omega) (by first | rfl | assumption | (simp only [← nI_add, ← nI_mul]; rfl)) (by first | rfl | assumption | (simp only [← nI_add, ← nI_mul]; rfl)) (fun _ => ?_) (fun c => by exfalso; omega)
          refine w_inc rfl rfl rfl (Nat.le_of_ble_eq_true rfl) (nI_1 _) ?_
          refine w_st rfl rfl rfl trivial ?_
          exact ih _ _ _
        · intro e he ih2
          have he10 : e < 10 := by omega
          by_cases ce : sp_R σ f e = -1
          · have e0 : (sp_mk (sp_R σ f) 10 >>> (nI e &&& 31)) &&& 1 = 0 := by rw [p_bit he10, sp_if_t ce]
            refine w_st rfl rfl rfl trivial ?_
            refine w_st rfl rfl rfl trivial ?_
            refine w_n_ge (a := e) (b := d) rfl (by first | decide | omega) (by first | decide | omega) (by first | rfl | assumption | (simp only [← nI_add, ← nI_mul]; rfl)) (by first | rfl | assumption | (simp only [← nI_add, ← nI_mul]; rfl)) (fun c => by exfalso; omega) (fun _ => ?_)
            refine w_st rfl rfl rfl trivial ?_
            refine w_z_eq rfl (fun z => by first | exact absurd z ((by decide : ¬ (1 : Int32) = 0)) | exact absurd ((by decide : ¬ (1 : Int32) = 0)) z) (fun _ => ?_)
            refine w_st rfl rfl rfl trivial ?_
            refine w_z_eq rfl (fun z => by first | exact absurd z ((by decide : ¬ (1 : Int32) = 0)) | exact absurd ((by decide : ¬ (1 : Int32) = 0)) z) (fun _ => ?_)
            refine w_st rfl rfl rfl trivial ?_
            refine w_st rfl rfl rfl trivial ?_
            refine w_ishr rfl ?_
            refine w_st rfl rfl rfl trivial ?_
            refine w_iand rfl ?_
            refine w_z_eq rfl (fun _ => ?_) (fun z => by first | exact absurd (e0) z | exact absurd z (e0))
            refine w_st rfl rfl rfl trivial ?_
            refine w_st rfl rfl rfl trivial ?_
            refine w_st rfl rfl rfl (Nat.le_of_ble_eq_true rfl) ?_
            refine w_inc rfl rfl rfl (Nat.le_of_ble_eq_true rfl) (nI_1 _) ?_
            refine w_st rfl rfl rfl trivial ?_
            exact ih2
          · have e0 : ¬ (sp_mk (sp_R σ f) 10 >>> (nI e &&& 31)) &&& 1 = 0 := by rw [p_bit he10, sp_if_f ce]; decide
            have t6 : sp_tb σ f e 1 = sp_sh (σ (8 + f)) e (sp_R σ f e) := sp_if_f ce _ _
            have b6 : sp_b15 (nI u ^^^ sp_tb σ f e 1) := by rw [t6]; exact sp_b15_xor ⟨u, hu, rfl⟩ (p_sh_b he10 ce)
            have t7 : ¬ sp_pop (nI u ^^^ sp_tb σ f e 1) < σ (1 + 0) := by rw [t6, ← hsh]; exact p_apart hd he c ce
            refine w_st rfl rfl rfl trivial ?_
            refine w_st rfl rfl rfl trivial ?_
            refine w_n_ge (a := e) (b := d) rfl (by first | decide | omega) (by first | decide | omega) (by first | rfl | assumption | (simp only [← nI_add, ← nI_mul]; rfl)) (by first | rfl | assumption | (simp only [← nI_add, ← nI_mul]; rfl)) (fun c => by exfalso; omega) (fun _ => ?_)
            refine w_st rfl rfl rfl trivial ?_
            refine w_z_eq rfl (fun z => by first | exact absurd z ((by decide : ¬ (1 : Int32) = 0)) | exact absurd ((by decide : ¬ (1 : Int32) = 0)) z) (fun _ => ?_)
            refine w_st rfl rfl rfl trivial ?_
            refine w_z_eq rfl (fun z => by first | exact absurd z ((by decide : ¬ (1 : Int32) = 0)) | exact absurd ((by decide : ¬ (1 : Int32) = 0)) z) (fun _ => ?_)
            refine w_st rfl rfl rfl trivial ?_
            refine w_st rfl rfl rfl trivial ?_
            refine w_ishr rfl ?_
            refine w_st rfl rfl rfl trivial ?_
            refine w_iand rfl ?_
            refine w_z_eq rfl (fun z => by first | exact absurd z (e0) | exact absurd (e0) z) (fun _ => ?_)
            refine w_st rfl rfl rfl trivial ?_
            refine w_st rfl rfl rfl trivial ?_
            refine w_st rfl rfl rfl trivial ?_
            refine w_st rfl rfl rfl trivial ?_
            refine w_st rfl rfl rfl trivial ?_
            refine w_k41 (c_table h hf he10 (show 1 < 3 by decide)) rfl ⟨rfl, by decide, by decide, by decide, Or.inl ⟨_, rfl⟩⟩ (Nat.le_of_ble_eq_true rfl) (mm_foc rfl) (Nat.le_of_ble_eq_true rfl) ?_  -- calls 36 cX4_table
            refine w_ixor rfl ?_
            refine w_k11 (l_ones b6) rfl ⟨rfl, by decide, by decide, by decide, Or.inr (Or.inl ⟨_, rfl⟩)⟩ (Nat.le_of_ble_eq_true rfl) trivial (Nat.le_of_ble_eq_true rfl) ?_  -- calls 70 cL_ones
            refine w_st rfl rfl rfl trivial ?_
            refine w_st rfl rfl rfl trivial ?_
            refine w_k21 (c_setting h (show 0 < 2 by decide)) rfl ⟨rfl, by decide, by decide, by decide, Or.inl ⟨_, rfl⟩⟩ (Nat.le_of_ble_eq_true rfl) (mm_foc rfl) (Nat.le_of_ble_eq_true rfl) ?_  -- calls 39 cX4_setting
            refine w_v_lt rfl (fun z => by first | exact absurd z (t7) | exact absurd (t7) z) (fun _ => ?_)
            refine w_st rfl rfl rfl trivial ?_
            refine w_st rfl rfl rfl trivial ?_
            refine w_st rfl rfl rfl (Nat.le_of_ble_eq_true rfl) ?_
            refine w_inc rfl rfl rfl (Nat.le_of_ble_eq_true rfl) (nI_1 _) ?_
            refine w_st rfl rfl rfl trivial ?_
            exact ih2
      exact K 0 (Nat.zero_le _)
theorem l_field (h : sp_D I σ) (ok : sp_ok σ) (hf : f < 4) (hk : I 13 2 = nI k) : ∃ I', mm_M 74 12 [.ref 0, .int (nI f)] g I (some (.int 1)) I' ∧ sp_f3 7 I I' := by
  obtain ⟨q, hq, hb⟩ := ok.2.1 f hf
  obtain ⟨m, hm1, hm5, es⟩ := ok.2.2.1
  obtain ⟨N, hN, e0, oh⟩ := ok.2.2.2.2
  have e0 : sp_cn σ k 0 = nI N := e0
  obtain ⟨w, w1, w2, w3, w4⟩ := p_can_n (sp_R σ f)
  refine w_MX ?_
  show mm_W 74 0 [.ref 0, .int (nI f), .null, .null, .null, .null, .null, .null, .null, .null, .null, .null] [] _ _ _
  generalize hF : mm_EQ _ _ _ = F
  refine w_st rfl rfl rfl trivial ?_
  refine w_st rfl rfl rfl trivial ?_
  refine w_st rfl rfl rfl trivial ?_
  refine w_k31 (c_field h hf (show 0 < 8 by decide)) rfl ⟨rfl, by decide, by decide, by decide, Or.inl ⟨_, rfl⟩⟩ (Nat.le_of_ble_eq_true rfl) (mm_foc rfl) (Nat.le_of_ble_eq_true rfl) ?_  -- calls 34 cX4_field
  refine w_st rfl rfl rfl (Nat.le_of_ble_eq_true rfl) ?_
  refine w_st rfl rfl rfl trivial ?_
  refine w_st rfl rfl rfl trivial ?_
  refine w_st rfl rfl rfl trivial ?_
  refine w_k31 (c_field h hf (show 2 < 8 by decide)) rfl ⟨rfl, by decide, by decide, by decide, Or.inl ⟨_, rfl⟩⟩ (Nat.le_of_ble_eq_true rfl) (mm_foc rfl) (Nat.le_of_ble_eq_true rfl) ?_  -- calls 34 cX4_field
  refine w_st rfl rfl rfl (Nat.le_of_ble_eq_true rfl) ?_
  refine w_st rfl rfl rfl trivial ?_
  refine w_st rfl rfl rfl (Nat.le_of_ble_eq_true rfl) ?_
  refine w_st rfl rfl rfl trivial ?_
  refine w_st rfl rfl rfl (Nat.le_of_ble_eq_true rfl) ?_
  refine w_st rfl rfl rfl trivial ?_
  refine w_st rfl rfl rfl trivial ?_
  refine w_st rfl rfl rfl trivial ?_
  refine w_k31 (c_field h hf (show 5 < 8 by decide)) rfl ⟨rfl, by decide, by decide, by decide, Or.inl ⟨_, rfl⟩⟩ (Nat.le_of_ble_eq_true rfl) (mm_foc rfl) (Nat.le_of_ble_eq_true rfl) ?_  -- calls 34 cX4_field
  refine w_st rfl rfl rfl (Nat.le_of_ble_eq_true rfl) ?_
  refine w_st rfl rfl rfl trivial ?_
  refine w_st rfl rfl rfl (Nat.le_of_ble_eq_true rfl) ?_
  refine w_st rfl rfl rfl trivial ?_
  refine w_st rfl rfl rfl (Nat.le_of_ble_eq_true rfl) ?_
  refine mm_dn (P := fun j => mm_W 74 34 [.ref 0, .int (nI f), .int (σ (4 + f)), .int (sp_lit σ f), .int (p_ac (σ (8 + f)) j), .int (p_ac (sp_lit σ f) j), .int (sp_mk (sp_R σ f) 10), .int 1, .int (nI j), .null, .null, .null] [] g I F) (15) ?_ ?_ 0 (by first | decide | omega)
  · try dsimp only
    have a1 := p_ac_15 (ok.2.1 f hf)
    have a2 := p_ac_15 (sp_lit_b (σ := σ) (f := f))
    rw [a1, a2, hb]
    have e1 : sp_pop (nI q) = sp_fd σ f 3 := by rw [← hb]; rfl
    have e2 : sp_lit σ f &&& nI q = 0 := by
      rw [← hb]
      unfold sp_lit
      by_cases v : sp_vis σ f
      · rw [sp_if_t v]; exact p_sh_nb _
      · rw [sp_if_f v]; exact Int32.zero_and
    refine w_st rfl rfl rfl trivial ?_
    refine w_st rfl rfl rfl trivial ?_
    refine w_n_ge (a := 15) (b := 15) rfl (by first | decide | omega) (by first | decide | omega) (by first | rfl | assumption | (simp only [← nI_add, ← nI_mul]; rfl)) (by first | rfl | assumption | (simp only [← nI_add, ← nI_mul]; rfl)) (fun _ => ?_) (fun c => by exfalso; omega)
    refine w_st rfl rfl rfl trivial ?_
    refine w_z_eq rfl (fun z => by first | exact absurd z ((by decide : ¬ (1 : Int32) = 0)) | exact absurd ((by decide : ¬ (1 : Int32) = 0)) z) (fun _ => ?_)
    refine w_st rfl rfl rfl trivial ?_
    refine w_k11 (l_ones ⟨q, hq, rfl⟩) rfl ⟨rfl, by decide, by decide, by decide, Or.inr (Or.inl ⟨_, rfl⟩)⟩ (Nat.le_of_ble_eq_true rfl) trivial (Nat.le_of_ble_eq_true rfl) ?_  -- calls 70 cL_ones
    refine w_st rfl rfl rfl trivial ?_
    refine w_st rfl rfl rfl trivial ?_
    refine w_st rfl rfl rfl trivial ?_
    refine w_k31 (c_field h hf (show 3 < 8 by decide)) rfl ⟨rfl, by decide, by decide, by decide, Or.inl ⟨_, rfl⟩⟩ (Nat.le_of_ble_eq_true rfl) (mm_foc rfl) (Nat.le_of_ble_eq_true rfl) ?_  -- calls 34 cX4_field
    refine w_v_ne rfl (fun z => by first | exact absurd z (e1) | exact absurd (e1) z) (fun _ => ?_)
    refine w_st rfl rfl rfl trivial ?_
    refine w_st rfl rfl rfl trivial ?_
    refine w_v_ne rfl (fun z => by first | exact absurd z (rfl) | exact absurd (rfl) z) (fun _ => ?_)
    refine w_st rfl rfl rfl trivial ?_
    refine w_st rfl rfl rfl trivial ?_
    refine w_iand rfl ?_
    refine w_z_ne rfl (fun z => by first | exact absurd z (e2) | exact absurd (e2) z) (fun _ => ?_)
    refine w_st rfl rfl rfl trivial ?_
    refine w_st rfl rfl rfl trivial ?_
    refine w_st rfl rfl rfl (Nat.le_of_ble_eq_true rfl) ?_
    refine w_st rfl rfl rfl trivial ?_
    refine w_st rfl rfl rfl (Nat.le_of_ble_eq_true rfl) ?_
    exact l_fB h ok hf (fun _ _ _ _ => rfl) hb hq es hm1 hm5 hF 0 (by decide) _ _ _
  · intro j hj ih
    try dsimp only at ih ⊢
    obtain ⟨hh, hh1, hh2⟩ := oh (15 * f + j) (by omega)
    have e3 : sp_lo σ f j 1 = nI hh := hh2
    have dw := p_dw_le (sp_R σ f) j 10
    refine w_st rfl rfl rfl trivial ?_
    refine w_st rfl rfl rfl trivial ?_
    refine w_n_ge (a := j) (b := 15) rfl (by first | decide | omega) (by first | decide | omega) (by first | rfl | assumption | (simp only [← nI_add, ← nI_mul]; rfl)) (by first | rfl | assumption | (simp only [← nI_add, ← nI_mul]; rfl)) (fun c => by exfalso; omega) (fun _ => ?_)
    refine w_st rfl rfl rfl trivial ?_
    refine w_z_eq rfl (fun z => by first | exact absurd z ((by decide : ¬ (1 : Int32) = 0)) | exact absurd ((by decide : ¬ (1 : Int32) = 0)) z) (fun _ => ?_)
    refine w_st rfl rfl rfl trivial ?_
    refine w_st rfl rfl rfl trivial ?_
    refine w_st rfl rfl rfl trivial ?_
    refine w_st rfl rfl rfl trivial ?_
    refine w_st rfl rfl rfl trivial ?_
    refine w_k41 (c_lampOf h hf hj (show 0 < 4 by decide)) rfl ⟨rfl, by decide, by decide, by decide, Or.inl ⟨_, rfl⟩⟩ (Nat.le_of_ble_eq_true rfl) (mm_foc rfl) (Nat.le_of_ble_eq_true rfl) ?_  -- calls 35 cX4_lampOf
    refine w_st rfl rfl rfl trivial ?_
    refine w_st rfl rfl rfl trivial ?_
    refine w_isub rfl ?_
    refine w_ishl rfl ?_
    refine w_ior rfl ?_
    refine w_st rfl rfl rfl (Nat.le_of_ble_eq_true rfl) ?_
    refine w_st rfl rfl rfl trivial ?_
    refine w_st rfl rfl rfl trivial ?_
    refine w_st rfl rfl rfl trivial ?_
    refine w_st rfl rfl rfl trivial ?_
    refine w_st rfl rfl rfl trivial ?_
    refine w_k41 (c_lampOf h hf hj (show 2 < 4 by decide)) rfl ⟨rfl, by decide, by decide, by decide, Or.inl ⟨_, rfl⟩⟩ (Nat.le_of_ble_eq_true rfl) (mm_foc rfl) (Nat.le_of_ble_eq_true rfl) ?_  -- calls 35 cX4_lampOf
    refine w_st rfl rfl rfl trivial ?_
    refine w_st rfl rfl rfl trivial ?_
    refine w_isub rfl ?_
    refine w_ishl rfl ?_
    refine w_ior rfl ?_
    refine w_st rfl rfl rfl (Nat.le_of_ble_eq_true rfl) ?_
    refine w_st rfl rfl rfl trivial ?_
    refine w_st rfl rfl rfl trivial ?_
    refine w_st rfl rfl rfl trivial ?_
    refine w_st rfl rfl rfl trivial ?_
    refine w_k41 (c_lampOf h hf hj (show 1 < 4 by decide)) rfl ⟨rfl, by decide, by decide, by decide, Or.inl ⟨_, rfl⟩⟩ (Nat.le_of_ble_eq_true rfl) (mm_foc rfl) (Nat.le_of_ble_eq_true rfl) ?_  -- calls 35 cX4_lampOf
    refine w_m_lt (a := hh) rfl (by first | decide | omega) (by first | rfl | assumption | (simp only [← nI_add, ← nI_mul]; rfl)) ?_
    refine w_st rfl rfl rfl trivial ?_
    refine w_st rfl rfl rfl trivial ?_
    refine w_st rfl rfl rfl trivial ?_
    refine w_st rfl rfl rfl trivial ?_
    refine w_k41 (c_lampOf h hf hj (show 1 < 4 by decide)) rfl ⟨rfl, by decide, by decide, by decide, Or.inl ⟨_, rfl⟩⟩ (Nat.le_of_ble_eq_true rfl) (mm_foc rfl) (Nat.le_of_ble_eq_true rfl) ?_  -- calls 35 cX4_lampOf
    refine w_st rfl rfl rfl trivial ?_
    refine w_st rfl rfl rfl trivial ?_
    refine w_k21 (c_count h hk (show 0 < 8 by decide)) rfl ⟨rfl, by decide, by decide, by decide, Or.inl ⟨_, rfl⟩⟩ (Nat.le_of_ble_eq_true rfl) (mm_foc rfl) (Nat.le_of_ble_eq_true rfl) ?_  -- calls 38 cX4_count
    refine w_n_gt (a := hh) (b := N) rfl (by first | decide | omega) (by first | decide | omega) (by first | rfl | assumption | (simp only [← nI_add, ← nI_mul]; rfl)) (by first | rfl | assumption | (simp only [← nI_add, ← nI_mul]; rfl)) (fun c => by exfalso; omega) (fun _ => ?_)
    refine w_st rfl rfl rfl trivial ?_
    refine w_st rfl rfl rfl trivial ?_
    refine w_st rfl rfl rfl trivial ?_
    refine w_st rfl rfl rfl trivial ?_
    refine w_k41 (c_lampOf h hf hj (show 3 < 4 by decide)) rfl ⟨rfl, by decide, by decide, by decide, Or.inl ⟨_, rfl⟩⟩ (Nat.le_of_ble_eq_true rfl) (mm_foc rfl) (Nat.le_of_ble_eq_true rfl) ?_  -- calls 35 cX4_lampOf
    refine w_m_lt (a := sp_dw (sp_R σ f) j 10) rfl (by first | decide | omega) (by first | rfl | assumption | (simp only [← nI_add, ← nI_mul]; rfl)) ?_
    refine w_st rfl rfl rfl trivial ?_
    refine w_st rfl rfl rfl trivial ?_
    refine w_st rfl rfl rfl trivial ?_
    refine w_st rfl rfl rfl trivial ?_
    refine w_k41 (c_lampOf h hf hj (show 3 < 4 by decide)) rfl ⟨rfl, by decide, by decide, by decide, Or.inl ⟨_, rfl⟩⟩ (Nat.le_of_ble_eq_true rfl) (mm_foc rfl) (Nat.le_of_ble_eq_true rfl) ?_  -- calls 35 cX4_lampOf
    refine w_st rfl rfl rfl trivial ?_
    refine w_k11 (l_ones w4) rfl ⟨rfl, by decide, by decide, by decide, Or.inr (Or.inl ⟨_, rfl⟩)⟩ (Nat.le_of_ble_eq_true rfl) trivial (Nat.le_of_ble_eq_true rfl) ?_  -- calls 70 cL_ones
    refine w_n_gt (a := sp_dw (sp_R σ f) j 10) (b := w) rfl (by first | decide | omega) (by first | decide | omega) (by first | rfl | assumption | (simp only [← nI_add, ← nI_mul]; rfl)) (by first | rfl | assumption | (simp only [← nI_add, ← nI_mul]; rfl)) (fun c => by exfalso; omega) (fun _ => ?_)
    refine w_st rfl rfl rfl trivial ?_
    refine w_st rfl rfl rfl trivial ?_
    refine w_st rfl rfl rfl (Nat.le_of_ble_eq_true rfl) ?_
    refine w_inc rfl rfl rfl (Nat.le_of_ble_eq_true rfl) (nI_1 _) ?_
    refine w_st rfl rfl rfl trivial ?_
    exact ih
end SM
