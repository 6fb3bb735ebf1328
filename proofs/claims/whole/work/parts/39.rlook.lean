/-! the reference's looks -/
theorem sp_lit_c {σ : sp_St} {f d : Nat} (hd : d < 10) (e : σ (4 + f) = nI d) (x : Int32) : sp_if (sp_vis σ f) x 0 = sp_if (sp_R σ f d = -1) 0 x := by
  by_cases c : sp_R σ f d = -1
  · rw [sp_if_t c, sp_if_f (fun z => (sp_can_n hd).1 (show sp_can (sp_R σ f) (nI d) from by rw [← e]; exact z) c)]
  · rw [sp_if_f c, sp_if_t (show sp_vis σ f from by unfold sp_vis; rw [e]; exact (sp_can_n hd).2 c)]
section SM
variable {g : mm_Gg} {I : mm_Is} {x y z : Int32} {l d k t u f w n : Nat} {σ : sp_St}
theorem r_ofField (h : sp_N I σ) (ok : sp_ok σ) (hf : f < 4) (hw : w < 8) : ∃ I', mm_M 128 9 [.ref 61, .int (nI f), .int (nI w)] g I (some (.int (sp_fd σ f w))) I' ∧ sp_f2 I I' := by
  obtain ⟨I2, hM, hL, h2⟩ := r_lights (g := g) h ok hf
  have hn := sp_N_f2 h h2
  obtain ⟨I3, hM3, hL3, h3⟩ := r_isDark (g := g) hn ok hf
  have hn3 := sp_N_f2 hn h3
  have h23 := sp_f2_t h2 h3
  refine w_MX ?_
  show mm_W 128 0 [.ref 61, .int (nI f), .int (nI w), .null, .null, .null, .null, .null, .null] [] _ _ _
  generalize hF : mm_EQ _ _ _ = F
  refine w_st rfl rfl rfl trivial ?_
  refine w_gr (j := 63) rfl (mm_foc rfl) rfl (by decide) ?_
  refine w_st rfl rfl rfl trivial ?_
  refine w_st rfl rfl rfl trivial ?_
  refine w_iadd rfl ?_
  refine w_ia (4 + f) rfl (mm_fac (n := 72) rfl) (by first | rfl | assumption | (simp only [← nI_add, ← nI_mul]; rfl)) (by first | decide | omega) ?_
  rw [h.2 _ (by omega)]
  refine w_st rfl rfl rfl (Nat.le_of_ble_eq_true rfl) ?_
  refine w_st rfl rfl rfl trivial ?_
  have hw' : w = 0 ∨ w = 1 ∨ w = 2 ∨ w = 3 ∨ w = 4 ∨ w = 5 ∨ w = 6 ∨ w = 7 := by omega
  have K : ∀ m, m ≤ 10 → ∀ w (v4 v5 : Int32), (w = 5 ∨ w = 7) → mm_EQ (some (.int (sp_fd σ f w))) g (fun I' => sp_f2 I I') = F → mm_W 128 165 [.ref 61, .int (nI f), .int (nI w), .int (σ (4 + f)), .int v4, .int v5, .int (sp_mr (sp_R σ f) (10 - m)), .int (sp_fh (sp_R σ f) (10 - m)), .int (nI m + -1)] [] g I3 F := by
    intro m
    induction m with
    | zero =>
      intro _ w v4 v5 hw hF
      refine w_st rfl rfl rfl trivial ?_
      refine w_z_lt rfl (fun _ => ?_) (fun z => by first | exact absurd (by decide) z | exact absurd z (by decide))
      rcases hw with rfl | rfl
      · skip
        refine w_st rfl rfl rfl trivial ?_
        refine w_st rfl rfl rfl trivial ?_
        refine w_n_ne (a := 5) (b := 5) rfl (by first | decide | omega) (by first | decide | omega) (by first | rfl | assumption | (simp only [← nI_add, ← nI_mul]; rfl)) (by first | rfl | assumption | (simp only [← nI_add, ← nI_mul]; rfl)) (fun c => by exfalso; omega) (fun _ => ?_)
        refine w_st rfl rfl rfl trivial ?_
        refine w_st rfl rfl rfl trivial ?_
        refine w_reti rfl ?_
        exact hF ▸ ⟨by rw [show sp_fd σ f 5 = sp_mr (sp_R σ f) 10 from (sp_mr_10 _).symm], rfl, h23⟩
      · skip
        refine w_st rfl rfl rfl trivial ?_
        refine w_st rfl rfl rfl trivial ?_
        refine w_n_ne (a := 7) (b := 5) rfl (by first | decide | omega) (by first | decide | omega) (by first | rfl | assumption | (simp only [← nI_add, ← nI_mul]; rfl)) (by first | rfl | assumption | (simp only [← nI_add, ← nI_mul]; rfl)) (fun _ => ?_) (fun c => by exfalso; omega)
        refine w_st rfl rfl rfl trivial ?_
        refine w_reti rfl ?_
        exact hF ▸ ⟨rfl, rfl, h23⟩
    | succ m ih =>
      intro hm w v4 v5 hw hF
      obtain ⟨j, hj⟩ : ∃ j, 10 - m = j + 1 := ⟨9 - m, by omega⟩
      have hj1 : 9 - j = m := by omega
      have hj2 : 10 - (m + 1) = j := by omega
      have e1 : sp_mr (sp_R σ f) (10 - m) = sp_mr (sp_R σ f) (10 - (m + 1)) ||| sp_if (sp_R σ f m = -1) (0 : Int32) ((1 : Int32) <<< (nI m &&& 31)) := by
        rw [hj, hj2]
        show sp_mr _ j ||| sp_if (sp_R σ f (9 - j) = -1) _ ((1 : Int32) <<< (nI (9 - j) &&& 31)) = _
        rw [hj1]
      have e2 : sp_fh (sp_R σ f) (10 - m) = sp_if (sp_R σ f m = -1) (nI m) (sp_fh (sp_R σ f) (10 - (m + 1))) := by
        rw [hj, hj2]
        show sp_if (sp_R σ f (9 - j) = -1) (nI (9 - j)) _ = _
        rw [hj1]
      have ih' := ih (by omega) w v4 v5 hw hF
      rw [nI_dec]
      refine w_st rfl rfl rfl trivial ?_
      refine w_m_lt (a := m) rfl (by first | decide | omega) (by first | rfl | assumption | (simp only [← nI_add, ← nI_mul]; rfl)) ?_
      refine w_st rfl rfl rfl trivial ?_
      refine w_st rfl rfl rfl trivial ?_
      refine w_gr (j := 67) rfl (mm_foc rfl) rfl (by decide) ?_
      refine w_st rfl rfl rfl trivial ?_
      refine w_ia (m) rfl (mm_fac (n := 10) rfl) (by first | rfl | assumption | (simp only [← nI_add, ← nI_mul]; rfl)) (by first | decide | omega) ?_
      rw [hL3 m (by omega)]
      refine w_st rfl rfl rfl trivial ?_
      refine w_v_ne rfl (fun c => ?_) (fun c => ?_)
      · rw [sp_if_f c] at e1 e2
        rw [e1, e2] at ih'
        refine w_st rfl rfl rfl trivial ?_
        refine w_st rfl rfl rfl trivial ?_
        refine w_ishl rfl ?_
        refine w_ior rfl ?_
        refine w_st rfl rfl rfl (Nat.le_of_ble_eq_true rfl) ?_
        refine w_st rfl rfl rfl trivial ?_
        refine w_gr (j := 67) rfl (mm_foc rfl) rfl (by decide) ?_
        refine w_st rfl rfl rfl trivial ?_
        refine w_ia (m) rfl (mm_fac (n := 10) rfl) (by first | rfl | assumption | (simp only [← nI_add, ← nI_mul]; rfl)) (by first | decide | omega) ?_
        rw [hL3 m (by omega)]
        refine w_st rfl rfl rfl trivial ?_
        refine w_v_ne rfl (fun _ => ?_) (fun z => by first | exact absurd (c) z | exact absurd z (c))
        refine w_st rfl rfl rfl trivial ?_
        refine w_st rfl rfl rfl (Nat.le_of_ble_eq_true rfl) ?_
        refine w_inc rfl rfl rfl (Nat.le_of_ble_eq_true rfl) rfl ?_
        refine w_st rfl rfl rfl trivial ?_
        exact ih'
      · rw [sp_if_t c] at e1 e2
        rw [e1, e2] at ih'
        refine w_st rfl rfl rfl trivial ?_
        refine w_st rfl rfl rfl trivial ?_
        refine w_ior rfl ?_
        refine w_st rfl rfl rfl (Nat.le_of_ble_eq_true rfl) ?_
        refine w_st rfl rfl rfl trivial ?_
        refine w_gr (j := 67) rfl (mm_foc rfl) rfl (by decide) ?_
        refine w_st rfl rfl rfl trivial ?_
        refine w_ia (m) rfl (mm_fac (n := 10) rfl) (by first | rfl | assumption | (simp only [← nI_add, ← nI_mul]; rfl)) (by first | decide | omega) ?_
        rw [hL3 m (by omega)]
        refine w_st rfl rfl rfl trivial ?_
        refine w_v_ne rfl (fun z => by first | exact absurd z (fun z => z c) | exact absurd (fun z => z c) z) (fun _ => ?_)
        refine w_st rfl rfl rfl trivial ?_
        refine w_st rfl rfl rfl trivial ?_
        refine w_st rfl rfl rfl (Nat.le_of_ble_eq_true rfl) ?_
        refine w_inc rfl rfl rfl (Nat.le_of_ble_eq_true rfl) rfl ?_
        refine w_st rfl rfl rfl trivial ?_
        exact ih'
  rcases hw' with rfl | rfl | rfl | rfl | rfl | rfl | rfl | rfl
  · skip
    refine w_m_eq (a := 0) rfl (by first | decide | omega) (by first | rfl | assumption | (simp only [← nI_add, ← nI_mul]; rfl)) (fun _ => ?_) (fun c => by exfalso; omega)
    refine w_st rfl rfl rfl trivial ?_
    refine w_m_ne (a := 0) rfl (by first | decide | omega) (by first | rfl | assumption | (simp only [← nI_add, ← nI_mul]; rfl)) (fun c => by exfalso; omega) (fun _ => ?_)
    refine w_st rfl rfl rfl trivial ?_
    refine w_st rfl rfl rfl trivial ?_
    refine w_reti rfl ?_
    exact hF ▸ ⟨rfl, rfl, sp_f2_rf⟩
  · skip
    refine w_m_eq (a := 1) rfl (by first | decide | omega) (by first | rfl | assumption | (simp only [← nI_add, ← nI_mul]; rfl)) (fun c => by exfalso; omega) (fun _ => ?_)
    refine w_st rfl rfl rfl trivial ?_
    refine w_st rfl rfl rfl trivial ?_
    refine w_n_ne (a := 1) (b := 3) rfl (by first | decide | omega) (by first | decide | omega) (by first | rfl | assumption | (simp only [← nI_add, ← nI_mul]; rfl)) (by first | rfl | assumption | (simp only [← nI_add, ← nI_mul]; rfl)) (fun _ => ?_) (fun c => by exfalso; omega)
    refine w_st rfl rfl rfl trivial ?_
    refine w_st rfl rfl rfl trivial ?_
    refine w_k21 (hM) rfl ⟨rfl, by decide, by decide, by decide, Or.inl ⟨_, rfl⟩⟩ (Nat.le_of_ble_eq_true rfl) (mm_foc rfl) (Nat.le_of_ble_eq_true rfl) ?_  -- calls 105 cX5_lights
    refine w_st rfl rfl rfl (Nat.le_of_ble_eq_true rfl) ?_
    refine w_st rfl rfl rfl trivial ?_
    refine w_st rfl rfl rfl trivial ?_
    refine w_n_eq (a := 1) (b := 2) rfl (by first | decide | omega) (by first | decide | omega) (by first | rfl | assumption | (simp only [← nI_add, ← nI_mul]; rfl)) (by first | rfl | assumption | (simp only [← nI_add, ← nI_mul]; rfl)) (fun c => by exfalso; omega) (fun _ => ?_)
    refine w_st rfl rfl rfl trivial ?_
    refine w_st rfl rfl rfl trivial ?_
    refine w_n_ne (a := 1) (b := 6) rfl (by first | decide | omega) (by first | decide | omega) (by first | rfl | assumption | (simp only [← nI_add, ← nI_mul]; rfl)) (by first | rfl | assumption | (simp only [← nI_add, ← nI_mul]; rfl)) (fun _ => ?_) (fun c => by exfalso; omega)
    refine w_st rfl rfl rfl trivial ?_
    refine w_st rfl rfl rfl trivial ?_
    refine w_k21 (hM3) rfl ⟨rfl, by decide, by decide, by decide, Or.inl ⟨_, rfl⟩⟩ (Nat.le_of_ble_eq_true rfl) (mm_foc rfl) (Nat.le_of_ble_eq_true rfl) ?_  -- calls 106 cX5_isDark
    refine w_st rfl rfl rfl (Nat.le_of_ble_eq_true rfl) ?_
    refine w_st rfl rfl rfl trivial ?_
    refine w_st rfl rfl rfl trivial ?_
    refine w_n_eq (a := 1) (b := 1) rfl (by first | decide | omega) (by first | decide | omega) (by first | rfl | assumption | (simp only [← nI_add, ← nI_mul]; rfl)) (by first | rfl | assumption | (simp only [← nI_add, ← nI_mul]; rfl)) (fun _ => ?_) (fun c => by exfalso; omega)
    refine w_st rfl rfl rfl trivial ?_
    refine w_st rfl rfl rfl trivial ?_
    refine w_n_ne (a := 1) (b := 1) rfl (by first | decide | omega) (by first | decide | omega) (by first | rfl | assumption | (simp only [← nI_add, ← nI_mul]; rfl)) (by first | rfl | assumption | (simp only [← nI_add, ← nI_mul]; rfl)) (fun c => by exfalso; omega) (fun _ => ?_)
    refine w_st rfl rfl rfl trivial ?_
    refine w_b_eq rfl (fun c => ?_) (fun c => ?_)
    · have c := Classical.not_not.1 c
      have ev : sp_fd σ f 1 = sp_R σ f (σ (4 + f)).toNatClampNeg := sp_if_t c _ _
      obtain ⟨d, hd, e, _⟩ := c
      rw [e, nI_clamp (by omega)] at ev
      rw [ev] at hF
      rw [e]
      refine w_st rfl rfl rfl trivial ?_
      refine w_gr (j := 67) rfl (mm_foc rfl) rfl (by decide) ?_
      refine w_st rfl rfl rfl trivial ?_
      refine w_ia (d) rfl (mm_fac (n := 10) rfl) (by first | rfl | assumption | (simp only [← nI_add, ← nI_mul]; rfl)) (by first | decide | omega) ?_
      rw [hL3 d hd]
      refine w_st rfl rfl rfl trivial ?_
      refine w_reti rfl ?_
      exact hF ▸ ⟨rfl, rfl, h23⟩
    · skip
      refine w_st rfl rfl rfl trivial ?_
      refine w_st rfl rfl rfl trivial ?_
      refine w_reti rfl ?_
      exact hF ▸ ⟨by rw [show sp_fd σ f 1 = -1 from sp_if_f c _ _], rfl, h23⟩
  · skip
    refine w_m_eq (a := 2) rfl (by first | decide | omega) (by first | rfl | assumption | (simp only [← nI_add, ← nI_mul]; rfl)) (fun c => by exfalso; omega) (fun _ => ?_)
    refine w_st rfl rfl rfl trivial ?_
    refine w_st rfl rfl rfl trivial ?_
    refine w_n_ne (a := 2) (b := 3) rfl (by first | decide | omega) (by first | decide | omega) (by first | rfl | assumption | (simp only [← nI_add, ← nI_mul]; rfl)) (by first | rfl | assumption | (simp only [← nI_add, ← nI_mul]; rfl)) (fun _ => ?_) (fun c => by exfalso; omega)
    refine w_st rfl rfl rfl trivial ?_
    refine w_st rfl rfl rfl trivial ?_
    refine w_k21 (hM) rfl ⟨rfl, by decide, by decide, by decide, Or.inl ⟨_, rfl⟩⟩ (Nat.le_of_ble_eq_true rfl) (mm_foc rfl) (Nat.le_of_ble_eq_true rfl) ?_  -- calls 105 cX5_lights
    refine w_st rfl rfl rfl (Nat.le_of_ble_eq_true rfl) ?_
    refine w_st rfl rfl rfl trivial ?_
    refine w_st rfl rfl rfl trivial ?_
    refine w_n_eq (a := 2) (b := 2) rfl (by first | decide | omega) (by first | decide | omega) (by first | rfl | assumption | (simp only [← nI_add, ← nI_mul]; rfl)) (by first | rfl | assumption | (simp only [← nI_add, ← nI_mul]; rfl)) (fun _ => ?_) (fun c => by exfalso; omega)
    refine w_st rfl rfl rfl trivial ?_
    refine w_st rfl rfl rfl trivial ?_
    refine w_n_ne (a := 2) (b := 2) rfl (by first | decide | omega) (by first | decide | omega) (by first | rfl | assumption | (simp only [← nI_add, ← nI_mul]; rfl)) (by first | rfl | assumption | (simp only [← nI_add, ← nI_mul]; rfl)) (fun c => by exfalso; omega) (fun _ => ?_)
    refine w_st rfl rfl rfl trivial ?_
    refine w_st rfl rfl rfl trivial ?_
    refine w_reti rfl ?_
    exact hF ▸ ⟨rfl, rfl, h2⟩
  · skip
    refine w_m_eq (a := 3) rfl (by first | decide | omega) (by first | rfl | assumption | (simp only [← nI_add, ← nI_mul]; rfl)) (fun c => by exfalso; omega) (fun _ => ?_)
    refine w_st rfl rfl rfl trivial ?_
    refine w_st rfl rfl rfl trivial ?_
    refine w_n_ne (a := 3) (b := 3) rfl (by first | decide | omega) (by first | decide | omega) (by first | rfl | assumption | (simp only [← nI_add, ← nI_mul]; rfl)) (by first | rfl | assumption | (simp only [← nI_add, ← nI_mul]; rfl)) (fun c => by exfalso; omega) (fun _ => ?_)
    refine w_st rfl rfl rfl trivial ?_
    refine w_m_ne (a := 3) rfl (by first | decide | omega) (by first | rfl | assumption | (simp only [← nI_add, ← nI_mul]; rfl)) (fun _ => ?_) (fun c => by exfalso; omega)
    refine w_st rfl rfl rfl trivial ?_
    refine w_gr (j := 63) rfl (mm_foc rfl) rfl (by decide) ?_
    refine w_st rfl rfl rfl trivial ?_
    refine w_st rfl rfl rfl trivial ?_
    refine w_iadd rfl ?_
    refine w_ia (8 + f) rfl (mm_fac (n := 72) rfl) (by first | rfl | assumption | (simp only [← nI_add, ← nI_mul]; rfl)) (by first | decide | omega) ?_
    rw [h.2 _ (by omega)]
    refine w_k11 (r_ones (ok.2.1 f hf)) rfl ⟨rfl, by decide, by decide, by decide, Or.inr (Or.inl ⟨_, rfl⟩)⟩ (Nat.le_of_ble_eq_true rfl) trivial (Nat.le_of_ble_eq_true rfl) ?_  -- calls 95 cX5_ones
    refine w_reti rfl ?_
    exact hF ▸ ⟨rfl, rfl, sp_f2_rf⟩
  · skip
    refine w_m_eq (a := 4) rfl (by first | decide | omega) (by first | rfl | assumption | (simp only [← nI_add, ← nI_mul]; rfl)) (fun c => by exfalso; omega) (fun _ => ?_)
    refine w_st rfl rfl rfl trivial ?_
    refine w_st rfl rfl rfl trivial ?_
    refine w_n_ne (a := 4) (b := 3) rfl (by first | decide | omega) (by first | decide | omega) (by first | rfl | assumption | (simp only [← nI_add, ← nI_mul]; rfl)) (by first | rfl | assumption | (simp only [← nI_add, ← nI_mul]; rfl)) (fun _ => ?_) (fun c => by exfalso; omega)
    refine w_st rfl rfl rfl trivial ?_
    refine w_st rfl rfl rfl trivial ?_
    refine w_k21 (hM) rfl ⟨rfl, by decide, by decide, by decide, Or.inl ⟨_, rfl⟩⟩ (Nat.le_of_ble_eq_true rfl) (mm_foc rfl) (Nat.le_of_ble_eq_true rfl) ?_  -- calls 105 cX5_lights
    refine w_st rfl rfl rfl (Nat.le_of_ble_eq_true rfl) ?_
    refine w_st rfl rfl rfl trivial ?_
    refine w_st rfl rfl rfl trivial ?_
    refine w_n_eq (a := 4) (b := 2) rfl (by first | decide | omega) (by first | decide | omega) (by first | rfl | assumption | (simp only [← nI_add, ← nI_mul]; rfl)) (by first | rfl | assumption | (simp only [← nI_add, ← nI_mul]; rfl)) (fun c => by exfalso; omega) (fun _ => ?_)
    refine w_st rfl rfl rfl trivial ?_
    refine w_st rfl rfl rfl trivial ?_
    refine w_n_ne (a := 4) (b := 6) rfl (by first | decide | omega) (by first | decide | omega) (by first | rfl | assumption | (simp only [← nI_add, ← nI_mul]; rfl)) (by first | rfl | assumption | (simp only [← nI_add, ← nI_mul]; rfl)) (fun _ => ?_) (fun c => by exfalso; omega)
    refine w_st rfl rfl rfl trivial ?_
    refine w_st rfl rfl rfl trivial ?_
    refine w_k21 (hM3) rfl ⟨rfl, by decide, by decide, by decide, Or.inl ⟨_, rfl⟩⟩ (Nat.le_of_ble_eq_true rfl) (mm_foc rfl) (Nat.le_of_ble_eq_true rfl) ?_  -- calls 106 cX5_isDark
    refine w_st rfl rfl rfl (Nat.le_of_ble_eq_true rfl) ?_
    refine w_st rfl rfl rfl trivial ?_
    refine w_st rfl rfl rfl trivial ?_
    refine w_n_eq (a := 4) (b := 1) rfl (by first | decide | omega) (by first | decide | omega) (by first | rfl | assumption | (simp only [← nI_add, ← nI_mul]; rfl)) (by first | rfl | assumption | (simp only [← nI_add, ← nI_mul]; rfl)) (fun c => by exfalso; omega) (fun _ => ?_)
    refine w_st rfl rfl rfl trivial ?_
    refine w_st rfl rfl rfl trivial ?_
    refine w_n_ne (a := 4) (b := 4) rfl (by first | decide | omega) (by first | decide | omega) (by first | rfl | assumption | (simp only [← nI_add, ← nI_mul]; rfl)) (by first | rfl | assumption | (simp only [← nI_add, ← nI_mul]; rfl)) (fun c => by exfalso; omega) (fun _ => ?_)
    refine w_st rfl rfl rfl trivial ?_
    refine w_st rfl rfl rfl trivial ?_
    refine w_n_ne (a := 4) (b := 1) rfl (by first | decide | omega) (by first | decide | omega) (by first | rfl | assumption | (simp only [← nI_add, ← nI_mul]; rfl)) (by first | rfl | assumption | (simp only [← nI_add, ← nI_mul]; rfl)) (fun _ => ?_) (fun c => by exfalso; omega)
    refine w_st rfl rfl rfl trivial ?_
    refine w_b_eq rfl (fun c => ?_) (fun c => ?_)
    · have c := Classical.not_not.1 c
      have ev : sp_fd σ f 4 = sp_mi (σ (8 + f)) (σ (4 + f)).toNatClampNeg (sp_R σ f (σ (4 + f)).toNatClampNeg) := sp_if_t c _ _
      obtain ⟨d, hd, e, hr⟩ := c
      rw [e, nI_clamp (by omega)] at ev
      obtain ⟨i, hi, hri⟩ := (sp_row_k (b := σ (8 + f)) (s := σ 1) hd).resolve_left hr
      rw [show sp_R σ f d = nI i from hri] at ev
      rw [ev] at hF
      rw [e]
      refine w_st rfl rfl rfl trivial ?_
      refine w_st rfl rfl rfl trivial ?_
      refine w_st rfl rfl rfl trivial ?_
      refine w_gr (j := 67) rfl (mm_foc rfl) rfl (by decide) ?_
      refine w_st rfl rfl rfl trivial ?_
      refine w_ia (d) rfl (mm_fac (n := 10) rfl) (by first | rfl | assumption | (simp only [← nI_add, ← nI_mul]; rfl)) (by first | decide | omega) ?_
      rw [hL3 d hd, show sp_R σ f d = nI i from hri]
      refine w_st rfl rfl rfl trivial ?_
      refine w_gr (j := 63) rfl (mm_foc rfl) rfl (by decide) ?_
      refine w_st rfl rfl rfl trivial ?_
      refine w_st rfl rfl rfl trivial ?_
      refine w_iadd rfl ?_
      refine w_ia (8 + f) rfl (mm_fac (n := 72) rfl) (by first | rfl | assumption | (simp only [← nI_add, ← nI_mul]; rfl)) (by first | decide | omega) ?_
      rw [hn3.2 _ (by omega)]
      refine w_k41 (r_missing hn3.1 hd hi) rfl ⟨rfl, by decide, by decide, by decide, Or.inl ⟨_, rfl⟩⟩ (Nat.le_of_ble_eq_true rfl) (mm_foc rfl) (Nat.le_of_ble_eq_true rfl) ?_  -- calls 100 cX5_missing
      refine w_reti rfl ?_
      exact hF ▸ ⟨rfl, rfl, h23⟩
    · skip
      refine w_st rfl rfl rfl trivial ?_
      refine w_st rfl rfl rfl trivial ?_
      refine w_reti rfl ?_
      exact hF ▸ ⟨by rw [show sp_fd σ f 4 = 0 from sp_if_f c _ _], rfl, h23⟩
  · skip
    refine w_m_eq (a := 5) rfl (by first | decide | omega) (by first | rfl | assumption | (simp only [← nI_add, ← nI_mul]; rfl)) (fun c => by exfalso; omega) (fun _ => ?_)
    refine w_st rfl rfl rfl trivial ?_
    refine w_st rfl rfl rfl trivial ?_
    refine w_n_ne (a := 5) (b := 3) rfl (by first | decide | omega) (by first | decide | omega) (by first | rfl | assumption | (simp only [← nI_add, ← nI_mul]; rfl)) (by first | rfl | assumption | (simp only [← nI_add, ← nI_mul]; rfl)) (fun _ => ?_) (fun c => by exfalso; omega)
    refine w_st rfl rfl rfl trivial ?_
    refine w_st rfl rfl rfl trivial ?_
    refine w_k21 (hM) rfl ⟨rfl, by decide, by decide, by decide, Or.inl ⟨_, rfl⟩⟩ (Nat.le_of_ble_eq_true rfl) (mm_foc rfl) (Nat.le_of_ble_eq_true rfl) ?_  -- calls 105 cX5_lights
    refine w_st rfl rfl rfl (Nat.le_of_ble_eq_true rfl) ?_
    refine w_st rfl rfl rfl trivial ?_
    refine w_st rfl rfl rfl trivial ?_
    refine w_n_eq (a := 5) (b := 2) rfl (by first | decide | omega) (by first | decide | omega) (by first | rfl | assumption | (simp only [← nI_add, ← nI_mul]; rfl)) (by first | rfl | assumption | (simp only [← nI_add, ← nI_mul]; rfl)) (fun c => by exfalso; omega) (fun _ => ?_)
    refine w_st rfl rfl rfl trivial ?_
    refine w_st rfl rfl rfl trivial ?_
    refine w_n_ne (a := 5) (b := 6) rfl (by first | decide | omega) (by first | decide | omega) (by first | rfl | assumption | (simp only [← nI_add, ← nI_mul]; rfl)) (by first | rfl | assumption | (simp only [← nI_add, ← nI_mul]; rfl)) (fun _ => ?_) (fun c => by exfalso; omega)
    refine w_st rfl rfl rfl trivial ?_
    refine w_st rfl rfl rfl trivial ?_
    refine w_k21 (hM3) rfl ⟨rfl, by decide, by decide, by decide, Or.inl ⟨_, rfl⟩⟩ (Nat.le_of_ble_eq_true rfl) (mm_foc rfl) (Nat.le_of_ble_eq_true rfl) ?_  -- calls 106 cX5_isDark
    refine w_st rfl rfl rfl (Nat.le_of_ble_eq_true rfl) ?_
    refine w_st rfl rfl rfl trivial ?_
    refine w_st rfl rfl rfl trivial ?_
    refine w_n_eq (a := 5) (b := 1) rfl (by first | decide | omega) (by first | decide | omega) (by first | rfl | assumption | (simp only [← nI_add, ← nI_mul]; rfl)) (by first | rfl | assumption | (simp only [← nI_add, ← nI_mul]; rfl)) (fun c => by exfalso; omega) (fun _ => ?_)
    refine w_st rfl rfl rfl trivial ?_
    refine w_st rfl rfl rfl trivial ?_
    refine w_n_ne (a := 5) (b := 4) rfl (by first | decide | omega) (by first | decide | omega) (by first | rfl | assumption | (simp only [← nI_add, ← nI_mul]; rfl)) (by first | rfl | assumption | (simp only [← nI_add, ← nI_mul]; rfl)) (fun _ => ?_) (fun c => by exfalso; omega)
    refine w_st rfl rfl rfl trivial ?_
    refine w_st rfl rfl rfl (Nat.le_of_ble_eq_true rfl) ?_
    refine w_st rfl rfl rfl trivial ?_
    refine w_st rfl rfl rfl (Nat.le_of_ble_eq_true rfl) ?_
    refine w_st rfl rfl rfl trivial ?_
    refine w_st rfl rfl rfl (Nat.le_of_ble_eq_true rfl) ?_
    exact K 10 (by decide) 5 _ _ (Or.inl rfl) hF
  · skip
    refine w_m_eq (a := 6) rfl (by first | decide | omega) (by first | rfl | assumption | (simp only [← nI_add, ← nI_mul]; rfl)) (fun c => by exfalso; omega) (fun _ => ?_)
    refine w_st rfl rfl rfl trivial ?_
    refine w_st rfl rfl rfl trivial ?_
    refine w_n_ne (a := 6) (b := 3) rfl (by first | decide | omega) (by first | decide | omega) (by first | rfl | assumption | (simp only [← nI_add, ← nI_mul]; rfl)) (by first | rfl | assumption | (simp only [← nI_add, ← nI_mul]; rfl)) (fun _ => ?_) (fun c => by exfalso; omega)
    refine w_st rfl rfl rfl trivial ?_
    refine w_st rfl rfl rfl trivial ?_
    refine w_k21 (hM) rfl ⟨rfl, by decide, by decide, by decide, Or.inl ⟨_, rfl⟩⟩ (Nat.le_of_ble_eq_true rfl) (mm_foc rfl) (Nat.le_of_ble_eq_true rfl) ?_  -- calls 105 cX5_lights
    refine w_st rfl rfl rfl (Nat.le_of_ble_eq_true rfl) ?_
    refine w_st rfl rfl rfl trivial ?_
    refine w_st rfl rfl rfl trivial ?_
    refine w_n_eq (a := 6) (b := 2) rfl (by first | decide | omega) (by first | decide | omega) (by first | rfl | assumption | (simp only [← nI_add, ← nI_mul]; rfl)) (by first | rfl | assumption | (simp only [← nI_add, ← nI_mul]; rfl)) (fun c => by exfalso; omega) (fun _ => ?_)
    refine w_st rfl rfl rfl trivial ?_
    refine w_st rfl rfl rfl trivial ?_
    refine w_n_ne (a := 6) (b := 6) rfl (by first | decide | omega) (by first | decide | omega) (by first | rfl | assumption | (simp only [← nI_add, ← nI_mul]; rfl)) (by first | rfl | assumption | (simp only [← nI_add, ← nI_mul]; rfl)) (fun c => by exfalso; omega) (fun _ => ?_)
    refine w_st rfl rfl rfl trivial ?_
    refine w_st rfl rfl rfl trivial ?_
    refine w_n_ne (a := 6) (b := 2) rfl (by first | decide | omega) (by first | decide | omega) (by first | rfl | assumption | (simp only [← nI_add, ← nI_mul]; rfl)) (by first | rfl | assumption | (simp only [← nI_add, ← nI_mul]; rfl)) (fun _ => ?_) (fun c => by exfalso; omega)
    refine w_st rfl rfl rfl trivial ?_
    refine w_st rfl rfl rfl trivial ?_
    refine w_gr (j := 67) rfl (mm_foc rfl) rfl (by decide) ?_
    refine w_st rfl rfl rfl trivial ?_
    refine w_gr (j := 63) rfl (mm_foc rfl) rfl (by decide) ?_
    refine w_st rfl rfl rfl trivial ?_
    refine w_st rfl rfl rfl trivial ?_
    refine w_iadd rfl ?_
    refine w_ia (8 + f) rfl (mm_fac (n := 72) rfl) (by first | rfl | assumption | (simp only [← nI_add, ← nI_mul]; rfl)) (by first | decide | omega) ?_
    rw [hn.2 _ (by omega)]
    refine w_k31 (r_closest (p := 67) hn.1 (mm_fac rfl) hL) rfl ⟨rfl, by decide, by decide, by decide, Or.inl ⟨_, rfl⟩⟩ (Nat.le_of_ble_eq_true rfl) (mm_foc rfl) (Nat.le_of_ble_eq_true rfl) ?_  -- calls 104 cX5_closest
    refine w_reti rfl ?_
    exact hF ▸ ⟨rfl, rfl, h2⟩
  · skip
    refine w_m_eq (a := 7) rfl (by first | decide | omega) (by first | rfl | assumption | (simp only [← nI_add, ← nI_mul]; rfl)) (fun c => by exfalso; omega) (fun _ => ?_)
    refine w_st rfl rfl rfl trivial ?_
    refine w_st rfl rfl rfl trivial ?_
    refine w_n_ne (a := 7) (b := 3) rfl (by first | decide | omega) (by first | decide | omega) (by first | rfl | assumption | (simp only [← nI_add, ← nI_mul]; rfl)) (by first | rfl | assumption | (simp only [← nI_add, ← nI_mul]; rfl)) (fun _ => ?_) (fun c => by exfalso; omega)
    refine w_st rfl rfl rfl trivial ?_
    refine w_st rfl rfl rfl trivial ?_
    refine w_k21 (hM) rfl ⟨rfl, by decide, by decide, by decide, Or.inl ⟨_, rfl⟩⟩ (Nat.le_of_ble_eq_true rfl) (mm_foc rfl) (Nat.le_of_ble_eq_true rfl) ?_  -- calls 105 cX5_lights
    refine w_st rfl rfl rfl (Nat.le_of_ble_eq_true rfl) ?_
    refine w_st rfl rfl rfl trivial ?_
    refine w_st rfl rfl rfl trivial ?_
    refine w_n_eq (a := 7) (b := 2) rfl (by first | decide | omega) (by first | decide | omega) (by first | rfl | assumption | (simp only [← nI_add, ← nI_mul]; rfl)) (by first | rfl | assumption | (simp only [← nI_add, ← nI_mul]; rfl)) (fun c => by exfalso; omega) (fun _ => ?_)
    refine w_st rfl rfl rfl trivial ?_
    refine w_st rfl rfl rfl trivial ?_
    refine w_n_ne (a := 7) (b := 6) rfl (by first | decide | omega) (by first | decide | omega) (by first | rfl | assumption | (simp only [← nI_add, ← nI_mul]; rfl)) (by first | rfl | assumption | (simp only [← nI_add, ← nI_mul]; rfl)) (fun _ => ?_) (fun c => by exfalso; omega)
    refine w_st rfl rfl rfl trivial ?_
    refine w_st rfl rfl rfl trivial ?_
    refine w_k21 (hM3) rfl ⟨rfl, by decide, by decide, by decide, Or.inl ⟨_, rfl⟩⟩ (Nat.le_of_ble_eq_true rfl) (mm_foc rfl) (Nat.le_of_ble_eq_true rfl) ?_  -- calls 106 cX5_isDark
    refine w_st rfl rfl rfl (Nat.le_of_ble_eq_true rfl) ?_
    refine w_st rfl rfl rfl trivial ?_
    refine w_st rfl rfl rfl trivial ?_
    refine w_n_eq (a := 7) (b := 1) rfl (by first | decide | omega) (by first | decide | omega) (by first | rfl | assumption | (simp only [← nI_add, ← nI_mul]; rfl)) (by first | rfl | assumption | (simp only [← nI_add, ← nI_mul]; rfl)) (fun c => by exfalso; omega) (fun _ => ?_)
    refine w_st rfl rfl rfl trivial ?_
    refine w_st rfl rfl rfl trivial ?_
    refine w_n_ne (a := 7) (b := 4) rfl (by first | decide | omega) (by first | decide | omega) (by first | rfl | assumption | (simp only [← nI_add, ← nI_mul]; rfl)) (by first | rfl | assumption | (simp only [← nI_add, ← nI_mul]; rfl)) (fun _ => ?_) (fun c => by exfalso; omega)
    refine w_st rfl rfl rfl trivial ?_
    refine w_st rfl rfl rfl (Nat.le_of_ble_eq_true rfl) ?_
    refine w_st rfl rfl rfl trivial ?_
    refine w_st rfl rfl rfl (Nat.le_of_ble_eq_true rfl) ?_
    refine w_st rfl rfl rfl trivial ?_
    refine w_st rfl rfl rfl (Nat.le_of_ble_eq_true rfl) ?_
    exact K 10 (by decide) 7 _ _ (Or.inr rfl) hF
theorem r_ofLamp (h : sp_N I σ) (ok : sp_ok σ) (hf : f < 4) (hl : l < 15) (hw : w < 4) : ∃ I', mm_M 130 7 [.ref 61, .int (nI f), .int (nI l), .int (nI w)] g I (some (.int (sp_lo σ f l w))) I' ∧ sp_f2 I I' := by
  obtain ⟨I2, hM, hL, h2⟩ := r_lights (g := g) h ok hf
  have hn := sp_N_f2 h h2
  refine w_MX ?_
  show mm_W 130 0 [.ref 61, .int (nI f), .int (nI l), .int (nI w), .null, .null, .null] [] _ _ _
  generalize hF : mm_EQ _ _ _ = F
  refine w_st rfl rfl rfl trivial ?_
  have hw' : w = 0 ∨ w = 1 ∨ w = 2 ∨ w = 3 := by omega
  rcases hw' with rfl | rfl | rfl | rfl
  · skip
    refine w_m_ne (a := 0) rfl (by first | decide | omega) (by first | rfl | assumption | (simp only [← nI_add, ← nI_mul]; rfl)) (fun c => by exfalso; omega) (fun _ => ?_)
    refine w_st rfl rfl rfl trivial ?_
    refine w_gr (j := 63) rfl (mm_foc rfl) rfl (by decide) ?_
    refine w_st rfl rfl rfl trivial ?_
    refine w_st rfl rfl rfl trivial ?_
    refine w_iadd rfl ?_
    refine w_ia (8 + f) rfl (mm_fac (n := 72) rfl) (by first | rfl | assumption | (simp only [← nI_add, ← nI_mul]; rfl)) (by first | decide | omega) ?_
    rw [h.2 _ (by omega)]
    refine w_st rfl rfl rfl trivial ?_
    refine w_k11 (r_bit) rfl ⟨rfl, by decide, by decide, by decide, Or.inr (Or.inl ⟨_, rfl⟩)⟩ (Nat.le_of_ble_eq_true rfl) trivial (Nat.le_of_ble_eq_true rfl) ?_  -- calls 94 cX5_bit
    refine w_iand rfl ?_
    refine w_z_ne rfl (fun c => ?_) (fun c => ?_)
    · skip
      refine w_st rfl rfl rfl trivial ?_
      refine w_reti rfl ?_
      exact hF ▸ ⟨by rw [show sp_lo σ f l 0 = 1 from mm_bi_t c], rfl, sp_f2_rf⟩
    · skip
      refine w_st rfl rfl rfl trivial ?_
      refine w_st rfl rfl rfl trivial ?_
      refine w_reti rfl ?_
      exact hF ▸ ⟨by rw [show sp_lo σ f l 0 = 0 from mm_bi_f (fun z => z c)], rfl, sp_f2_rf⟩
  · skip
    refine w_m_ne (a := 1) rfl (by first | decide | omega) (by first | rfl | assumption | (simp only [← nI_add, ← nI_mul]; rfl)) (fun _ => ?_) (fun c => by exfalso; omega)
    refine w_st rfl rfl rfl trivial ?_
    refine w_st rfl rfl rfl trivial ?_
    refine w_n_ne (a := 1) (b := 1) rfl (by first | decide | omega) (by first | decide | omega) (by first | rfl | assumption | (simp only [← nI_add, ← nI_mul]; rfl)) (by first | rfl | assumption | (simp only [← nI_add, ← nI_mul]; rfl)) (fun c => by exfalso; omega) (fun _ => ?_)
    refine w_st rfl rfl rfl trivial ?_
    refine w_gr (j := 63) rfl (mm_foc rfl) rfl (by decide) ?_
    refine w_st rfl rfl rfl trivial ?_
    refine w_st rfl rfl rfl trivial ?_
    refine w_st rfl rfl rfl trivial ?_
    refine w_imul rfl ?_
    refine w_iadd rfl ?_
    refine w_st rfl rfl rfl trivial ?_
    refine w_iadd rfl ?_
    refine w_ia (12 + (15 * f + l)) rfl (mm_fac (n := 72) rfl) (by simp only [← nI_add, ← nI_mul]; exact Int32.add_assoc _ _ _) (by first | decide | omega) ?_
    rw [h.2 _ (by omega)]
    refine w_reti rfl ?_
    exact hF ▸ ⟨rfl, rfl, sp_f2_rf⟩
  · skip
    refine w_m_ne (a := 2) rfl (by first | decide | omega) (by first | rfl | assumption | (simp only [← nI_add, ← nI_mul]; rfl)) (fun _ => ?_) (fun c => by exfalso; omega)
    refine w_st rfl rfl rfl trivial ?_
    refine w_st rfl rfl rfl trivial ?_
    refine w_n_ne (a := 2) (b := 1) rfl (by first | decide | omega) (by first | decide | omega) (by first | rfl | assumption | (simp only [← nI_add, ← nI_mul]; rfl)) (by first | rfl | assumption | (simp only [← nI_add, ← nI_mul]; rfl)) (fun _ => ?_) (fun c => by exfalso; omega)
    refine w_st rfl rfl rfl trivial ?_
    refine w_st rfl rfl rfl trivial ?_
    refine w_k21 (hM) rfl ⟨rfl, by decide, by decide, by decide, Or.inl ⟨_, rfl⟩⟩ (Nat.le_of_ble_eq_true rfl) (mm_foc rfl) (Nat.le_of_ble_eq_true rfl) ?_  -- calls 105 cX5_lights
    refine w_st rfl rfl rfl (Nat.le_of_ble_eq_true rfl) ?_
    refine w_st rfl rfl rfl trivial ?_
    refine w_st rfl rfl rfl trivial ?_
    refine w_n_ne (a := 2) (b := 2) rfl (by first | decide | omega) (by first | decide | omega) (by first | rfl | assumption | (simp only [← nI_add, ← nI_mul]; rfl)) (by first | rfl | assumption | (simp only [← nI_add, ← nI_mul]; rfl)) (fun c => by exfalso; omega) (fun _ => ?_)
    refine w_st rfl rfl rfl trivial ?_
    refine w_st rfl rfl rfl trivial ?_
    refine w_k11 (r_bit) rfl ⟨rfl, by decide, by decide, by decide, Or.inr (Or.inl ⟨_, rfl⟩)⟩ (Nat.le_of_ble_eq_true rfl) trivial (Nat.le_of_ble_eq_true rfl) ?_  -- calls 94 cX5_bit
    refine w_iand rfl ?_
    refine w_z_ne rfl (fun c => ?_) (fun c => ?_)
    · skip
      refine w_st rfl rfl rfl trivial ?_
      refine w_reti rfl ?_
      exact hF ▸ ⟨by rw [show sp_lo σ f l 2 = 1 from mm_bi_t c], rfl, h2⟩
    · skip
      refine w_st rfl rfl rfl trivial ?_
      refine w_st rfl rfl rfl trivial ?_
      refine w_reti rfl ?_
      exact hF ▸ ⟨by rw [show sp_lo σ f l 2 = 0 from mm_bi_f (fun z => z c)], rfl, h2⟩
  · skip
    refine w_m_ne (a := 3) rfl (by first | decide | omega) (by first | rfl | assumption | (simp only [← nI_add, ← nI_mul]; rfl)) (fun _ => ?_) (fun c => by exfalso; omega)
    refine w_st rfl rfl rfl trivial ?_
    refine w_st rfl rfl rfl trivial ?_
    refine w_n_ne (a := 3) (b := 1) rfl (by first | decide | omega) (by first | decide | omega) (by first | rfl | assumption | (simp only [← nI_add, ← nI_mul]; rfl)) (by first | rfl | assumption | (simp only [← nI_add, ← nI_mul]; rfl)) (fun _ => ?_) (fun c => by exfalso; omega)
    refine w_st rfl rfl rfl trivial ?_
    refine w_st rfl rfl rfl trivial ?_
    refine w_k21 (hM) rfl ⟨rfl, by decide, by decide, by decide, Or.inl ⟨_, rfl⟩⟩ (Nat.le_of_ble_eq_true rfl) (mm_foc rfl) (Nat.le_of_ble_eq_true rfl) ?_  -- calls 105 cX5_lights
    refine w_st rfl rfl rfl (Nat.le_of_ble_eq_true rfl) ?_
    refine w_st rfl rfl rfl trivial ?_
    refine w_st rfl rfl rfl trivial ?_
    refine w_n_ne (a := 3) (b := 2) rfl (by first | decide | omega) (by first | decide | omega) (by first | rfl | assumption | (simp only [← nI_add, ← nI_mul]; rfl)) (by first | rfl | assumption | (simp only [← nI_add, ← nI_mul]; rfl)) (fun _ => ?_) (fun c => by exfalso; omega)
    refine w_st rfl rfl rfl trivial ?_
    refine w_st rfl rfl rfl (Nat.le_of_ble_eq_true rfl) ?_
    refine w_st rfl rfl rfl trivial ?_
    refine w_st rfl rfl rfl (Nat.le_of_ble_eq_true rfl) ?_
    refine mm_dn (P := fun j => mm_W 130 81 [.ref 61, .int (nI f), .int (nI l), .int (nI 3), .int (sp_lit σ f), .int (nI (sp_dw (sp_R σ f) l j)), .int (nI j)] [] g I2 F) (10) ?_ ?_ 0 (by first | decide | omega)
    · try dsimp only
      refine w_st rfl rfl rfl trivial ?_
      refine w_st rfl rfl rfl trivial ?_
      refine w_n_ge (a := 10) (b := 10) rfl (by first | decide | omega) (by first | decide | omega) (by first | rfl | assumption | (simp only [← nI_add, ← nI_mul]; rfl)) (by first | rfl | assumption | (simp only [← nI_add, ← nI_mul]; rfl)) (fun _ => ?_) (fun c => by exfalso; omega)
      refine w_st rfl rfl rfl trivial ?_
      refine w_reti rfl ?_
      exact hF ▸ ⟨rfl, rfl, h2⟩
    · intro j hj ih
      try dsimp only at ih ⊢
      have e : sp_dw (sp_R σ f) l (j + 1) = sp_dw (sp_R σ f) l j + sp_if (¬ sp_R σ f j = -1 ∧ ¬ mm_SHP (3 * j + (sp_R σ f j).toNatClampNeg) &&& sp_bit l = 0) 1 0 := rfl
      refine w_st rfl rfl rfl trivial ?_
      refine w_st rfl rfl rfl trivial ?_
      refine w_n_ge (a := j) (b := 10) rfl (by first | decide | omega) (by first | decide | omega) (by first | rfl | assumption | (simp only [← nI_add, ← nI_mul]; rfl)) (by first | rfl | assumption | (simp only [← nI_add, ← nI_mul]; rfl)) (fun c => by exfalso; omega) (fun _ => ?_)
      refine w_st rfl rfl rfl trivial ?_
      refine w_st rfl rfl rfl trivial ?_
      refine w_gr (j := 67) rfl (mm_foc rfl) rfl (by decide) ?_
      refine w_st rfl rfl rfl trivial ?_
      refine w_ia (j) rfl (mm_fac (n := 10) rfl) (by first | rfl | assumption | (simp only [← nI_add, ← nI_mul]; rfl)) (by first | decide | omega) ?_
      rw [hL j hj]
      refine w_st rfl rfl rfl trivial ?_
      refine w_v_eq rfl (fun c => ?_) (fun c => ?_)
      · rw [sp_if_f (fun z => z.1 c)] at e
        refine w_st rfl rfl rfl trivial ?_
        refine w_iadd rfl ?_
        refine w_hd (nI_add _ 0) ?_
        refine w_st rfl rfl rfl (Nat.le_of_ble_eq_true rfl) ?_
        refine w_inc rfl rfl rfl (Nat.le_of_ble_eq_true rfl) (nI_1 _) ?_
        refine w_st rfl rfl rfl trivial ?_
        rw [e] at ih; exact ih
      · obtain ⟨i, hi, hr⟩ := (sp_row_k (b := σ (8 + f)) (s := σ 1) hj).resolve_left c
        have hr : sp_R σ f j = nI i := hr
        rw [hr, nI_clamp (by omega)] at e
        refine w_st rfl rfl rfl trivial ?_
        refine w_gr (j := 62) rfl (mm_foc rfl) rfl (by decide) ?_
        refine w_st rfl rfl rfl trivial ?_
        refine w_st rfl rfl rfl trivial ?_
        refine w_imul rfl ?_
        refine w_st rfl rfl rfl trivial ?_
        refine w_gr (j := 67) rfl (mm_foc rfl) rfl (by decide) ?_
        refine w_st rfl rfl rfl trivial ?_
        refine w_ia (j) rfl (mm_fac (n := 10) rfl) (by first | rfl | assumption | (simp only [← nI_add, ← nI_mul]; rfl)) (by first | decide | omega) ?_
        rw [hL j hj, hr]
        refine w_iadd rfl ?_
        refine w_ia (3 * j + i) rfl (mm_fac (n := 30) rfl) (by first | rfl | assumption | (simp only [← nI_add, ← nI_mul]; rfl)) (by first | decide | omega) ?_
        rw [hn.1 _ (by omega)]
        refine w_st rfl rfl rfl trivial ?_
        refine w_k11 (r_bit) rfl ⟨rfl, by decide, by decide, by decide, Or.inr (Or.inl ⟨_, rfl⟩)⟩ (Nat.le_of_ble_eq_true rfl) trivial (Nat.le_of_ble_eq_true rfl) ?_  -- calls 94 cX5_bit
        refine w_iand rfl ?_
        refine w_z_eq rfl (fun c2 => ?_) (fun c2 => ?_)
        · rw [sp_if_f (fun z => z.2 c2)] at e
          refine w_st rfl rfl rfl trivial ?_
          refine w_iadd rfl ?_
          refine w_hd (nI_add _ 0) ?_
          refine w_st rfl rfl rfl (Nat.le_of_ble_eq_true rfl) ?_
          refine w_inc rfl rfl rfl (Nat.le_of_ble_eq_true rfl) (nI_1 _) ?_
          refine w_st rfl rfl rfl trivial ?_
          rw [e] at ih; exact ih
        · rw [sp_if_t ⟨nI_ne1 (by omega), c2⟩] at e
          refine w_st rfl rfl rfl trivial ?_
          refine w_st rfl rfl rfl trivial ?_
          refine w_iadd rfl ?_
          refine w_hd (nI_1 _) ?_
          refine w_st rfl rfl rfl (Nat.le_of_ble_eq_true rfl) ?_
          refine w_inc rfl rfl rfl (Nat.le_of_ble_eq_true rfl) (nI_1 _) ?_
          refine w_st rfl rfl rfl trivial ?_
          rw [e] at ih; exact ih
theorem r_ofTable (h : sp_N I σ) (ok : sp_ok σ) (hf : f < 4) (hd : d < 10) (hw : w < 3) : ∃ I', mm_M 132 4 [.ref 61, .int (nI f), .int (nI d), .int (nI w)] g I (some (.int (sp_tb σ f d w))) I' ∧ sp_f2 I I' := by
  obtain ⟨I2, hM, hL, h2⟩ := r_laysFor (g := g) h ok hf
  have hn := sp_N_f2 h h2
  refine w_MX ?_
  show mm_W 132 0 [.ref 61, .int (nI f), .int (nI d), .int (nI w)] [] _ _ _
  generalize hF : mm_EQ _ _ _ = F
  refine w_st rfl rfl rfl trivial ?_
  refine w_st rfl rfl rfl trivial ?_
  refine w_k21 (hM) rfl ⟨rfl, by decide, by decide, by decide, Or.inl ⟨_, rfl⟩⟩ (Nat.le_of_ble_eq_true rfl) (mm_foc rfl) (Nat.le_of_ble_eq_true rfl) ?_  -- calls 102 cX5_laysFor
  refine w_st rfl rfl rfl trivial ?_
  refine w_st rfl rfl rfl trivial ?_
  refine w_gr (j := 67) rfl (mm_foc rfl) rfl (by decide) ?_
  refine w_st rfl rfl rfl trivial ?_
  refine w_ia (d) rfl (mm_fac (n := 10) rfl) (by first | rfl | assumption | (simp only [← nI_add, ← nI_mul]; rfl)) (by first | decide | omega) ?_
  rw [hL d hd]
  refine w_st rfl rfl rfl trivial ?_
  refine w_v_eq rfl (fun c => ?_) (fun c => ?_)
  · skip
    refine w_st rfl rfl rfl trivial ?_
    refine w_gr (j := 67) rfl (mm_foc rfl) rfl (by decide) ?_
    refine w_st rfl rfl rfl trivial ?_
    refine w_ia (d) rfl (mm_fac (n := 10) rfl) (by first | rfl | assumption | (simp only [← nI_add, ← nI_mul]; rfl)) (by first | decide | omega) ?_
    rw [hL d hd]
    have hw' : w = 0 ∨ w = 1 ∨ w = 2 := by omega
    rcases hw' with rfl | rfl | rfl
    · skip
      refine w_reti rfl ?_
      exact hF ▸ ⟨rfl, rfl, h2⟩
    · skip
      refine w_reti rfl ?_
      exact hF ▸ ⟨by rw [show sp_tb σ f d 1 = -1 from sp_if_t c _ _, c], rfl, h2⟩
    · skip
      refine w_reti rfl ?_
      exact hF ▸ ⟨by rw [show sp_tb σ f d 2 = -1 from sp_if_t c _ _, c], rfl, h2⟩
  · obtain ⟨i, hi, hr⟩ := (sp_row_k (b := σ (8 + f)) (s := σ 1) hd).resolve_left c
    have hr : sp_R σ f d = nI i := hr
    refine w_st rfl rfl rfl trivial ?_
    have hw' : w = 0 ∨ w = 1 ∨ w = 2 := by omega
    rcases hw' with rfl | rfl | rfl
    · skip
      refine w_m_ne (a := 0) rfl (by first | decide | omega) (by first | rfl | assumption | (simp only [← nI_add, ← nI_mul]; rfl)) (fun c => by exfalso; omega) (fun _ => ?_)
      refine w_st rfl rfl rfl trivial ?_
      refine w_gr (j := 67) rfl (mm_foc rfl) rfl (by decide) ?_
      refine w_st rfl rfl rfl trivial ?_
      refine w_ia (d) rfl (mm_fac (n := 10) rfl) (by first | rfl | assumption | (simp only [← nI_add, ← nI_mul]; rfl)) (by first | decide | omega) ?_
      rw [hL d hd]
      refine w_reti rfl ?_
      exact hF ▸ ⟨rfl, rfl, h2⟩
    · have e : sp_tb σ f d 1 = sp_sh (σ (8 + f)) d (sp_R σ f d) := sp_if_f c _ _
      rw [hr] at e
      rw [e] at hF
      refine w_m_ne (a := 1) rfl (by first | decide | omega) (by first | rfl | assumption | (simp only [← nI_add, ← nI_mul]; rfl)) (fun _ => ?_) (fun c => by exfalso; omega)
      refine w_st rfl rfl rfl trivial ?_
      refine w_st rfl rfl rfl trivial ?_
      refine w_n_ne (a := 1) (b := 1) rfl (by first | decide | omega) (by first | decide | omega) (by first | rfl | assumption | (simp only [← nI_add, ← nI_mul]; rfl)) (by first | rfl | assumption | (simp only [← nI_add, ← nI_mul]; rfl)) (fun c => by exfalso; omega) (fun _ => ?_)
      refine w_st rfl rfl rfl trivial ?_
      refine w_st rfl rfl rfl trivial ?_
      refine w_st rfl rfl rfl trivial ?_
      refine w_gr (j := 67) rfl (mm_foc rfl) rfl (by decide) ?_
      refine w_st rfl rfl rfl trivial ?_
      refine w_ia (d) rfl (mm_fac (n := 10) rfl) (by first | rfl | assumption | (simp only [← nI_add, ← nI_mul]; rfl)) (by first | decide | omega) ?_
      rw [hL d hd, hr]
      refine w_st rfl rfl rfl trivial ?_
      refine w_gr (j := 63) rfl (mm_foc rfl) rfl (by decide) ?_
      refine w_st rfl rfl rfl trivial ?_
      refine w_st rfl rfl rfl trivial ?_
      refine w_iadd rfl ?_
      refine w_ia (8 + f) rfl (mm_fac (n := 72) rfl) (by first | rfl | assumption | (simp only [← nI_add, ← nI_mul]; rfl)) (by first | decide | omega) ?_
      rw [hn.2 _ (by omega)]
      refine w_k41 (r_shown hn.1 hd hi) rfl ⟨rfl, by decide, by decide, by decide, Or.inl ⟨_, rfl⟩⟩ (Nat.le_of_ble_eq_true rfl) (mm_foc rfl) (Nat.le_of_ble_eq_true rfl) ?_  -- calls 98 cX5_shown
      refine w_st rfl rfl rfl trivial ?_
      refine w_reti rfl ?_
      exact hF ▸ ⟨rfl, rfl, h2⟩
    · have e : sp_tb σ f d 2 = sp_mi (σ (8 + f)) d (sp_R σ f d) := sp_if_f c _ _
      rw [hr] at e
      rw [e] at hF
      refine w_m_ne (a := 2) rfl (by first | decide | omega) (by first | rfl | assumption | (simp only [← nI_add, ← nI_mul]; rfl)) (fun _ => ?_) (fun c => by exfalso; omega)
      refine w_st rfl rfl rfl trivial ?_
      refine w_st rfl rfl rfl trivial ?_
      refine w_n_ne (a := 2) (b := 1) rfl (by first | decide | omega) (by first | decide | omega) (by first | rfl | assumption | (simp only [← nI_add, ← nI_mul]; rfl)) (by first | rfl | assumption | (simp only [← nI_add, ← nI_mul]; rfl)) (fun _ => ?_) (fun c => by exfalso; omega)
      refine w_st rfl rfl rfl trivial ?_
      refine w_st rfl rfl rfl trivial ?_
      refine w_st rfl rfl rfl trivial ?_
      refine w_gr (j := 67) rfl (mm_foc rfl) rfl (by decide) ?_
      refine w_st rfl rfl rfl trivial ?_
      refine w_ia (d) rfl (mm_fac (n := 10) rfl) (by first | rfl | assumption | (simp only [← nI_add, ← nI_mul]; rfl)) (by first | decide | omega) ?_
      rw [hL d hd, hr]
      refine w_st rfl rfl rfl trivial ?_
      refine w_gr (j := 63) rfl (mm_foc rfl) rfl (by decide) ?_
      refine w_st rfl rfl rfl trivial ?_
      refine w_st rfl rfl rfl trivial ?_
      refine w_iadd rfl ?_
      refine w_ia (8 + f) rfl (mm_fac (n := 72) rfl) (by first | rfl | assumption | (simp only [← nI_add, ← nI_mul]; rfl)) (by first | decide | omega) ?_
      rw [hn.2 _ (by omega)]
      refine w_k41 (r_missing hn.1 hd hi) rfl ⟨rfl, by decide, by decide, by decide, Or.inl ⟨_, rfl⟩⟩ (Nat.le_of_ble_eq_true rfl) (mm_foc rfl) (Nat.le_of_ble_eq_true rfl) ?_  -- calls 100 cX5_missing
      refine w_reti rfl ?_
      exact hF ▸ ⟨rfl, rfl, h2⟩
theorem r_readAs (h : sp_N I σ) (ok : sp_ok σ) (hf : f < 4) (hL0 : sp_b15 x) : ∃ I', mm_M 134 7 [.ref 61, .int (nI f), .int x] g I (some (.int (sp_nr (sp_R σ f) (σ (8 + f)) x 10).1)) I' ∧ sp_f2 I I' := by
  obtain ⟨I2, hM, hL, h2⟩ := r_laysFor (g := g) h ok hf
  have hn := sp_N_f2 h h2
  refine w_MX ?_
  show mm_W 134 0 [.ref 61, .int (nI f), .int x, .null, .null, .null, .null] [] _ _ _
  generalize hF : mm_EQ _ _ _ = F
  refine w_st rfl rfl rfl trivial ?_
  refine w_st rfl rfl rfl trivial ?_
  refine w_k21 (hM) rfl ⟨rfl, by decide, by decide, by decide, Or.inl ⟨_, rfl⟩⟩ (Nat.le_of_ble_eq_true rfl) (mm_foc rfl) (Nat.le_of_ble_eq_true rfl) ?_  -- calls 102 cX5_laysFor
  refine w_st rfl rfl rfl trivial ?_
  refine w_st rfl rfl rfl trivial ?_
  refine w_st rfl rfl rfl (Nat.le_of_ble_eq_true rfl) ?_
  refine w_st rfl rfl rfl trivial ?_
  refine w_st rfl rfl rfl (Nat.le_of_ble_eq_true rfl) ?_
  refine w_st rfl rfl rfl trivial ?_
  refine w_st rfl rfl rfl (Nat.le_of_ble_eq_true rfl) ?_
  have K : ∀ j, j ≤ 10 → ∀ v6 m, ((m = (sp_nr (sp_R σ f) (σ (8 + f)) x j).2) ∨ (m = nI 99 ∧ (sp_nr (sp_R σ f) (σ (8 + f)) x j).2 = nI 16 ∧ (sp_nr (sp_R σ f) (σ (8 + f)) x j).1 = -1)) → mm_W 134 15 [.ref 61, .int (nI f), .int x, .int (sp_nr (sp_R σ f) (σ (8 + f)) x j).1, .int m, .int (nI j), v6] [] g I2 F := by
    refine mm_dn 10 ?_ ?_
    · intro v6 m _
      refine w_st rfl rfl rfl trivial ?_
      refine w_st rfl rfl rfl trivial ?_
      refine w_n_ge (a := 10) (b := 10) rfl (by first | decide | omega) (by first | decide | omega) (by first | rfl | assumption | (simp only [← nI_add, ← nI_mul]; rfl)) (by first | rfl | assumption | (simp only [← nI_add, ← nI_mul]; rfl)) (fun _ => ?_) (fun c => by exfalso; omega)
      refine w_st rfl rfl rfl trivial ?_
      refine w_reti rfl ?_
      exact hF ▸ ⟨rfl, rfl, h2⟩
    · intro j hj ih v6 m hm
      obtain ⟨c2, hc2, ec2⟩ := sp_nr_k (r := sp_R σ f) (b := σ (8 + f)) (L := x) (fun d hd => sp_row_k hd) hL0 j (by omega)
      have e : sp_nr (sp_R σ f) (σ (8 + f)) x (j + 1) = sp_if (sp_R σ f j = -1) (sp_nr (sp_R σ f) (σ (8 + f)) x j) (sp_if (sp_pop (x ^^^ sp_sh (σ (8 + f)) j (sp_R σ f j)) < (sp_nr (sp_R σ f) (σ (8 + f)) x j).2) (nI j, sp_pop (x ^^^ sp_sh (σ (8 + f)) j (sp_R σ f j))) (sp_if (sp_pop (x ^^^ sp_sh (σ (8 + f)) j (sp_R σ f j)) = (sp_nr (sp_R σ f) (σ (8 + f)) x j).2) (-1, (sp_nr (sp_R σ f) (σ (8 + f)) x j).2) (sp_nr (sp_R σ f) (σ (8 + f)) x j))) := rfl
      obtain ⟨mk, hmk, emk⟩ : ∃ mk, mk ≤ 99 ∧ m = nI mk := by
        rcases hm with z | z
        · exact ⟨c2, by omega, z.trans ec2⟩
        · exact ⟨99, by omega, z.1⟩
      refine w_st rfl rfl rfl trivial ?_
      refine w_st rfl rfl rfl trivial ?_
      refine w_n_ge (a := j) (b := 10) rfl (by first | decide | omega) (by first | decide | omega) (by first | rfl | assumption | (simp only [← nI_add, ← nI_mul]; rfl)) (by first | rfl | assumption | (simp only [← nI_add, ← nI_mul]; rfl)) (fun c => by exfalso; omega) (fun _ => ?_)
      refine w_st rfl rfl rfl trivial ?_
      refine w_gr (j := 67) rfl (mm_foc rfl) rfl (by decide) ?_
      refine w_st rfl rfl rfl trivial ?_
      refine w_ia (j) rfl (mm_fac (n := 10) rfl) (by first | rfl | assumption | (simp only [← nI_add, ← nI_mul]; rfl)) (by first | decide | omega) ?_
      rw [hL j hj]
      refine w_st rfl rfl rfl trivial ?_
      refine w_v_ne rfl (fun c => ?_) (fun c => ?_)
      · obtain ⟨i, hi, hr⟩ := (sp_row_k (b := σ (8 + f)) (s := σ 1) hj).resolve_left c
        have hr : sp_R σ f j = nI i := hr
        rw [sp_if_f c, hr] at e
        obtain ⟨p, hp, ep⟩ := sp_pop_k (sp_b15_xor hL0 (sp_b15_sh (b := σ (8 + f)) (d := j) hj hi))
        refine w_st rfl rfl rfl trivial ?_
        refine w_st rfl rfl rfl trivial ?_
        refine w_st rfl rfl rfl trivial ?_
        refine w_gr (j := 67) rfl (mm_foc rfl) rfl (by decide) ?_
        refine w_st rfl rfl rfl trivial ?_
        refine w_ia (j) rfl (mm_fac (n := 10) rfl) (by first | rfl | assumption | (simp only [← nI_add, ← nI_mul]; rfl)) (by first | decide | omega) ?_
        rw [hL j hj, hr]
        refine w_st rfl rfl rfl trivial ?_
        refine w_gr (j := 63) rfl (mm_foc rfl) rfl (by decide) ?_
        refine w_st rfl rfl rfl trivial ?_
        refine w_st rfl rfl rfl trivial ?_
        refine w_iadd rfl ?_
        refine w_ia (8 + f) rfl (mm_fac (n := 72) rfl) (by first | rfl | assumption | (simp only [← nI_add, ← nI_mul]; rfl)) (by first | decide | omega) ?_
        rw [hn.2 _ (by omega)]
        refine w_k41 (r_shown hn.1 hj hi) rfl ⟨rfl, by decide, by decide, by decide, Or.inl ⟨_, rfl⟩⟩ (Nat.le_of_ble_eq_true rfl) (mm_foc rfl) (Nat.le_of_ble_eq_true rfl) ?_  -- calls 98 cX5_shown
        refine w_st rfl rfl rfl trivial ?_
        refine w_ixor rfl ?_
        refine w_k11 (r_ones (sp_b15_xor (sp_b15_sh hj hi) hL0)) rfl ⟨rfl, by decide, by decide, by decide, Or.inr (Or.inl ⟨_, rfl⟩)⟩ (Nat.le_of_ble_eq_true rfl) trivial (Nat.le_of_ble_eq_true rfl) ?_  -- calls 95 cX5_ones
        rw [Int32.xor_comm, ep]
        rw [ep] at e
        rcases hm with hm | ⟨m1, m2, m3⟩
        · rw [hm, ec2]
          rw [ec2] at e
          refine w_st rfl rfl rfl (Nat.le_of_ble_eq_true rfl) ?_
          refine w_st rfl rfl rfl trivial ?_
          refine w_st rfl rfl rfl trivial ?_
          refine w_n_ge (a := p) (b := c2) rfl (by first | decide | omega) (by first | decide | omega) (by first | rfl | assumption | (simp only [← nI_add, ← nI_mul]; rfl)) (by first | rfl | assumption | (simp only [← nI_add, ← nI_mul]; rfl)) (fun c => ?_) (fun c => ?_)
          · skip
            refine w_st rfl rfl rfl trivial ?_
            refine w_st rfl rfl rfl trivial ?_
            refine w_n_ne (a := p) (b := c2) rfl (by first | decide | omega) (by first | decide | omega) (by first | rfl | assumption | (simp only [← nI_add, ← nI_mul]; rfl)) (by first | rfl | assumption | (simp only [← nI_add, ← nI_mul]; rfl)) (fun c6 => ?_) (fun c6 => ?_)
            · rw [sp_if_f (fun z => by have := (nI_ltI (by omega) (by omega)).1 z; omega), sp_if_f (fun z => by have := (nI_eq (by omega) (by omega)).1 z; omega)] at e
              rw [e] at ih
              refine w_st rfl rfl rfl trivial ?_
              refine w_st rfl rfl rfl (Nat.le_of_ble_eq_true rfl) ?_
              refine w_st rfl rfl rfl trivial ?_
              refine w_st rfl rfl rfl trivial ?_
              refine w_n_ge (a := p) (b := c2) rfl (by first | decide | omega) (by first | decide | omega) (by first | rfl | assumption | (simp only [← nI_add, ← nI_mul]; rfl)) (by first | rfl | assumption | (simp only [← nI_add, ← nI_mul]; rfl)) (fun _ => ?_) (fun c => by exfalso; omega)
              refine w_st rfl rfl rfl trivial ?_
              refine w_st rfl rfl rfl (Nat.le_of_ble_eq_true rfl) ?_
              refine w_inc rfl rfl rfl (Nat.le_of_ble_eq_true rfl) (nI_1 _) ?_
              refine w_st rfl rfl rfl trivial ?_
              exact ih _ _ (Or.inl ec2.symm)
            · subst c6
              rw [sp_if_f (fun z => by have := (nI_ltI (by omega) (by omega)).1 z; omega), sp_if_t rfl] at e
              rw [e] at ih
              refine w_st rfl rfl rfl trivial ?_
              refine w_st rfl rfl rfl trivial ?_
              refine w_st rfl rfl rfl (Nat.le_of_ble_eq_true rfl) ?_
              refine w_st rfl rfl rfl trivial ?_
              refine w_st rfl rfl rfl trivial ?_
              refine w_n_ge (a := p) (b := p) rfl (by first | decide | omega) (by first | decide | omega) (by first | rfl | assumption | (simp only [← nI_add, ← nI_mul]; rfl)) (by first | rfl | assumption | (simp only [← nI_add, ← nI_mul]; rfl)) (fun _ => ?_) (fun c => by exfalso; omega)
              refine w_st rfl rfl rfl trivial ?_
              refine w_st rfl rfl rfl (Nat.le_of_ble_eq_true rfl) ?_
              refine w_inc rfl rfl rfl (Nat.le_of_ble_eq_true rfl) (nI_1 _) ?_
              refine w_st rfl rfl rfl trivial ?_
              exact ih _ _ (Or.inl rfl)
          · rw [sp_if_t (nI_lt (by omega) (by omega))] at e
            rw [e] at ih
            refine w_st rfl rfl rfl trivial ?_
            refine w_st rfl rfl rfl trivial ?_
            refine w_st rfl rfl rfl (Nat.le_of_ble_eq_true rfl) ?_
            refine w_st rfl rfl rfl trivial ?_
            refine w_st rfl rfl rfl trivial ?_
            refine w_n_ge (a := p) (b := c2) rfl (by first | decide | omega) (by first | decide | omega) (by first | rfl | assumption | (simp only [← nI_add, ← nI_mul]; rfl)) (by first | rfl | assumption | (simp only [← nI_add, ← nI_mul]; rfl)) (fun c => by exfalso; omega) (fun _ => ?_)
            refine w_st rfl rfl rfl trivial ?_
            refine w_st rfl rfl rfl trivial ?_
            refine w_st rfl rfl rfl (Nat.le_of_ble_eq_true rfl) ?_
            refine w_inc rfl rfl rfl (Nat.le_of_ble_eq_true rfl) (nI_1 _) ?_
            refine w_st rfl rfl rfl trivial ?_
            exact ih _ _ (Or.inl rfl)
        · rw [m1]
          rw [m2] at e
          refine w_st rfl rfl rfl (Nat.le_of_ble_eq_true rfl) ?_
          refine w_st rfl rfl rfl trivial ?_
          refine w_st rfl rfl rfl trivial ?_
          refine w_n_ge (a := p) (b := 99) rfl (by first | decide | omega) (by first | decide | omega) (by first | rfl | assumption | (simp only [← nI_add, ← nI_mul]; rfl)) (by first | rfl | assumption | (simp only [← nI_add, ← nI_mul]; rfl)) (fun c => by exfalso; omega) (fun _ => ?_)
          rw [sp_if_t (nI_lt (by omega) (by omega))] at e
          rw [e] at ih
          refine w_st rfl rfl rfl trivial ?_
          refine w_st rfl rfl rfl trivial ?_
          refine w_st rfl rfl rfl (Nat.le_of_ble_eq_true rfl) ?_
          refine w_st rfl rfl rfl trivial ?_
          refine w_st rfl rfl rfl trivial ?_
          refine w_n_ge (a := p) (b := 99) rfl (by first | decide | omega) (by first | decide | omega) (by first | rfl | assumption | (simp only [← nI_add, ← nI_mul]; rfl)) (by first | rfl | assumption | (simp only [← nI_add, ← nI_mul]; rfl)) (fun c => by exfalso; omega) (fun _ => ?_)
          refine w_st rfl rfl rfl trivial ?_
          refine w_st rfl rfl rfl trivial ?_
          refine w_st rfl rfl rfl (Nat.le_of_ble_eq_true rfl) ?_
          refine w_inc rfl rfl rfl (Nat.le_of_ble_eq_true rfl) (nI_1 _) ?_
          refine w_st rfl rfl rfl trivial ?_
          exact ih _ _ (Or.inl rfl)
      · rw [sp_if_t c] at e
        rw [e] at ih
        refine w_st rfl rfl rfl trivial ?_
        refine w_st rfl rfl rfl trivial ?_
        refine w_st rfl rfl rfl (Nat.le_of_ble_eq_true rfl) ?_
        refine w_st rfl rfl rfl trivial ?_
        refine w_st rfl rfl rfl trivial ?_
        rcases hm with hm | ⟨m1, m2, m3⟩
        · rw [hm, ec2]
          refine w_n_ge (a := 99) (b := c2) rfl (by first | decide | omega) (by first | decide | omega) (by first | rfl | assumption | (simp only [← nI_add, ← nI_mul]; rfl)) (by first | rfl | assumption | (simp only [← nI_add, ← nI_mul]; rfl)) (fun _ => ?_) (fun c => by exfalso; omega)
          refine w_st rfl rfl rfl trivial ?_
          refine w_st rfl rfl rfl trivial ?_
          refine w_n_ne (a := 99) (b := c2) rfl (by first | decide | omega) (by first | decide | omega) (by first | rfl | assumption | (simp only [← nI_add, ← nI_mul]; rfl)) (by first | rfl | assumption | (simp only [← nI_add, ← nI_mul]; rfl)) (fun _ => ?_) (fun c => by exfalso; omega)
          refine w_st rfl rfl rfl trivial ?_
          refine w_st rfl rfl rfl (Nat.le_of_ble_eq_true rfl) ?_
          refine w_st rfl rfl rfl trivial ?_
          refine w_st rfl rfl rfl trivial ?_
          refine w_n_ge (a := 99) (b := c2) rfl (by first | decide | omega) (by first | decide | omega) (by first | rfl | assumption | (simp only [← nI_add, ← nI_mul]; rfl)) (by first | rfl | assumption | (simp only [← nI_add, ← nI_mul]; rfl)) (fun _ => ?_) (fun c => by exfalso; omega)
          refine w_st rfl rfl rfl trivial ?_
          refine w_st rfl rfl rfl (Nat.le_of_ble_eq_true rfl) ?_
          refine w_inc rfl rfl rfl (Nat.le_of_ble_eq_true rfl) (nI_1 _) ?_
          refine w_st rfl rfl rfl trivial ?_
          exact ih _ _ (Or.inl ec2.symm)
        · rw [m1]
          refine w_n_ge (a := 99) (b := 99) rfl (by first | decide | omega) (by first | decide | omega) (by first | rfl | assumption | (simp only [← nI_add, ← nI_mul]; rfl)) (by first | rfl | assumption | (simp only [← nI_add, ← nI_mul]; rfl)) (fun _ => ?_) (fun c => by exfalso; omega)
          refine w_st rfl rfl rfl trivial ?_
          refine w_st rfl rfl rfl trivial ?_
          refine w_n_ne (a := 99) (b := 99) rfl (by first | decide | omega) (by first | decide | omega) (by first | rfl | assumption | (simp only [← nI_add, ← nI_mul]; rfl)) (by first | rfl | assumption | (simp only [← nI_add, ← nI_mul]; rfl)) (fun c => by exfalso; omega) (fun _ => ?_)
          refine w_st rfl rfl rfl trivial ?_
          refine w_st rfl rfl rfl trivial ?_
          refine w_st rfl rfl rfl (Nat.le_of_ble_eq_true rfl) ?_
          refine w_st rfl rfl rfl trivial ?_
          refine w_st rfl rfl rfl trivial ?_
          refine w_n_ge (a := 99) (b := 99) rfl (by first | decide | omega) (by first | decide | omega) (by first | rfl | assumption | (simp only [← nI_add, ← nI_mul]; rfl)) (by first | rfl | assumption | (simp only [← nI_add, ← nI_mul]; rfl)) (fun _ => ?_) (fun c => by exfalso; omega)
          refine w_st rfl rfl rfl trivial ?_
          refine w_st rfl rfl rfl (Nat.le_of_ble_eq_true rfl) ?_
          refine w_inc rfl rfl rfl (Nat.le_of_ble_eq_true rfl) (nI_1 _) ?_
          refine w_st rfl rfl rfl trivial ?_
          rw [m3] at ih
          exact ih _ _ (Or.inr ⟨rfl, m2, rfl⟩)
  exact K 0 (by decide) .null _ (Or.inr ⟨rfl, rfl, rfl⟩)
theorem r_byBurning (h : sp_N I σ) (ok : sp_ok σ) (hf : f < 4) (hl : l < 15) (hw : w < 3) : ∃ I', mm_M 142 6 [.ref 61, .int (nI f), .int (nI l), .int (nI w)] g I (some (.int (sp_ib σ f l w))) I' ∧ sp_f2 I I' := by
  obtain ⟨I2, hM, hL, h2⟩ := r_laysFor (g := g) h ok hf
  have hn := sp_N_f2 h h2
  obtain ⟨I3, hM3, hL3, h3⟩ := r_lays (g := g) (I := I2) (p := 68) (b := σ (8 + f) ||| sp_bit l) (s := σ 1) hn.1 (mm_fac rfl) (by decide) (sp_b15_or (ok.2.1 f hf) (sp_b15_bit hl))
  have h3' : sp_f2 I2 I3 := fun q _ b => h3 q b
  have hn3 := sp_N_f2 hn h3'
  have hLL : sp_L I3 67 (sp_R σ f) := fun d hd => by rw [h3 67 (by decide)]; exact hL d hd
  have h23 := sp_f2_t h2 h3'
  refine w_MX ?_
  show mm_W 142 0 [.ref 61, .int (nI f), .int (nI l), .int (nI w), .null, .null] [] _ _ _
  generalize hF : mm_EQ _ _ _ = F
  refine w_st rfl rfl rfl trivial ?_
  refine w_st rfl rfl rfl trivial ?_
  refine w_k21 (hM) rfl ⟨rfl, by decide, by decide, by decide, Or.inl ⟨_, rfl⟩⟩ (Nat.le_of_ble_eq_true rfl) (mm_foc rfl) (Nat.le_of_ble_eq_true rfl) ?_  -- calls 102 cX5_laysFor
  refine w_st rfl rfl rfl trivial ?_
  refine w_st rfl rfl rfl trivial ?_
  refine w_gr (j := 63) rfl (mm_foc rfl) rfl (by decide) ?_
  refine w_st rfl rfl rfl trivial ?_
  refine w_st rfl rfl rfl trivial ?_
  refine w_iadd rfl ?_
  refine w_ia (8 + f) rfl (mm_fac (n := 72) rfl) (by first | rfl | assumption | (simp only [← nI_add, ← nI_mul]; rfl)) (by first | decide | omega) ?_
  rw [hn.2 _ (by omega)]
  refine w_st rfl rfl rfl trivial ?_
  refine w_k11 (r_bit) rfl ⟨rfl, by decide, by decide, by decide, Or.inr (Or.inl ⟨_, rfl⟩)⟩ (Nat.le_of_ble_eq_true rfl) trivial (Nat.le_of_ble_eq_true rfl) ?_  -- calls 94 cX5_bit
  refine w_ior rfl ?_
  refine w_st rfl rfl rfl (Nat.le_of_ble_eq_true rfl) ?_
  refine w_st rfl rfl rfl trivial ?_
  refine w_st rfl rfl rfl trivial ?_
  refine w_gr (j := 68) rfl (mm_foc rfl) rfl (by decide) ?_
  refine w_st rfl rfl rfl trivial ?_
  refine w_st rfl rfl rfl trivial ?_
  refine w_gr (j := 63) rfl (mm_foc rfl) rfl (by decide) ?_
  refine w_st rfl rfl rfl trivial ?_
  refine w_ia (1) rfl (mm_fac (n := 72) rfl) (by first | rfl | assumption | (simp only [← nI_add, ← nI_mul]; rfl)) (by first | decide | omega) ?_
  rw [hn.2 _ (by omega)]
  refine w_k41 (hM3) rfl ⟨rfl, by decide, by decide, by decide, Or.inl ⟨_, rfl⟩⟩ (Nat.le_of_ble_eq_true rfl) (mm_foc rfl) (Nat.le_of_ble_eq_true rfl) ?_  -- calls 101 cX5_lays
  refine w_st rfl rfl rfl (Nat.le_of_ble_eq_true rfl) ?_
  refine w_st rfl rfl rfl trivial ?_
  have hw' : w = 0 ∨ w = 1 ∨ w = 2 := by omega
  rcases hw' with rfl | rfl | rfl
  · skip
    refine w_m_ne (a := 0) rfl (by first | decide | omega) (by first | rfl | assumption | (simp only [← nI_add, ← nI_mul]; rfl)) (fun c => by exfalso; omega) (fun _ => ?_)
    refine w_st rfl rfl rfl trivial ?_
    refine w_st rfl rfl rfl trivial ?_
    refine w_reti rfl ?_
    exact hF ▸ ⟨rfl, rfl, h23⟩
  · skip
    refine w_m_ne (a := 1) rfl (by first | decide | omega) (by first | rfl | assumption | (simp only [← nI_add, ← nI_mul]; rfl)) (fun _ => ?_) (fun c => by exfalso; omega)
    refine w_st rfl rfl rfl trivial ?_
    refine w_st rfl rfl rfl trivial ?_
    refine w_n_ne (a := 1) (b := 1) rfl (by first | decide | omega) (by first | decide | omega) (by first | rfl | assumption | (simp only [← nI_add, ← nI_mul]; rfl)) (by first | rfl | assumption | (simp only [← nI_add, ← nI_mul]; rfl)) (fun c => by exfalso; omega) (fun _ => ?_)
    refine w_st rfl rfl rfl trivial ?_
    refine w_k11 (r_unlike hLL hL3) rfl ⟨rfl, by decide, by decide, by decide, Or.inl ⟨_, rfl⟩⟩ (Nat.le_of_ble_eq_true rfl) (mm_foc rfl) (Nat.le_of_ble_eq_true rfl) ?_  -- calls 103 cX5_unlike
    refine w_st rfl rfl rfl trivial ?_
    refine w_reti rfl ?_
    exact hF ▸ ⟨by show (0, some (Value.int _)) = (0, some (Value.int (nI (sp_cg (sp_Q σ f l) (sp_R σ f) 10)))); rw [sp_cg_comm]; rfl, rfl, h23⟩
  · skip
    refine w_m_ne (a := 2) rfl (by first | decide | omega) (by first | rfl | assumption | (simp only [← nI_add, ← nI_mul]; rfl)) (fun _ => ?_) (fun c => by exfalso; omega)
    refine w_st rfl rfl rfl trivial ?_
    refine w_st rfl rfl rfl trivial ?_
    refine w_n_ne (a := 2) (b := 1) rfl (by first | decide | omega) (by first | decide | omega) (by first | rfl | assumption | (simp only [← nI_add, ← nI_mul]; rfl)) (by first | rfl | assumption | (simp only [← nI_add, ← nI_mul]; rfl)) (fun _ => ?_) (fun c => by exfalso; omega)
    refine w_st rfl rfl rfl trivial ?_
    refine w_st rfl rfl rfl trivial ?_
    refine w_gr (j := 68) rfl (mm_foc rfl) rfl (by decide) ?_
    refine w_st rfl rfl rfl trivial ?_
    refine w_k31 (r_closest (p := 68) hn3.1 (mm_fac rfl) hL3) rfl ⟨rfl, by decide, by decide, by decide, Or.inl ⟨_, rfl⟩⟩ (Nat.le_of_ble_eq_true rfl) (mm_foc rfl) (Nat.le_of_ble_eq_true rfl) ?_  -- calls 104 cX5_closest
    refine w_reti rfl ?_
    exact hF ▸ ⟨rfl, rfl, h23⟩
theorem r_strict (h : sp_N I σ) (ok : sp_ok σ) (hf : f < 4) : ∃ I', mm_M 146 3 [.ref 61, .int (nI f)] g I (some (.int (sp_sr (σ (8 + f)) 5))) I' ∧ sp_f2 I I' := by
  refine w_MX ?_
  show mm_W 146 0 [.ref 61, .int (nI f), .null] [] _ _ _
  generalize hF : mm_EQ _ _ _ = F
  refine w_st rfl rfl rfl trivial ?_
  refine w_st rfl rfl rfl (Nat.le_of_ble_eq_true rfl) ?_
  have K : ∀ s, s ≤ 5 → sp_sr (σ (8 + f)) 5 = sp_sr (σ (8 + f)) s → ∀ I1, sp_f2 I I1 → mm_W 146 2 [.ref 61, .int (nI f), .int (nI s)] [] g I1 F := by
    intro s
    induction s with
    | zero =>
      intro _ e I1 h1
      refine w_st rfl rfl rfl trivial ?_
      refine w_m_le (a := 0) rfl (by first | decide | omega) (by first | rfl | assumption | (simp only [← nI_add, ← nI_mul]; rfl)) (fun _ => ?_) (fun c => by exfalso; omega)
      refine w_st rfl rfl rfl trivial ?_
      refine w_reti rfl ?_
      exact hF ▸ ⟨by rw [e]; rfl, rfl, h1⟩
    | succ s ih =>
      intro hs e I1 h1
      have hn := sp_N_f2 h h1
      have e1 : sp_sr (σ (8 + f)) (s + 1) = sp_if (sp_no (sp_row (σ (8 + f)) (nI (s + 1))) 10 = 0) (nI (s + 1)) (sp_sr (σ (8 + f)) s) := rfl
      obtain ⟨I3, hM3, hL3, h3⟩ := r_lays (g := g) (I := I1) (p := 68) (b := σ (8 + f)) (s := nI (s + 1)) hn.1 (mm_fac rfl) (by decide) (ok.2.1 f hf)
      have h13 : sp_f2 I I3 := sp_f2_t h1 (fun q _ b => h3 q b)
      refine w_st rfl rfl rfl trivial ?_
      refine w_m_le (a := s + 1) rfl (by first | decide | omega) (by first | rfl | assumption | (simp only [← nI_add, ← nI_mul]; rfl)) (fun c => by exfalso; omega) (fun _ => ?_)
      refine w_st rfl rfl rfl trivial ?_
      refine w_st rfl rfl rfl trivial ?_
      refine w_gr (j := 68) rfl (mm_foc rfl) rfl (by decide) ?_
      refine w_st rfl rfl rfl trivial ?_
      refine w_gr (j := 63) rfl (mm_foc rfl) rfl (by decide) ?_
      refine w_st rfl rfl rfl trivial ?_
      refine w_st rfl rfl rfl trivial ?_
      refine w_iadd rfl ?_
      refine w_ia (8 + f) rfl (mm_fac (n := 72) rfl) (by first | rfl | assumption | (simp only [← nI_add, ← nI_mul]; rfl)) (by first | decide | omega) ?_
      rw [hn.2 _ (by omega)]
      refine w_st rfl rfl rfl trivial ?_
      refine w_k41 (hM3) rfl ⟨rfl, by decide, by decide, by decide, Or.inl ⟨_, rfl⟩⟩ (Nat.le_of_ble_eq_true rfl) (mm_foc rfl) (Nat.le_of_ble_eq_true rfl) ?_  -- calls 101 cX5_lays
      have := sp_no_le (sp_row (σ (8 + f)) (nI (s + 1))) 10
      refine w_m_le (a := sp_no (sp_row (σ (8 + f)) (nI (s + 1))) 10) rfl (by first | decide | omega) (by first | rfl | assumption | (simp only [← nI_add, ← nI_mul]; rfl)) (fun c => ?_) (fun c => ?_)
      · rw [sp_if_t c] at e1
        refine w_st rfl rfl rfl trivial ?_
        refine w_reti rfl ?_
        exact hF ▸ ⟨by rw [e, e1], rfl, h13⟩
      · rw [sp_if_f (by omega)] at e1
        refine w_inc rfl rfl rfl (Nat.le_of_ble_eq_true rfl) (nI_dec _) ?_
        refine w_st rfl rfl rfl trivial ?_
        exact ih (by omega) (e.trans e1) I3 h13
  exact K 5 (by decide) rfl I sp_f2_rf
end SM
