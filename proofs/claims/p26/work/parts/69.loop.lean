/-! the law's loop -/
def law_F (A B : Nat) : mm_Ph := fun q g' _ => q = (0, some (.int 1)) ∧ g'.1 ≤ A ∧ g'.2.1 ≤ B
def law_H (L : Nat) (xs : Nat → Int32) (T t : Nat) (F : mm_Ph) : Prop := ∀ cn sn J I σ n ps v5 v6 v7 v8 v9 v10 v11 v12, sp_iv (90 * t) I σ n ps → cn ≤ 61 + t → sn ≤ 777 + 6 * t → mm_W 77 32 [.ref 1001, .ref 0, .int 1, .int (nI T), .int (nI t), v5, v6, v7, v8, v9, v10, v11, v12] [] (cn, sn, J, L, xs) I F
section SM
variable {I I1 I2 : mm_Is} {F : mm_Ph} {x y z told : Int32} {v12 : Value} {k t f n n1 m L cn sn cn1 sn1 B T : Nat} {J : Nat → Nat → Int64} {xs : Nat → Int32} {σ σ1 : sp_St} {ps ps1 : Nat → sp_St}
theorem sp_iv_f3 (h : sp_f3 7 I I2) (x : sp_iv B I σ n ps) : sp_iv B I2 σ n ps := by
  obtain ⟨⟨m, tx, hC⟩, r⟩ := x
  exact ⟨⟨m, tx, (sp_C_f3 h hC).1⟩, r⟩
/-- the turn's end: the board -/
theorem l_end (ih : law_H L xs T (t + 1) F) (hi : sp_iv (90 * (t + 1)) I σ1 n1 ps1) (hc : cn ≤ 61 + (t + 1)) (hs : sn ≤ 777 + 6 * (t + 1)) {v5 v6 v7 v8 v9 v10 v11 : Value} : mm_W 77 258 [.ref 1001, .ref 0, .int 1, .int (nI T), .int (nI t), v5, v6, v7, v8, v9, v10, v11, v12] [] (cn, sn, J, L, xs) I F := by
  obtain ⟨⟨m, tx, hC⟩, ⟨ok, -⟩, -⟩ := id hi
  obtain ⟨I2, hM, f2⟩ := l_board (g := (cn, sn, J, L, xs)) hC.1 ok hC.2.1.1
  refine w_st rfl rfl rfl trivial ?_
  refine w_z_eq rfl (fun z => by first | exact absurd z ((by decide : ¬ (1 : Int32) = 0)) | exact absurd ((by decide : ¬ (1 : Int32) = 0)) z) (fun _ => ?_)
  refine w_st rfl rfl rfl trivial ?_
  refine w_k11 (hM) rfl ⟨rfl, by decide, by decide, by decide, Or.inr (Or.inl ⟨_, rfl⟩)⟩ (Nat.le_of_ble_eq_true rfl) trivial (Nat.le_of_ble_eq_true rfl) ?_  -- calls 75 cL_board
  refine w_z_eq rfl (fun z => by first | exact absurd z ((by decide : ¬ (1 : Int32) = 0)) | exact absurd ((by decide : ¬ (1 : Int32) = 0)) z) (fun _ => ?_)
  refine w_st rfl rfl rfl trivial ?_
  refine w_st rfl rfl rfl trivial ?_
  refine w_st rfl rfl rfl (Nat.le_of_ble_eq_true rfl) ?_
  refine w_inc rfl rfl rfl (Nat.le_of_ble_eq_true rfl) (nI_1 _) ?_
  refine w_st rfl rfl rfl trivial ?_
  exact ih cn sn J I2 σ1 n1 ps1 _ _ _ _ _ _ _ _ (sp_iv_f3 f2 hi) hc hs
/-- the turn's middle: what could not be done; what passed -/
theorem l_mid (hL : L ≤ 260) (hk : 3 * t + 2 < L) (ih : law_H L xs T (t + 1) F) (ok : sp_ok σ) (hB : σ 0 = nI m) (hB2 : m ≤ 2700) (hi : sp_iv (90 * (t + 1)) I σ1 n1 ps1) (hc : cn ≤ 61 + (t + 1)) (hs : sn ≤ 777 + 6 * (t + 1))
    (ht : (∃ t, t < 2 ^ 31 ∧ told = nI t) ∨ (told = -3 ∧ σ1 = σ ∧ n1 = n)) (hp : 13 < sp_lw (xs (3 * t)) 16 → told = nI (sp_hi σ (1 + sp_lw (xs (3 * t + 2)) 90)).2 ∧ σ1 = (sp_hi σ (1 + sp_lw (xs (3 * t + 2)) 90)).1)
    (pv : Int32) (hpv : pv = 0 ∨ (pv = 1 ∧ 13 < sp_lw (xs (3 * t)) 16)) : mm_W 77 113 [.ref 1001, .ref 0, .int 1, .int (nI T), .int (nI t), .int (sp_cn σ n 7), .int (sp_cn σ n 1), .int (sp_cn σ n 0), .int (sp_cn σ n 5), .int (sp_nb σ 4), .int pv, .int told, v12] [] (cn, sn, J, L, xs) I F := by
  obtain ⟨⟨m1, tx, hC⟩, ⟨ok1, -⟩, -⟩ := id hi
  have hD := hC.1
  have hk1 := hC.2.1.1
  have K155 : mm_W 77 155 [.ref 1001, .ref 0, .int 1, .int (nI T), .int (nI t), .int (sp_cn σ n 7), .int (sp_cn σ n 1), .int (sp_cn σ n 0), .int (sp_cn σ n 5), .int (sp_nb σ 4), .int pv, .int told, v12] [] (cn, sn, J, L, xs) I F := by
    rcases hpv with rfl | ⟨rfl, h13⟩
    · skip
      refine w_st rfl rfl rfl trivial ?_
      refine w_z_eq rfl (fun _ => ?_) (fun z => by first | exact absurd (rfl) z | exact absurd z (rfl))
      exact l_end ih hi hc hs
    · obtain ⟨e1, e2⟩ := hp h13
      have hlw := sp_lw_lt (v := xs (3 * t + 2)) (n := 90) (by decide)
      generalize hH : 1 + sp_lw (xs (3 * t + 2)) 90 = H at *
      have hH2 : 1 ≤ H ∧ H ≤ 90 := by omega
      obtain ⟨u1, u2⟩ := p_hi_u ok hB H (by omega)
      have a1 : sp_cn σ1 n1 1 = sp_cn σ n 1 + told := by rw [e1, e2]; exact u1
      have a2 : sp_cn σ1 n1 5 = sp_cn σ n 5 + told := by rw [e1, e2]; exact sp_hi_3 H
      have a3 : sp_cn σ1 n1 0 = sp_cn σ n 0 + nI H := by rw [e2]; exact sp_hi_0 H
      refine w_st rfl rfl rfl trivial ?_
      refine w_z_eq rfl (fun z => by first | exact absurd z ((by decide : ¬ (1 : Int32) = 0)) | exact absurd ((by decide : ¬ (1 : Int32) = 0)) z) (fun _ => ?_)
      refine w_st rfl rfl rfl trivial ?_
      refine w_st rfl rfl rfl trivial ?_
      refine w_st rfl rfl rfl trivial ?_
      refine w_st rfl rfl rfl trivial ?_
      refine w_imul rfl ?_
      refine w_hd (nI_mul 3 t) ?_
      refine w_st rfl rfl rfl trivial ?_
      refine w_iadd rfl ?_
      refine w_hd (nI_add (3 * t) 2) ?_
      refine w_k21 (l_cell hL hk) rfl ⟨rfl, by decide, by decide, by decide, Or.inr (Or.inl ⟨_, rfl⟩)⟩ (Nat.le_of_ble_eq_true rfl) trivial (Nat.le_of_ble_eq_true rfl) ?_  -- calls 69 cL_cell
      refine w_st rfl rfl rfl trivial ?_
      refine w_k21 (l_low (n := 90) (by decide) (by decide)) rfl ⟨rfl, by decide, by decide, by decide, Or.inr (Or.inl ⟨_, rfl⟩)⟩ (Nat.le_of_ble_eq_true rfl) trivial (Nat.le_of_ble_eq_true rfl) ?_  -- calls 68 cL_low
      refine w_iadd rfl ?_
      refine w_hd (show 1 + nI (sp_lw (xs (3 * t + 2)) 90) = nI H from by rw [← hH]; exact nI_add 1 _) ?_
      refine w_st rfl rfl rfl (Nat.le_of_ble_eq_true rfl) ?_
      refine w_st rfl rfl rfl trivial ?_
      refine w_z_eq rfl (fun z => by first | exact absurd z ((by decide : ¬ (1 : Int32) = 0)) | exact absurd ((by decide : ¬ (1 : Int32) = 0)) z) (fun _ => ?_)
      refine w_st rfl rfl rfl trivial ?_
      refine w_st rfl rfl rfl trivial ?_
      refine w_k21 (c_count hD hk1 (show 1 < 8 by decide)) rfl ⟨rfl, by decide, by decide, by decide, Or.inl ⟨_, rfl⟩⟩ (Nat.le_of_ble_eq_true rfl) (mm_foc rfl) (Nat.le_of_ble_eq_true rfl) ?_  -- calls 38 cX4_count
      refine w_st rfl rfl rfl trivial ?_
      refine w_st rfl rfl rfl trivial ?_
      refine w_iadd rfl ?_
      refine w_v_ne rfl (fun z => by first | exact absurd z (a1) | exact absurd (a1) z) (fun _ => ?_)
      refine w_st rfl rfl rfl trivial ?_
      refine w_st rfl rfl rfl trivial ?_
      refine w_k21 (c_count hD hk1 (show 5 < 8 by decide)) rfl ⟨rfl, by decide, by decide, by decide, Or.inl ⟨_, rfl⟩⟩ (Nat.le_of_ble_eq_true rfl) (mm_foc rfl) (Nat.le_of_ble_eq_true rfl) ?_  -- calls 38 cX4_count
      refine w_st rfl rfl rfl trivial ?_
      refine w_st rfl rfl rfl trivial ?_
      refine w_iadd rfl ?_
      refine w_v_ne rfl (fun z => by first | exact absurd z (a2) | exact absurd (a2) z) (fun _ => ?_)
      refine w_st rfl rfl rfl trivial ?_
      refine w_st rfl rfl rfl trivial ?_
      refine w_k21 (c_count hD hk1 (show 0 < 8 by decide)) rfl ⟨rfl, by decide, by decide, by decide, Or.inl ⟨_, rfl⟩⟩ (Nat.le_of_ble_eq_true rfl) (mm_foc rfl) (Nat.le_of_ble_eq_true rfl) ?_  -- calls 38 cX4_count
      refine w_st rfl rfl rfl trivial ?_
      refine w_st rfl rfl rfl trivial ?_
      refine w_iadd rfl ?_
      refine w_v_ne rfl (fun z => by first | exact absurd z (a3) | exact absurd (a3) z) (fun _ => ?_)
      rcases p_told (H := H) ok (by omega) with ⟨w1, b, b1, b2, b3⟩ | ⟨w1, w2⟩
      · skip
        refine w_st rfl rfl rfl trivial ?_
        refine w_m_le (a := (sp_hi σ H).2) rfl (by first | decide | omega) (by first | rfl | assumption | (simp only [← nI_add, ← nI_mul]; rfl)) (fun c => by exfalso; omega) (fun _ => ?_)
        refine w_st rfl rfl rfl trivial ?_
        refine w_st rfl rfl rfl trivial ?_
        refine w_st rfl rfl rfl trivial ?_
        refine w_m_le (a := b) rfl (by first | decide | omega) (by first | rfl | assumption | (simp only [← nI_add, ← nI_mul]; rfl)) (fun c => by exfalso; omega) (fun _ => ?_)
        refine w_st rfl rfl rfl trivial ?_
        refine w_st rfl rfl rfl trivial ?_
        refine w_n_gt (a := b) (b := H) rfl (by first | decide | omega) (by first | decide | omega) (by first | rfl | assumption | (simp only [← nI_add, ← nI_mul]; rfl)) (by first | rfl | assumption | (simp only [← nI_add, ← nI_mul]; rfl)) (fun c => by exfalso; omega) (fun _ => ?_)
        refine w_st rfl rfl rfl trivial ?_
        refine w_st rfl rfl rfl trivial ?_
        refine w_v_ne rfl (fun z => by first | exact absurd z (rfl) | exact absurd (rfl) z) (fun _ => ?_)
        refine w_st rfl rfl rfl trivial ?_
        refine w_st rfl rfl rfl trivial ?_
        refine w_st rfl rfl rfl (Nat.le_of_ble_eq_true rfl) ?_
        exact l_end ih hi hc hs
      · rw [w1] at e1
        rcases w2 with b3 | ⟨b, b1, b2, b3⟩
        · skip
          refine w_st rfl rfl rfl trivial ?_
          refine w_m_le (a := 0) rfl (by first | decide | omega) (by first | rfl | assumption | (simp only [← nI_add, ← nI_mul]; rfl)) (fun _ => ?_) (fun c => by exfalso; omega)
          refine w_st rfl rfl rfl trivial ?_
          refine w_st rfl rfl rfl trivial ?_
          refine w_z_le rfl (fun _ => ?_) (fun z => by first | exact absurd ((by rw [b3]; decide : sp_nb σ 4 ≤ 0)) z | exact absurd z ((by rw [b3]; decide : sp_nb σ 4 ≤ 0)))
          refine w_st rfl rfl rfl trivial ?_
          refine w_v_ne rfl (fun z => by first | exact absurd z (rfl) | exact absurd (rfl) z) (fun _ => ?_)
          refine w_st rfl rfl rfl trivial ?_
          refine w_st rfl rfl rfl trivial ?_
          refine w_st rfl rfl rfl (Nat.le_of_ble_eq_true rfl) ?_
          exact l_end ih hi hc hs
        · skip
          refine w_st rfl rfl rfl trivial ?_
          refine w_m_le (a := 0) rfl (by first | decide | omega) (by first | rfl | assumption | (simp only [← nI_add, ← nI_mul]; rfl)) (fun _ => ?_) (fun c => by exfalso; omega)
          refine w_st rfl rfl rfl trivial ?_
          refine w_st rfl rfl rfl trivial ?_
          refine w_m_le (a := b) rfl (by first | decide | omega) (by first | rfl | assumption | (simp only [← nI_add, ← nI_mul]; rfl)) (fun c => by exfalso; omega) (fun _ => ?_)
          refine w_st rfl rfl rfl trivial ?_
          refine w_st rfl rfl rfl trivial ?_
          refine w_n_gt (a := b) (b := H) rfl (by first | decide | omega) (by first | decide | omega) (by first | rfl | assumption | (simp only [← nI_add, ← nI_mul]; rfl)) (by first | rfl | assumption | (simp only [← nI_add, ← nI_mul]; rfl)) (fun _ => ?_) (fun c => by exfalso; omega)
          refine w_st rfl rfl rfl trivial ?_
          refine w_v_ne rfl (fun z => by first | exact absurd z (rfl) | exact absurd (rfl) z) (fun _ => ?_)
          refine w_st rfl rfl rfl trivial ?_
          refine w_st rfl rfl rfl trivial ?_
          refine w_st rfl rfl rfl (Nat.le_of_ble_eq_true rfl) ?_
          exact l_end ih hi hc hs
  rcases ht with ⟨tt, tt1, tt2⟩ | ⟨rfl, rfl, rfl⟩
  · skip
    refine w_st rfl rfl rfl trivial ?_
    refine w_m_ge (a := tt) rfl (by first | decide | omega) (by first | rfl | assumption | (simp only [← nI_add, ← nI_mul]; rfl)) ?_
    refine w_st rfl rfl rfl trivial ?_
    refine w_st rfl rfl rfl trivial ?_
    refine w_st rfl rfl rfl (Nat.le_of_ble_eq_true rfl) ?_
    exact K155
  · skip
    refine w_st rfl rfl rfl trivial ?_
    refine w_z_ge rfl (fun z => by first | exact absurd z ((by decide : ¬ (0 : Int32) ≤ -3)) | exact absurd ((by decide : ¬ (0 : Int32) ≤ -3)) z) (fun _ => ?_)
    refine w_st rfl rfl rfl trivial ?_
    refine w_st rfl rfl rfl trivial ?_
    refine w_k21 (c_count hD hk1 (show 7 < 8 by decide)) rfl ⟨rfl, by decide, by decide, by decide, Or.inl ⟨_, rfl⟩⟩ (Nat.le_of_ble_eq_true rfl) (mm_foc rfl) (Nat.le_of_ble_eq_true rfl) ?_  -- calls 38 cX4_count
    refine w_st rfl rfl rfl trivial ?_
    refine w_v_ne rfl (fun z => by first | exact absurd z (rfl) | exact absurd (rfl) z) (fun _ => ?_)
    refine w_st rfl rfl rfl trivial ?_
    refine w_st rfl rfl rfl trivial ?_
    refine w_k21 (c_count hD hk1 (show 1 < 8 by decide)) rfl ⟨rfl, by decide, by decide, by decide, Or.inl ⟨_, rfl⟩⟩ (Nat.le_of_ble_eq_true rfl) (mm_foc rfl) (Nat.le_of_ble_eq_true rfl) ?_  -- calls 38 cX4_count
    refine w_st rfl rfl rfl trivial ?_
    refine w_v_ne rfl (fun z => by first | exact absurd z (rfl) | exact absurd (rfl) z) (fun _ => ?_)
    refine w_st rfl rfl rfl trivial ?_
    refine w_st rfl rfl rfl trivial ?_
    refine w_k21 (c_count hD hk1 (show 0 < 8 by decide)) rfl ⟨rfl, by decide, by decide, by decide, Or.inl ⟨_, rfl⟩⟩ (Nat.le_of_ble_eq_true rfl) (mm_foc rfl) (Nat.le_of_ble_eq_true rfl) ?_  -- calls 38 cX4_count
    refine w_st rfl rfl rfl trivial ?_
    refine w_v_ne rfl (fun z => by first | exact absurd z (rfl) | exact absurd (rfl) z) (fun _ => ?_)
    refine w_st rfl rfl rfl trivial ?_
    refine w_st rfl rfl rfl trivial ?_
    refine w_st rfl rfl rfl (Nat.le_of_ble_eq_true rfl) ?_
    exact K155
theorem l_loop (hL : L ≤ 260) (hT : T ≤ 30) (hT3 : 3 * T ≤ L) : ∀ t, t ≤ T → law_H L xs T t (law_F 91 957) := by
  refine mm_dn T ?_ ?_
  · intro cn sn J I σ n ps v5 v6 v7 v8 v9 v10 v11 v12 hi hc hs
    generalize hF : law_F 91 957 = F
    refine w_st rfl rfl rfl trivial ?_
    refine w_st rfl rfl rfl trivial ?_
    refine w_n_ge (a := T) (b := T) rfl (by first | decide | omega) (by first | decide | omega) (by first | rfl | assumption | (simp only [← nI_add, ← nI_mul]; rfl)) (by first | rfl | assumption | (simp only [← nI_add, ← nI_mul]; rfl)) (fun _ => ?_) (fun c => by exfalso; omega)
    refine w_st rfl rfl rfl trivial ?_
    refine w_retz rfl (by first | exact Or.inl rfl | exact Or.inr rfl | exact mm_bi_01 _ | assumption) ?_
    exact hF ▸ ⟨rfl, by show cn ≤ _; omega, by show sn ≤ _; omega⟩
  · intro t ht ih cn sn J I σ n ps v5 v6 v7 v8 v9 v10 v11 v12 hi hc hs
    have hk : 3 * t + 2 < L := by omega
    obtain ⟨⟨m, tx, hC⟩, ⟨ok, N, hN, h0⟩, okp⟩ := id hi
    have hD := hC.1
    have hk1 := hC.2.1.1
    have h16 := sp_lw_lt (v := xs (3 * t)) (n := 16) (by decide)
    obtain ⟨told, cn1, sn1, I1, σ1, n1, ps1, hM, hc1, hs1, hi1, hto, hps⟩ := l_act (cn := cn) (sn := sn) (J := J) (xs := xs) (k := 3 * t) hL hk hi (by omega)
    have hi2 : sp_iv (90 * (t + 1)) I1 σ1 n1 ps1 := by rw [show 90 * (t + 1) = 90 * t + 90 from by omega]; exact hi1
    have K : ∀ pv, pv = 0 ∨ (pv = 1 ∧ 13 < sp_lw (xs (3 * t)) 16) → mm_W 77 102 [.ref 1001, .ref 0, .int 1, .int (nI T), .int (nI t), .int (sp_cn σ n 7), .int (sp_cn σ n 1), .int (sp_cn σ n 0), .int (sp_cn σ n 5), .int (sp_nb σ 4), .int pv, v11, v12] [] (cn, sn, J, L, xs) I (law_F 91 957) := by
      intro pv hpv
      refine w_st rfl rfl rfl trivial ?_
      refine w_st rfl rfl rfl trivial ?_
      refine w_st rfl rfl rfl trivial ?_
      refine w_st rfl rfl rfl trivial ?_
      refine w_imul rfl ?_
      refine w_hd (nI_mul 3 t) ?_
      refine w_k31 (hM) rfl ⟨rfl, by decide, by decide, by decide, Or.inr (Or.inl ⟨_, rfl⟩)⟩ (Nat.le_of_ble_eq_true rfl) trivial (Nat.le_of_ble_eq_true rfl) ?_  -- calls 76 cL_act
      refine w_st rfl rfl rfl (Nat.le_of_ble_eq_true rfl) ?_
      exact l_mid (σ := σ) (n := n) hL hk ih ok h0 (by omega) hi2 (by omega) (by omega) hto hps pv hpv
    refine w_st rfl rfl rfl trivial ?_
    refine w_st rfl rfl rfl trivial ?_
    refine w_n_ge (a := t) (b := T) rfl (by first | decide | omega) (by first | decide | omega) (by first | rfl | assumption | (simp only [← nI_add, ← nI_mul]; rfl)) (by first | rfl | assumption | (simp only [← nI_add, ← nI_mul]; rfl)) (fun c => by exfalso; omega) (fun _ => ?_)
    refine w_st rfl rfl rfl trivial ?_
    refine w_z_eq rfl (fun z => by first | exact absurd z ((by decide : ¬ (1 : Int32) = 0)) | exact absurd ((by decide : ¬ (1 : Int32) = 0)) z) (fun _ => ?_)
    refine w_st rfl rfl rfl trivial ?_
    refine w_st rfl rfl rfl trivial ?_
    refine w_k21 (c_count hD hk1 (show 7 < 8 by decide)) rfl ⟨rfl, by decide, by decide, by decide, Or.inl ⟨_, rfl⟩⟩ (Nat.le_of_ble_eq_true rfl) (mm_foc rfl) (Nat.le_of_ble_eq_true rfl) ?_  -- calls 38 cX4_count
    refine w_st rfl rfl rfl (Nat.le_of_ble_eq_true rfl) ?_
    refine w_st rfl rfl rfl trivial ?_
    refine w_st rfl rfl rfl trivial ?_
    refine w_k21 (c_count hD hk1 (show 1 < 8 by decide)) rfl ⟨rfl, by decide, by decide, by decide, Or.inl ⟨_, rfl⟩⟩ (Nat.le_of_ble_eq_true rfl) (mm_foc rfl) (Nat.le_of_ble_eq_true rfl) ?_  -- calls 38 cX4_count
    refine w_st rfl rfl rfl (Nat.le_of_ble_eq_true rfl) ?_
    refine w_st rfl rfl rfl trivial ?_
    refine w_st rfl rfl rfl trivial ?_
    refine w_k21 (c_count hD hk1 (show 0 < 8 by decide)) rfl ⟨rfl, by decide, by decide, by decide, Or.inl ⟨_, rfl⟩⟩ (Nat.le_of_ble_eq_true rfl) (mm_foc rfl) (Nat.le_of_ble_eq_true rfl) ?_  -- calls 38 cX4_count
    refine w_st rfl rfl rfl (Nat.le_of_ble_eq_true rfl) ?_
    refine w_st rfl rfl rfl trivial ?_
    refine w_st rfl rfl rfl trivial ?_
    refine w_k21 (c_count hD hk1 (show 5 < 8 by decide)) rfl ⟨rfl, by decide, by decide, by decide, Or.inl ⟨_, rfl⟩⟩ (Nat.le_of_ble_eq_true rfl) (mm_foc rfl) (Nat.le_of_ble_eq_true rfl) ?_  -- calls 38 cX4_count
    refine w_st rfl rfl rfl (Nat.le_of_ble_eq_true rfl) ?_
    refine w_st rfl rfl rfl trivial ?_
    refine w_k11 (c_nextBurn hD) rfl ⟨rfl, by decide, by decide, by decide, Or.inl ⟨_, rfl⟩⟩ (Nat.le_of_ble_eq_true rfl) (mm_foc rfl) (Nat.le_of_ble_eq_true rfl) ?_  -- calls 42 cX4_nextBurn
    refine w_st rfl rfl rfl (Nat.le_of_ble_eq_true rfl) ?_
    refine w_st rfl rfl rfl trivial ?_
    refine w_st rfl rfl rfl trivial ?_
    refine w_st rfl rfl rfl trivial ?_
    refine w_imul rfl ?_
    refine w_hd (nI_mul 3 t) ?_
    refine w_k21 (l_cell hL (show 3 * t < L by omega)) rfl ⟨rfl, by decide, by decide, by decide, Or.inr (Or.inl ⟨_, rfl⟩)⟩ (Nat.le_of_ble_eq_true rfl) trivial (Nat.le_of_ble_eq_true rfl) ?_  -- calls 69 cL_cell
    refine w_st rfl rfl rfl trivial ?_
    refine w_k21 (l_low (n := 16) (by decide) (by decide)) rfl ⟨rfl, by decide, by decide, by decide, Or.inr (Or.inl ⟨_, rfl⟩)⟩ (Nat.le_of_ble_eq_true rfl) trivial (Nat.le_of_ble_eq_true rfl) ?_  -- calls 68 cL_low
    refine w_st rfl rfl rfl trivial ?_
    refine w_n_le (a := sp_lw (xs (3 * t)) 16) (b := 13) rfl (by first | decide | omega) (by first | decide | omega) (by first | rfl | assumption | (simp only [← nI_add, ← nI_mul]; rfl)) (by first | rfl | assumption | (simp only [← nI_add, ← nI_mul]; rfl)) (fun cp => ?_) (fun cp => ?_)
    · skip
      refine w_st rfl rfl rfl trivial ?_
      refine w_st rfl rfl rfl (Nat.le_of_ble_eq_true rfl) ?_
      exact K 0 (Or.inl rfl)
    · skip
      refine w_st rfl rfl rfl trivial ?_
      refine w_st rfl rfl rfl trivial ?_
      refine w_st rfl rfl rfl (Nat.le_of_ble_eq_true rfl) ?_
      exact K 1 (Or.inr ⟨rfl, cp⟩)
end SM
