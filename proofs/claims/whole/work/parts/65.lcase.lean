/-! the law's cases -/
theorem w_lz {mi pc np : Nat} {ls st : List Value} {I : mm_Is} {F : mm_Ph} {v : Value} {a : List Nat} {cn sn L : Nat} {J : Nat → Nat → Int64} {xs : Nat → Int32} {x : Int32} {y : Int64} (he : mm_code mi pc = some (.laload, np, v, a)) (hx : x = nI 0) (hv : J 70 0 = y) (K : mm_W mi np ls (.long y :: st) (cn, sn, J, L, xs) I F) : mm_W mi pc ls (.int x :: .ref 70 :: st) (cn, sn, J, L, xs) I F := by
  subst hv
  exact w_ll 0 he (mm_fac (n := 1) rfl) hx (by decide) K
theorem sp_cl_z : ∀ m, m < 41 → Op.cmpValue (FP.dcmp (sp_cl m) (sp_cl m)) .l = 0 := by decide +kernel
def law_H (L : Nat) (xs : Nat → Int32) (A B i : Nat) (F : mm_Ph) : Prop := ∀ cn sn J I v5 v6 v7 v8, sp_Jn I → 4 * cn ≤ A + i → 4 * sn ≤ B + 6 * i → mm_W 174 23 [.ref 1001, .ref 0, .ref 61, .ref 70, .int (nI i), v5, v6, v7, v8] [] (cn, sn, J, L, xs) I F
section SM
variable {cn sn L A B i : Nat} {J : Nat → Nat → Int64} {xs : Nat → Int32} {I : mm_Is} {F : mm_Ph} {v5 v6 v7 v8 : Value}
theorem l_show (hJ : sp_Jn I) (hi : i + 4 ≤ L) (hL : L ≤ 2048) (hc : 4 * cn ≤ A + i) (hs : 4 * sn ≤ B + 6 * i) (ih : law_H L xs A B (i + 4) F) : mm_W 174 144 [.ref 1001, .ref 0, .ref 61, .ref 70, .int (nI i), v5, v6, v7, v8] [] (cn, sn, J, L, xs) I F := by
  obtain ⟨k, cn1, sn1, J1, I1, b, I2, hk, hM, c1, s1, hR, h6, hq, hJ2⟩ := j_show (cn := cn) (sn := sn) (J := J) (L := L) (xs := xs) (x := xs (i + 1)) (y := xs (i + 2)) hJ
  refine w_st rfl rfl rfl trivial ?_
  refine w_st rfl rfl rfl trivial ?_
  refine w_st rfl rfl rfl trivial ?_
  refine w_st rfl rfl rfl trivial ?_
  refine w_iadd rfl ?_
  refine w_sy (i + 1) rfl (nI_add i 1) (by first | decide | omega) hL ?_
  refine w_st rfl rfl rfl trivial ?_
  refine w_st rfl rfl rfl trivial ?_
  refine w_st rfl rfl rfl trivial ?_
  refine w_iadd rfl ?_
  refine w_sy (i + 2) rfl (nI_add i 2) (by first | decide | omega) hL ?_
  refine w_st rfl rfl rfl trivial ?_
  refine w_k41 (hM) rfl ⟨rfl, by decide, by decide, by decide, Or.inr (Or.inl ⟨_, rfl⟩)⟩ (Nat.le_of_ble_eq_true rfl) trivial (Nat.le_of_ble_eq_true rfl) ?_  -- calls 156 cL_show
  refine w_st rfl rfl rfl (Nat.le_of_ble_eq_true rfl) ?_
  refine w_st rfl rfl rfl trivial ?_
  refine w_st rfl rfl rfl trivial ?_
  refine w_st rfl rfl rfl trivial ?_
  refine w_st rfl rfl rfl trivial ?_
  refine w_iadd rfl ?_
  refine w_sy (i + 1) rfl (nI_add i 1) (by first | decide | omega) hL ?_
  refine w_st rfl rfl rfl trivial ?_
  refine w_st rfl rfl rfl trivial ?_
  refine w_st rfl rfl rfl trivial ?_
  refine w_iadd rfl ?_
  refine w_sy (i + 2) rfl (nI_add i 2) (by first | decide | omega) hL ?_
  refine w_k31 (hR) rfl ⟨rfl, by decide, by decide, by decide, Or.inl ⟨_, rfl⟩⟩ (Nat.le_of_ble_eq_true rfl) (mm_foc rfl) (Nat.le_of_ble_eq_true rfl) ?_  -- calls 108 cX5_show
  refine w_st rfl rfl rfl (Nat.le_of_ble_eq_true rfl) ?_
  refine w_st rfl rfl rfl trivial ?_
  refine w_k11 (r_thrown h6) rfl ⟨rfl, by decide, by decide, by decide, Or.inl ⟨_, rfl⟩⟩ (Nat.le_of_ble_eq_true rfl) (mm_foc rfl) (Nat.le_of_ble_eq_true rfl) ?_  -- calls 88 cX5_thrown
  refine w_st rfl rfl rfl trivial ?_
  refine w_v_eq rfl (fun _ => ?_) (fun z => by first | exact absurd (rfl) z | exact absurd z (rfl))
  refine w_st rfl rfl rfl trivial ?_
  refine w_m_ne (a := k) rfl (by first | decide | omega) (by first | rfl | assumption | (simp only [← nI_add, ← nI_mul]; rfl)) (fun c => ?_) (fun c => ?_)
  · skip
    refine w_st rfl rfl rfl trivial ?_
    refine w_inc rfl rfl rfl (Nat.le_of_ble_eq_true rfl) (nI_4 _) ?_
    refine w_st rfl rfl rfl trivial ?_
    exact ih cn1 sn1 J1 I2 _ _ _ _ hJ2 (by omega) (by omega)
  · skip
    refine w_st rfl rfl rfl trivial ?_
    refine w_st rfl rfl rfl trivial ?_
    refine w_lz rfl rfl (hq c) ?_
    refine w_st rfl rfl rfl trivial ?_
    refine w_st rfl rfl rfl trivial ?_
    refine w_st rfl rfl rfl trivial ?_
    refine w_z_eq rfl (fun _ => ?_) (fun z => by first | exact absurd ((lg_cmp_eq _ _).2 rfl) z | exact absurd z ((lg_cmp_eq _ _).2 rfl))
    refine w_st rfl rfl rfl trivial ?_
    refine w_inc rfl rfl rfl (Nat.le_of_ble_eq_true rfl) (nI_4 _) ?_
    refine w_st rfl rfl rfl trivial ?_
    exact ih cn1 sn1 J1 I2 _ _ _ _ hJ2 (by omega) (by omega)
theorem l_number (hJ : sp_Jn I) (hi : i + 4 ≤ L) (hL : L ≤ 2048) (hc : 4 * cn ≤ A + i) (hs : 4 * sn ≤ B + 6 * i) (ih : law_H L xs A B (i + 4) F) : mm_W 174 212 [.ref 1001, .ref 0, .ref 61, .ref 70, .int (nI i), v5, v6, v7, v8] [] (cn, sn, J, L, xs) I F := by
  obtain ⟨k, cn1, sn1, J1, I1, b, I2, hk, hM, c1, s1, hR, h6, hq, hJ2⟩ := j_number (cn := cn) (sn := sn) (J := J) (L := L) (xs := xs) (x := xs (i + 1)) hJ
  refine w_st rfl rfl rfl trivial ?_
  refine w_st rfl rfl rfl trivial ?_
  refine w_st rfl rfl rfl trivial ?_
  refine w_st rfl rfl rfl trivial ?_
  refine w_iadd rfl ?_
  refine w_sy (i + 1) rfl (nI_add i 1) (by first | decide | omega) hL ?_
  refine w_st rfl rfl rfl trivial ?_
  refine w_k31 (hM) rfl ⟨rfl, by decide, by decide, by decide, Or.inr (Or.inl ⟨_, rfl⟩)⟩ (Nat.le_of_ble_eq_true rfl) trivial (Nat.le_of_ble_eq_true rfl) ?_  -- calls 157 cL_number
  refine w_st rfl rfl rfl (Nat.le_of_ble_eq_true rfl) ?_
  refine w_st rfl rfl rfl trivial ?_
  refine w_st rfl rfl rfl trivial ?_
  refine w_st rfl rfl rfl trivial ?_
  refine w_st rfl rfl rfl trivial ?_
  refine w_iadd rfl ?_
  refine w_sy (i + 1) rfl (nI_add i 1) (by first | decide | omega) hL ?_
  refine w_k21 (hR) rfl ⟨rfl, by decide, by decide, by decide, Or.inl ⟨_, rfl⟩⟩ (Nat.le_of_ble_eq_true rfl) (mm_foc rfl) (Nat.le_of_ble_eq_true rfl) ?_  -- calls 111 cX5_number
  refine w_st rfl rfl rfl (Nat.le_of_ble_eq_true rfl) ?_
  refine w_st rfl rfl rfl trivial ?_
  refine w_k11 (r_thrown h6) rfl ⟨rfl, by decide, by decide, by decide, Or.inl ⟨_, rfl⟩⟩ (Nat.le_of_ble_eq_true rfl) (mm_foc rfl) (Nat.le_of_ble_eq_true rfl) ?_  -- calls 88 cX5_thrown
  refine w_st rfl rfl rfl trivial ?_
  refine w_v_eq rfl (fun _ => ?_) (fun z => by first | exact absurd (rfl) z | exact absurd z (rfl))
  refine w_st rfl rfl rfl trivial ?_
  refine w_m_ne (a := k) rfl (by first | decide | omega) (by first | rfl | assumption | (simp only [← nI_add, ← nI_mul]; rfl)) (fun c => ?_) (fun c => ?_)
  · skip
    refine w_st rfl rfl rfl trivial ?_
    refine w_inc rfl rfl rfl (Nat.le_of_ble_eq_true rfl) (nI_4 _) ?_
    refine w_st rfl rfl rfl trivial ?_
    exact ih cn1 sn1 J1 I2 _ _ _ _ hJ2 (by omega) (by omega)
  · skip
    refine w_st rfl rfl rfl trivial ?_
    refine w_st rfl rfl rfl trivial ?_
    refine w_lz rfl rfl (hq c) ?_
    refine w_st rfl rfl rfl trivial ?_
    refine w_st rfl rfl rfl trivial ?_
    refine w_st rfl rfl rfl trivial ?_
    refine w_z_eq rfl (fun _ => ?_) (fun z => by first | exact absurd ((lg_cmp_eq _ _).2 rfl) z | exact absurd z ((lg_cmp_eq _ _).2 rfl))
    refine w_st rfl rfl rfl trivial ?_
    refine w_inc rfl rfl rfl (Nat.le_of_ble_eq_true rfl) (nI_4 _) ?_
    refine w_st rfl rfl rfl trivial ?_
    exact ih cn1 sn1 J1 I2 _ _ _ _ hJ2 (by omega) (by omega)
theorem l_lamp (hJ : sp_Jn I) (hi : i + 4 ≤ L) (hL : L ≤ 2048) (hc : 4 * cn ≤ A + i) (hs : 4 * sn ≤ B + 6 * i) (ih : law_H L xs A B (i + 4) F) : mm_W 174 268 [.ref 1001, .ref 0, .ref 61, .ref 70, .int (nI i), v5, v6, v7, v8] [] (cn, sn, J, L, xs) I F := by
  by_cases hz : xs (i + 3) = 0
  · obtain ⟨k, cn1, sn1, J1, I1, b, I2, hk, hM, c1, s1, hR, h6, hq, hJ2⟩ := j_lamp (cn := cn) (sn := sn) (J := J) (L := L) (xs := xs) (x := xs (i + 1)) (y := xs (i + 2)) hJ false
    refine w_st rfl rfl rfl trivial ?_
    refine w_st rfl rfl rfl trivial ?_
    refine w_st rfl rfl rfl trivial ?_
    refine w_st rfl rfl rfl trivial ?_
    refine w_iadd rfl ?_
    refine w_sy (i + 1) rfl (nI_add i 1) (by first | decide | omega) hL ?_
    refine w_st rfl rfl rfl trivial ?_
    refine w_st rfl rfl rfl trivial ?_
    refine w_st rfl rfl rfl trivial ?_
    refine w_iadd rfl ?_
    refine w_sy (i + 2) rfl (nI_add i 2) (by first | decide | omega) hL ?_
    refine w_st rfl rfl rfl trivial ?_
    refine w_st rfl rfl rfl trivial ?_
    refine w_st rfl rfl rfl trivial ?_
    refine w_iadd rfl ?_
    refine w_sy (i + 3) rfl (nI_add i 3) (by first | decide | omega) hL ?_
    refine w_z_eq rfl (fun _ => ?_) (fun z => by first | exact absurd (hz) z | exact absurd z (hz))
    refine w_st rfl rfl rfl trivial ?_
    refine w_st rfl rfl rfl trivial ?_
    refine w_k51 (hM) rfl ⟨rfl, by decide, by decide, by decide, Or.inr (Or.inl ⟨_, rfl⟩)⟩ (Nat.le_of_ble_eq_true rfl) trivial (Nat.le_of_ble_eq_true rfl) ?_  -- calls 158 cL_lamp
    refine w_st rfl rfl rfl (Nat.le_of_ble_eq_true rfl) ?_
    refine w_st rfl rfl rfl trivial ?_
    refine w_st rfl rfl rfl trivial ?_
    refine w_st rfl rfl rfl trivial ?_
    refine w_st rfl rfl rfl trivial ?_
    refine w_iadd rfl ?_
    refine w_sy (i + 1) rfl (nI_add i 1) (by first | decide | omega) hL ?_
    refine w_st rfl rfl rfl trivial ?_
    refine w_st rfl rfl rfl trivial ?_
    refine w_st rfl rfl rfl trivial ?_
    refine w_iadd rfl ?_
    refine w_sy (i + 2) rfl (nI_add i 2) (by first | decide | omega) hL ?_
    refine w_st rfl rfl rfl trivial ?_
    refine w_st rfl rfl rfl trivial ?_
    refine w_st rfl rfl rfl trivial ?_
    refine w_iadd rfl ?_
    refine w_sy (i + 3) rfl (nI_add i 3) (by first | decide | omega) hL ?_
    refine w_z_eq rfl (fun _ => ?_) (fun z => by first | exact absurd (hz) z | exact absurd z (hz))
    refine w_st rfl rfl rfl trivial ?_
    refine w_k41 (hR) rfl ⟨rfl, by decide, by decide, by decide, Or.inl ⟨_, rfl⟩⟩ (Nat.le_of_ble_eq_true rfl) (mm_foc rfl) (Nat.le_of_ble_eq_true rfl) ?_  -- calls 113 cX5_lamp
    refine w_st rfl rfl rfl (Nat.le_of_ble_eq_true rfl) ?_
    refine w_st rfl rfl rfl trivial ?_
    refine w_k11 (r_thrown h6) rfl ⟨rfl, by decide, by decide, by decide, Or.inl ⟨_, rfl⟩⟩ (Nat.le_of_ble_eq_true rfl) (mm_foc rfl) (Nat.le_of_ble_eq_true rfl) ?_  -- calls 88 cX5_thrown
    refine w_st rfl rfl rfl trivial ?_
    refine w_v_eq rfl (fun _ => ?_) (fun z => by first | exact absurd (rfl) z | exact absurd z (rfl))
    refine w_st rfl rfl rfl trivial ?_
    refine w_m_ne (a := k) rfl (by first | decide | omega) (by first | rfl | assumption | (simp only [← nI_add, ← nI_mul]; rfl)) (fun c => ?_) (fun c => ?_)
    · skip
      refine w_st rfl rfl rfl trivial ?_
      refine w_inc rfl rfl rfl (Nat.le_of_ble_eq_true rfl) (nI_4 _) ?_
      refine w_st rfl rfl rfl trivial ?_
      exact ih cn1 sn1 J1 I2 _ _ _ _ hJ2 (by omega) (by omega)
    · skip
      refine w_st rfl rfl rfl trivial ?_
      refine w_st rfl rfl rfl trivial ?_
      refine w_lz rfl rfl (hq c) ?_
      refine w_st rfl rfl rfl trivial ?_
      refine w_st rfl rfl rfl trivial ?_
      refine w_st rfl rfl rfl trivial ?_
      refine w_z_eq rfl (fun _ => ?_) (fun z => by first | exact absurd ((lg_cmp_eq _ _).2 rfl) z | exact absurd z ((lg_cmp_eq _ _).2 rfl))
      refine w_st rfl rfl rfl trivial ?_
      refine w_inc rfl rfl rfl (Nat.le_of_ble_eq_true rfl) (nI_4 _) ?_
      refine w_st rfl rfl rfl trivial ?_
      exact ih cn1 sn1 J1 I2 _ _ _ _ hJ2 (by omega) (by omega)
  · obtain ⟨k, cn1, sn1, J1, I1, b, I2, hk, hM, c1, s1, hR, h6, hq, hJ2⟩ := j_lamp (cn := cn) (sn := sn) (J := J) (L := L) (xs := xs) (x := xs (i + 1)) (y := xs (i + 2)) hJ true
    refine w_st rfl rfl rfl trivial ?_
    refine w_st rfl rfl rfl trivial ?_
    refine w_st rfl rfl rfl trivial ?_
    refine w_st rfl rfl rfl trivial ?_
    refine w_iadd rfl ?_
    refine w_sy (i + 1) rfl (nI_add i 1) (by first | decide | omega) hL ?_
    refine w_st rfl rfl rfl trivial ?_
    refine w_st rfl rfl rfl trivial ?_
    refine w_st rfl rfl rfl trivial ?_
    refine w_iadd rfl ?_
    refine w_sy (i + 2) rfl (nI_add i 2) (by first | decide | omega) hL ?_
    refine w_st rfl rfl rfl trivial ?_
    refine w_st rfl rfl rfl trivial ?_
    refine w_st rfl rfl rfl trivial ?_
    refine w_iadd rfl ?_
    refine w_sy (i + 3) rfl (nI_add i 3) (by first | decide | omega) hL ?_
    refine w_z_eq rfl (fun z => by first | exact absurd z (hz) | exact absurd (hz) z) (fun _ => ?_)
    refine w_st rfl rfl rfl trivial ?_
    refine w_st rfl rfl rfl trivial ?_
    refine w_st rfl rfl rfl trivial ?_
    refine w_k51 (hM) rfl ⟨rfl, by decide, by decide, by decide, Or.inr (Or.inl ⟨_, rfl⟩)⟩ (Nat.le_of_ble_eq_true rfl) trivial (Nat.le_of_ble_eq_true rfl) ?_  -- calls 158 cL_lamp
    refine w_st rfl rfl rfl (Nat.le_of_ble_eq_true rfl) ?_
    refine w_st rfl rfl rfl trivial ?_
    refine w_st rfl rfl rfl trivial ?_
    refine w_st rfl rfl rfl trivial ?_
    refine w_st rfl rfl rfl trivial ?_
    refine w_iadd rfl ?_
    refine w_sy (i + 1) rfl (nI_add i 1) (by first | decide | omega) hL ?_
    refine w_st rfl rfl rfl trivial ?_
    refine w_st rfl rfl rfl trivial ?_
    refine w_st rfl rfl rfl trivial ?_
    refine w_iadd rfl ?_
    refine w_sy (i + 2) rfl (nI_add i 2) (by first | decide | omega) hL ?_
    refine w_st rfl rfl rfl trivial ?_
    refine w_st rfl rfl rfl trivial ?_
    refine w_st rfl rfl rfl trivial ?_
    refine w_iadd rfl ?_
    refine w_sy (i + 3) rfl (nI_add i 3) (by first | decide | omega) hL ?_
    refine w_z_eq rfl (fun z => by first | exact absurd z (hz) | exact absurd (hz) z) (fun _ => ?_)
    refine w_st rfl rfl rfl trivial ?_
    refine w_st rfl rfl rfl trivial ?_
    refine w_k41 (hR) rfl ⟨rfl, by decide, by decide, by decide, Or.inl ⟨_, rfl⟩⟩ (Nat.le_of_ble_eq_true rfl) (mm_foc rfl) (Nat.le_of_ble_eq_true rfl) ?_  -- calls 113 cX5_lamp
    refine w_st rfl rfl rfl (Nat.le_of_ble_eq_true rfl) ?_
    refine w_st rfl rfl rfl trivial ?_
    refine w_k11 (r_thrown h6) rfl ⟨rfl, by decide, by decide, by decide, Or.inl ⟨_, rfl⟩⟩ (Nat.le_of_ble_eq_true rfl) (mm_foc rfl) (Nat.le_of_ble_eq_true rfl) ?_  -- calls 88 cX5_thrown
    refine w_st rfl rfl rfl trivial ?_
    refine w_v_eq rfl (fun _ => ?_) (fun z => by first | exact absurd (rfl) z | exact absurd z (rfl))
    refine w_st rfl rfl rfl trivial ?_
    refine w_m_ne (a := k) rfl (by first | decide | omega) (by first | rfl | assumption | (simp only [← nI_add, ← nI_mul]; rfl)) (fun c => ?_) (fun c => ?_)
    · skip
      refine w_st rfl rfl rfl trivial ?_
      refine w_inc rfl rfl rfl (Nat.le_of_ble_eq_true rfl) (nI_4 _) ?_
      refine w_st rfl rfl rfl trivial ?_
      exact ih cn1 sn1 J1 I2 _ _ _ _ hJ2 (by omega) (by omega)
    · skip
      refine w_st rfl rfl rfl trivial ?_
      refine w_st rfl rfl rfl trivial ?_
      refine w_lz rfl rfl (hq c) ?_
      refine w_st rfl rfl rfl trivial ?_
      refine w_st rfl rfl rfl trivial ?_
      refine w_st rfl rfl rfl trivial ?_
      refine w_z_eq rfl (fun _ => ?_) (fun z => by first | exact absurd ((lg_cmp_eq _ _).2 rfl) z | exact absurd z ((lg_cmp_eq _ _).2 rfl))
      refine w_st rfl rfl rfl trivial ?_
      refine w_inc rfl rfl rfl (Nat.le_of_ble_eq_true rfl) (nI_4 _) ?_
      refine w_st rfl rfl rfl trivial ?_
      exact ih cn1 sn1 J1 I2 _ _ _ _ hJ2 (by omega) (by omega)
theorem l_mend (hJ : sp_Jn I) (hi : i + 4 ≤ L) (hL : L ≤ 2048) (hc : 4 * cn ≤ A + i) (hs : 4 * sn ≤ B + 6 * i) (ih : law_H L xs A B (i + 4) F) : mm_W 174 364 [.ref 1001, .ref 0, .ref 61, .ref 70, .int (nI i), v5, v6, v7, v8] [] (cn, sn, J, L, xs) I F := by
  obtain ⟨k, cn1, sn1, J1, I1, b, I2, hk, hM, c1, s1, hR, h6, hq, hJ2⟩ := j_mend (cn := cn) (sn := sn) (J := J) (L := L) (xs := xs) (x := xs (i + 1)) hJ
  refine w_st rfl rfl rfl trivial ?_
  refine w_st rfl rfl rfl trivial ?_
  refine w_st rfl rfl rfl trivial ?_
  refine w_st rfl rfl rfl trivial ?_
  refine w_iadd rfl ?_
  refine w_sy (i + 1) rfl (nI_add i 1) (by first | decide | omega) hL ?_
  refine w_st rfl rfl rfl trivial ?_
  refine w_k31 (hM) rfl ⟨rfl, by decide, by decide, by decide, Or.inr (Or.inl ⟨_, rfl⟩)⟩ (Nat.le_of_ble_eq_true rfl) trivial (Nat.le_of_ble_eq_true rfl) ?_  -- calls 159 cL_mend
  refine w_st rfl rfl rfl (Nat.le_of_ble_eq_true rfl) ?_
  refine w_st rfl rfl rfl trivial ?_
  refine w_st rfl rfl rfl trivial ?_
  refine w_st rfl rfl rfl trivial ?_
  refine w_st rfl rfl rfl trivial ?_
  refine w_iadd rfl ?_
  refine w_sy (i + 1) rfl (nI_add i 1) (by first | decide | omega) hL ?_
  refine w_k21 (hR) rfl ⟨rfl, by decide, by decide, by decide, Or.inl ⟨_, rfl⟩⟩ (Nat.le_of_ble_eq_true rfl) (mm_foc rfl) (Nat.le_of_ble_eq_true rfl) ?_  -- calls 114 cX5_mend
  refine w_st rfl rfl rfl (Nat.le_of_ble_eq_true rfl) ?_
  refine w_st rfl rfl rfl trivial ?_
  refine w_k11 (r_thrown h6) rfl ⟨rfl, by decide, by decide, by decide, Or.inl ⟨_, rfl⟩⟩ (Nat.le_of_ble_eq_true rfl) (mm_foc rfl) (Nat.le_of_ble_eq_true rfl) ?_  -- calls 88 cX5_thrown
  refine w_st rfl rfl rfl trivial ?_
  refine w_v_eq rfl (fun _ => ?_) (fun z => by first | exact absurd (rfl) z | exact absurd z (rfl))
  refine w_st rfl rfl rfl trivial ?_
  refine w_m_ne (a := k) rfl (by first | decide | omega) (by first | rfl | assumption | (simp only [← nI_add, ← nI_mul]; rfl)) (fun c => ?_) (fun c => ?_)
  · skip
    refine w_st rfl rfl rfl trivial ?_
    refine w_inc rfl rfl rfl (Nat.le_of_ble_eq_true rfl) (nI_4 _) ?_
    refine w_st rfl rfl rfl trivial ?_
    exact ih cn1 sn1 J1 I2 _ _ _ _ hJ2 (by omega) (by omega)
  · skip
    refine w_st rfl rfl rfl trivial ?_
    refine w_st rfl rfl rfl trivial ?_
    refine w_lz rfl rfl (hq c) ?_
    refine w_st rfl rfl rfl trivial ?_
    refine w_st rfl rfl rfl trivial ?_
    refine w_st rfl rfl rfl trivial ?_
    refine w_z_eq rfl (fun _ => ?_) (fun z => by first | exact absurd ((lg_cmp_eq _ _).2 rfl) z | exact absurd z ((lg_cmp_eq _ _).2 rfl))
    refine w_st rfl rfl rfl trivial ?_
    refine w_inc rfl rfl rfl (Nat.le_of_ble_eq_true rfl) (nI_4 _) ?_
    refine w_st rfl rfl rfl trivial ?_
    exact ih cn1 sn1 J1 I2 _ _ _ _ hJ2 (by omega) (by omega)
theorem l_pass (hJ : sp_Jn I) (hi : i + 4 ≤ L) (hL : L ≤ 2048) (hc : 4 * cn ≤ A + i) (hs : 4 * sn ≤ B + 6 * i) (ih : law_H L xs A B (i + 4) F) : mm_W 174 420 [.ref 1001, .ref 0, .ref 61, .ref 70, .int (nI i), v5, v6, v7, v8] [] (cn, sn, J, L, xs) I F := by
  obtain ⟨k, cn1, sn1, J1, I1, b, I2, hk, hM, c1, s1, hR, h6, hq, hJ2⟩ := j_pass (cn := cn) (sn := sn) (J := J) (L := L) (xs := xs) (x := xs (i + 1)) hJ
  refine w_st rfl rfl rfl trivial ?_
  refine w_st rfl rfl rfl trivial ?_
  refine w_st rfl rfl rfl trivial ?_
  refine w_st rfl rfl rfl trivial ?_
  refine w_iadd rfl ?_
  refine w_sy (i + 1) rfl (nI_add i 1) (by first | decide | omega) hL ?_
  refine w_st rfl rfl rfl trivial ?_
  refine w_k31 (hM) rfl ⟨rfl, by decide, by decide, by decide, Or.inr (Or.inl ⟨_, rfl⟩)⟩ (Nat.le_of_ble_eq_true rfl) trivial (Nat.le_of_ble_eq_true rfl) ?_  -- calls 160 cL_pass
  refine w_st rfl rfl rfl (Nat.le_of_ble_eq_true rfl) ?_
  refine w_st rfl rfl rfl trivial ?_
  refine w_st rfl rfl rfl trivial ?_
  refine w_st rfl rfl rfl trivial ?_
  refine w_st rfl rfl rfl trivial ?_
  refine w_iadd rfl ?_
  refine w_sy (i + 1) rfl (nI_add i 1) (by first | decide | omega) hL ?_
  refine w_k21 (hR) rfl ⟨rfl, by decide, by decide, by decide, Or.inl ⟨_, rfl⟩⟩ (Nat.le_of_ble_eq_true rfl) (mm_foc rfl) (Nat.le_of_ble_eq_true rfl) ?_  -- calls 117 cX5_pass
  refine w_st rfl rfl rfl (Nat.le_of_ble_eq_true rfl) ?_
  refine w_st rfl rfl rfl trivial ?_
  refine w_k11 (r_thrown h6) rfl ⟨rfl, by decide, by decide, by decide, Or.inl ⟨_, rfl⟩⟩ (Nat.le_of_ble_eq_true rfl) (mm_foc rfl) (Nat.le_of_ble_eq_true rfl) ?_  -- calls 88 cX5_thrown
  refine w_st rfl rfl rfl trivial ?_
  refine w_v_eq rfl (fun _ => ?_) (fun z => by first | exact absurd (rfl) z | exact absurd z (rfl))
  refine w_st rfl rfl rfl trivial ?_
  refine w_m_ne (a := k) rfl (by first | decide | omega) (by first | rfl | assumption | (simp only [← nI_add, ← nI_mul]; rfl)) (fun c => ?_) (fun c => ?_)
  · skip
    refine w_st rfl rfl rfl trivial ?_
    refine w_inc rfl rfl rfl (Nat.le_of_ble_eq_true rfl) (nI_4 _) ?_
    refine w_st rfl rfl rfl trivial ?_
    exact ih cn1 sn1 J1 I2 _ _ _ _ hJ2 (by omega) (by omega)
  · skip
    refine w_st rfl rfl rfl trivial ?_
    refine w_st rfl rfl rfl trivial ?_
    refine w_lz rfl rfl (hq c) ?_
    refine w_st rfl rfl rfl trivial ?_
    refine w_st rfl rfl rfl trivial ?_
    refine w_st rfl rfl rfl trivial ?_
    refine w_z_eq rfl (fun _ => ?_) (fun z => by first | exact absurd ((lg_cmp_eq _ _).2 rfl) z | exact absurd z ((lg_cmp_eq _ _).2 rfl))
    refine w_st rfl rfl rfl trivial ?_
    refine w_inc rfl rfl rfl (Nat.le_of_ble_eq_true rfl) (nI_4 _) ?_
    refine w_st rfl rfl rfl trivial ?_
    exact ih cn1 sn1 J1 I2 _ _ _ _ hJ2 (by omega) (by omega)
theorem l_set (hJ : sp_Jn I) (hi : i + 4 ≤ L) (hL : L ≤ 2048) (hc : 4 * cn ≤ A + i) (hs : 4 * sn ≤ B + 6 * i) (ih : law_H L xs A B (i + 4) F) : mm_W 174 476 [.ref 1001, .ref 0, .ref 61, .ref 70, .int (nI i), v5, v6, v7, v8] [] (cn, sn, J, L, xs) I F := by
  obtain ⟨k, cn1, sn1, J1, I1, b, I2, hk, hM, c1, s1, hR, h6, hq, hJ2⟩ := j_set (cn := cn) (sn := sn) (J := J) (L := L) (xs := xs) (x := xs (i + 1)) (y := xs (i + 2)) hJ
  refine w_st rfl rfl rfl trivial ?_
  refine w_st rfl rfl rfl trivial ?_
  refine w_st rfl rfl rfl trivial ?_
  refine w_st rfl rfl rfl trivial ?_
  refine w_iadd rfl ?_
  refine w_sy (i + 1) rfl (nI_add i 1) (by first | decide | omega) hL ?_
  refine w_st rfl rfl rfl trivial ?_
  refine w_st rfl rfl rfl trivial ?_
  refine w_st rfl rfl rfl trivial ?_
  refine w_iadd rfl ?_
  refine w_sy (i + 2) rfl (nI_add i 2) (by first | decide | omega) hL ?_
  refine w_st rfl rfl rfl trivial ?_
  refine w_k41 (hM) rfl ⟨rfl, by decide, by decide, by decide, Or.inr (Or.inl ⟨_, rfl⟩)⟩ (Nat.le_of_ble_eq_true rfl) trivial (Nat.le_of_ble_eq_true rfl) ?_  -- calls 161 cL_set
  refine w_st rfl rfl rfl (Nat.le_of_ble_eq_true rfl) ?_
  refine w_st rfl rfl rfl trivial ?_
  refine w_st rfl rfl rfl trivial ?_
  refine w_st rfl rfl rfl trivial ?_
  refine w_st rfl rfl rfl trivial ?_
  refine w_iadd rfl ?_
  refine w_sy (i + 1) rfl (nI_add i 1) (by first | decide | omega) hL ?_
  refine w_st rfl rfl rfl trivial ?_
  refine w_st rfl rfl rfl trivial ?_
  refine w_st rfl rfl rfl trivial ?_
  refine w_iadd rfl ?_
  refine w_sy (i + 2) rfl (nI_add i 2) (by first | decide | omega) hL ?_
  refine w_k31 (hR) rfl ⟨rfl, by decide, by decide, by decide, Or.inl ⟨_, rfl⟩⟩ (Nat.le_of_ble_eq_true rfl) (mm_foc rfl) (Nat.le_of_ble_eq_true rfl) ?_  -- calls 118 cX5_set
  refine w_st rfl rfl rfl (Nat.le_of_ble_eq_true rfl) ?_
  refine w_st rfl rfl rfl trivial ?_
  refine w_k11 (r_thrown h6) rfl ⟨rfl, by decide, by decide, by decide, Or.inl ⟨_, rfl⟩⟩ (Nat.le_of_ble_eq_true rfl) (mm_foc rfl) (Nat.le_of_ble_eq_true rfl) ?_  -- calls 88 cX5_thrown
  refine w_st rfl rfl rfl trivial ?_
  refine w_v_eq rfl (fun _ => ?_) (fun z => by first | exact absurd (rfl) z | exact absurd z (rfl))
  refine w_st rfl rfl rfl trivial ?_
  refine w_m_ne (a := k) rfl (by first | decide | omega) (by first | rfl | assumption | (simp only [← nI_add, ← nI_mul]; rfl)) (fun c => ?_) (fun c => ?_)
  · skip
    refine w_st rfl rfl rfl trivial ?_
    refine w_inc rfl rfl rfl (Nat.le_of_ble_eq_true rfl) (nI_4 _) ?_
    refine w_st rfl rfl rfl trivial ?_
    exact ih cn1 sn1 J1 I2 _ _ _ _ hJ2 (by omega) (by omega)
  · skip
    refine w_st rfl rfl rfl trivial ?_
    refine w_st rfl rfl rfl trivial ?_
    refine w_lz rfl rfl (hq c) ?_
    refine w_st rfl rfl rfl trivial ?_
    refine w_st rfl rfl rfl trivial ?_
    refine w_st rfl rfl rfl trivial ?_
    refine w_z_eq rfl (fun _ => ?_) (fun z => by first | exact absurd ((lg_cmp_eq _ _).2 rfl) z | exact absurd z ((lg_cmp_eq _ _).2 rfl))
    refine w_st rfl rfl rfl trivial ?_
    refine w_inc rfl rfl rfl (Nat.le_of_ble_eq_true rfl) (nI_4 _) ?_
    refine w_st rfl rfl rfl trivial ?_
    exact ih cn1 sn1 J1 I2 _ _ _ _ hJ2 (by omega) (by omega)
theorem l_append (hJ : sp_Jn I) (hi : i + 4 ≤ L) (hL : L ≤ 2048) (hc : 4 * cn ≤ A + i) (hs : 4 * sn ≤ B + 6 * i) (ih : law_H L xs A B (i + 4) F) : mm_W 174 544 [.ref 1001, .ref 0, .ref 61, .ref 70, .int (nI i), v5, v6, v7, v8] [] (cn, sn, J, L, xs) I F := by
  obtain ⟨k, cn1, sn1, J1, I1, b, I2, hk, hM, c1, s1, hR, h6, hq, hJ2⟩ := j_append (cn := cn) (sn := sn) (J := J) (L := L) (xs := xs) (x := xs (i + 1)) hJ
  refine w_st rfl rfl rfl trivial ?_
  refine w_st rfl rfl rfl trivial ?_
  refine w_st rfl rfl rfl trivial ?_
  refine w_st rfl rfl rfl trivial ?_
  refine w_iadd rfl ?_
  refine w_sy (i + 1) rfl (nI_add i 1) (by first | decide | omega) hL ?_
  refine w_st rfl rfl rfl trivial ?_
  refine w_k31 (hM) rfl ⟨rfl, by decide, by decide, by decide, Or.inr (Or.inl ⟨_, rfl⟩)⟩ (Nat.le_of_ble_eq_true rfl) trivial (Nat.le_of_ble_eq_true rfl) ?_  -- calls 162 cL_append
  refine w_st rfl rfl rfl (Nat.le_of_ble_eq_true rfl) ?_
  refine w_st rfl rfl rfl trivial ?_
  refine w_st rfl rfl rfl trivial ?_
  refine w_st rfl rfl rfl trivial ?_
  refine w_st rfl rfl rfl trivial ?_
  refine w_iadd rfl ?_
  refine w_sy (i + 1) rfl (nI_add i 1) (by first | decide | omega) hL ?_
  refine w_k21 (hR) rfl ⟨rfl, by decide, by decide, by decide, Or.inl ⟨_, rfl⟩⟩ (Nat.le_of_ble_eq_true rfl) (mm_foc rfl) (Nat.le_of_ble_eq_true rfl) ?_  -- calls 119 cX5_append
  refine w_st rfl rfl rfl (Nat.le_of_ble_eq_true rfl) ?_
  refine w_st rfl rfl rfl trivial ?_
  refine w_k11 (r_thrown h6) rfl ⟨rfl, by decide, by decide, by decide, Or.inl ⟨_, rfl⟩⟩ (Nat.le_of_ble_eq_true rfl) (mm_foc rfl) (Nat.le_of_ble_eq_true rfl) ?_  -- calls 88 cX5_thrown
  refine w_st rfl rfl rfl trivial ?_
  refine w_v_eq rfl (fun _ => ?_) (fun z => by first | exact absurd (rfl) z | exact absurd z (rfl))
  refine w_st rfl rfl rfl trivial ?_
  refine w_m_ne (a := k) rfl (by first | decide | omega) (by first | rfl | assumption | (simp only [← nI_add, ← nI_mul]; rfl)) (fun c => ?_) (fun c => ?_)
  · skip
    refine w_st rfl rfl rfl trivial ?_
    refine w_inc rfl rfl rfl (Nat.le_of_ble_eq_true rfl) (nI_4 _) ?_
    refine w_st rfl rfl rfl trivial ?_
    exact ih cn1 sn1 J1 I2 _ _ _ _ hJ2 (by omega) (by omega)
  · skip
    refine w_st rfl rfl rfl trivial ?_
    refine w_st rfl rfl rfl trivial ?_
    refine w_lz rfl rfl (hq c) ?_
    refine w_st rfl rfl rfl trivial ?_
    refine w_st rfl rfl rfl trivial ?_
    refine w_st rfl rfl rfl trivial ?_
    refine w_z_eq rfl (fun _ => ?_) (fun z => by first | exact absurd ((lg_cmp_eq _ _).2 rfl) z | exact absurd z ((lg_cmp_eq _ _).2 rfl))
    refine w_st rfl rfl rfl trivial ?_
    refine w_inc rfl rfl rfl (Nat.le_of_ble_eq_true rfl) (nI_4 _) ?_
    refine w_st rfl rfl rfl trivial ?_
    exact ih cn1 sn1 J1 I2 _ _ _ _ hJ2 (by omega) (by omega)
theorem l_clearBuffer (hJ : sp_Jn I) (hi : i + 4 ≤ L) (hL : L ≤ 2048) (hc : 4 * cn ≤ A + i) (hs : 4 * sn ≤ B + 6 * i) (ih : law_H L xs A B (i + 4) F) : mm_W 174 600 [.ref 1001, .ref 0, .ref 61, .ref 70, .int (nI i), v5, v6, v7, v8] [] (cn, sn, J, L, xs) I F := by
  obtain ⟨v, I1, I2, hM, hR, hJ2⟩ := j_clearBuffer hJ (cn, sn, J, L, xs)
  refine w_st rfl rfl rfl trivial ?_
  refine w_k11 (hM) rfl ⟨rfl, by decide, by decide, by decide, Or.inl ⟨_, rfl⟩⟩ (Nat.le_of_ble_eq_true rfl) (mm_foc rfl) (Nat.le_of_ble_eq_true rfl) ?_  -- calls 44 cX4_clearBuffer
  refine w_st rfl rfl rfl trivial ?_
  refine w_k11 (hR) rfl ⟨rfl, by decide, by decide, by decide, Or.inl ⟨_, rfl⟩⟩ (Nat.le_of_ble_eq_true rfl) (mm_foc rfl) (Nat.le_of_ble_eq_true rfl) ?_  -- calls 120 cX5_clearBuffer
  refine w_v_eq rfl (fun _ => ?_) (fun z => by first | exact absurd (rfl) z | exact absurd z (rfl))
  refine w_inc rfl rfl rfl (Nat.le_of_ble_eq_true rfl) (nI_4 _) ?_
  refine w_st rfl rfl rfl trivial ?_
  exact ih cn sn J I2 _ _ _ _ hJ2 (by omega) (by omega)
theorem l_firstError (hJ : sp_Jn I) (hi : i + 4 ≤ L) (hL : L ≤ 2048) (hc : 4 * cn ≤ A + i) (hs : 4 * sn ≤ B + 6 * i) (ih : law_H L xs A B (i + 4) F) : mm_W 174 613 [.ref 1001, .ref 0, .ref 61, .ref 70, .int (nI i), v5, v6, v7, v8] [] (cn, sn, J, L, xs) I F := by
  obtain ⟨v, I1, I2, hM, hR, hJ2⟩ := j_firstError hJ (cn, sn, J, L, xs)
  refine w_st rfl rfl rfl trivial ?_
  refine w_k11 (hM) rfl ⟨rfl, by decide, by decide, by decide, Or.inl ⟨_, rfl⟩⟩ (Nat.le_of_ble_eq_true rfl) (mm_foc rfl) (Nat.le_of_ble_eq_true rfl) ?_  -- calls 45 cX4_firstError
  refine w_st rfl rfl rfl trivial ?_
  refine w_k11 (hR) rfl ⟨rfl, by decide, by decide, by decide, Or.inl ⟨_, rfl⟩⟩ (Nat.le_of_ble_eq_true rfl) (mm_foc rfl) (Nat.le_of_ble_eq_true rfl) ?_  -- calls 125 cX5_firstError
  refine w_v_eq rfl (fun _ => ?_) (fun z => by first | exact absurd (rfl) z | exact absurd z (rfl))
  refine w_inc rfl rfl rfl (Nat.le_of_ble_eq_true rfl) (nI_4 _) ?_
  refine w_st rfl rfl rfl trivial ?_
  exact ih cn sn J I2 _ _ _ _ hJ2 (by omega) (by omega)
theorem l_lamps (hJ : sp_Jn I) (hi : i + 4 ≤ L) (hL : L ≤ 2048) (hc : 4 * cn ≤ A + i) (hs : 4 * sn ≤ B + 6 * i) (ih : law_H L xs A B (i + 4) F) : mm_W 174 626 [.ref 1001, .ref 0, .ref 61, .ref 70, .int (nI i), v5, v6, v7, v8] [] (cn, sn, J, L, xs) I F := by
  obtain ⟨k, cn1, sn1, J1, I1, b, I2, hk, hM, c1, s1, hR, h6, hq, hJ2⟩ := j_lamps (cn := cn) (sn := sn) (J := J) (L := L) (xs := xs) hJ
  refine w_st rfl rfl rfl trivial ?_
  refine w_st rfl rfl rfl trivial ?_
  refine w_k21 (hM) rfl ⟨rfl, by decide, by decide, by decide, Or.inr (Or.inl ⟨_, rfl⟩)⟩ (Nat.le_of_ble_eq_true rfl) trivial (Nat.le_of_ble_eq_true rfl) ?_  -- calls 163 cL_lamps
  refine w_st rfl rfl rfl (Nat.le_of_ble_eq_true rfl) ?_
  refine w_st rfl rfl rfl trivial ?_
  refine w_k11 (hR) rfl ⟨rfl, by decide, by decide, by decide, Or.inl ⟨_, rfl⟩⟩ (Nat.le_of_ble_eq_true rfl) (mm_foc rfl) (Nat.le_of_ble_eq_true rfl) ?_  -- calls 127 cX5_lamps
  refine w_st rfl rfl rfl (Nat.le_of_ble_eq_true rfl) ?_
  refine w_st rfl rfl rfl trivial ?_
  refine w_k11 (r_thrown h6) rfl ⟨rfl, by decide, by decide, by decide, Or.inl ⟨_, rfl⟩⟩ (Nat.le_of_ble_eq_true rfl) (mm_foc rfl) (Nat.le_of_ble_eq_true rfl) ?_  -- calls 88 cX5_thrown
  refine w_st rfl rfl rfl trivial ?_
  refine w_v_eq rfl (fun _ => ?_) (fun z => by first | exact absurd (rfl) z | exact absurd z (rfl))
  refine w_st rfl rfl rfl trivial ?_
  refine w_m_ne (a := k) rfl (by first | decide | omega) (by first | rfl | assumption | (simp only [← nI_add, ← nI_mul]; rfl)) (fun c => ?_) (fun c => ?_)
  · skip
    refine w_st rfl rfl rfl trivial ?_
    refine w_inc rfl rfl rfl (Nat.le_of_ble_eq_true rfl) (nI_4 _) ?_
    refine w_st rfl rfl rfl trivial ?_
    exact ih cn1 sn1 J1 I2 _ _ _ _ hJ2 (by omega) (by omega)
  · skip
    refine w_st rfl rfl rfl trivial ?_
    refine w_st rfl rfl rfl trivial ?_
    refine w_lz rfl rfl (hq c) ?_
    refine w_st rfl rfl rfl trivial ?_
    refine w_st rfl rfl rfl trivial ?_
    refine w_st rfl rfl rfl trivial ?_
    refine w_z_eq rfl (fun _ => ?_) (fun z => by first | exact absurd ((lg_cmp_eq _ _).2 rfl) z | exact absurd z ((lg_cmp_eq _ _).2 rfl))
    refine w_st rfl rfl rfl trivial ?_
    refine w_inc rfl rfl rfl (Nat.le_of_ble_eq_true rfl) (nI_4 _) ?_
    refine w_st rfl rfl rfl trivial ?_
    exact ih cn1 sn1 J1 I2 _ _ _ _ hJ2 (by omega) (by omega)
theorem l_undo (hJ : sp_Jn I) (hi : i + 4 ≤ L) (hL : L ≤ 2048) (hc : 4 * cn ≤ A + i) (hs : 4 * sn ≤ B + 6 * i) (ih : law_H L xs A B (i + 4) F) : mm_W 174 670 [.ref 1001, .ref 0, .ref 61, .ref 70, .int (nI i), v5, v6, v7, v8] [] (cn, sn, J, L, xs) I F := by
  obtain ⟨k, cn1, sn1, J1, I1, b, I2, hk, hM, c1, s1, hR, h6, hq, hJ2⟩ := j_undo (cn := cn) (sn := sn) (J := J) (L := L) (xs := xs) hJ
  refine w_st rfl rfl rfl trivial ?_
  refine w_st rfl rfl rfl trivial ?_
  refine w_k21 (hM) rfl ⟨rfl, by decide, by decide, by decide, Or.inr (Or.inl ⟨_, rfl⟩)⟩ (Nat.le_of_ble_eq_true rfl) trivial (Nat.le_of_ble_eq_true rfl) ?_  -- calls 164 cL_undo
  refine w_st rfl rfl rfl (Nat.le_of_ble_eq_true rfl) ?_
  refine w_st rfl rfl rfl trivial ?_
  refine w_k11 (hR) rfl ⟨rfl, by decide, by decide, by decide, Or.inl ⟨_, rfl⟩⟩ (Nat.le_of_ble_eq_true rfl) (mm_foc rfl) (Nat.le_of_ble_eq_true rfl) ?_  -- calls 97 cX5_undo
  refine w_st rfl rfl rfl (Nat.le_of_ble_eq_true rfl) ?_
  refine w_st rfl rfl rfl trivial ?_
  refine w_k11 (r_thrown h6) rfl ⟨rfl, by decide, by decide, by decide, Or.inl ⟨_, rfl⟩⟩ (Nat.le_of_ble_eq_true rfl) (mm_foc rfl) (Nat.le_of_ble_eq_true rfl) ?_  -- calls 88 cX5_thrown
  refine w_st rfl rfl rfl trivial ?_
  refine w_v_eq rfl (fun _ => ?_) (fun z => by first | exact absurd (rfl) z | exact absurd z (rfl))
  refine w_st rfl rfl rfl trivial ?_
  refine w_m_ne (a := k) rfl (by first | decide | omega) (by first | rfl | assumption | (simp only [← nI_add, ← nI_mul]; rfl)) (fun c => ?_) (fun c => ?_)
  · skip
    refine w_st rfl rfl rfl trivial ?_
    refine w_inc rfl rfl rfl (Nat.le_of_ble_eq_true rfl) (nI_4 _) ?_
    refine w_st rfl rfl rfl trivial ?_
    exact ih cn1 sn1 J1 I2 _ _ _ _ hJ2 (by omega) (by omega)
  · skip
    refine w_st rfl rfl rfl trivial ?_
    refine w_st rfl rfl rfl trivial ?_
    refine w_lz rfl rfl (hq c) ?_
    refine w_st rfl rfl rfl trivial ?_
    refine w_st rfl rfl rfl trivial ?_
    refine w_st rfl rfl rfl trivial ?_
    refine w_z_eq rfl (fun _ => ?_) (fun z => by first | exact absurd ((lg_cmp_eq _ _).2 rfl) z | exact absurd z ((lg_cmp_eq _ _).2 rfl))
    refine w_st rfl rfl rfl trivial ?_
    refine w_inc rfl rfl rfl (Nat.le_of_ble_eq_true rfl) (nI_4 _) ?_
    refine w_st rfl rfl rfl trivial ?_
    exact ih cn1 sn1 J1 I2 _ _ _ _ hJ2 (by omega) (by omega)
theorem l_field (hJ : sp_Jn I) (hi : i + 4 ≤ L) (hL : L ≤ 2048) (hc : 4 * cn ≤ A + i) (hs : 4 * sn ≤ B + 6 * i) (ih : law_H L xs A B (i + 4) F) : mm_W 174 714 [.ref 1001, .ref 0, .ref 61, .ref 70, .int (nI i), v5, v6, v7, v8] [] (cn, sn, J, L, xs) I F := by
  obtain ⟨k, cn1, sn1, J1, I1, b, I2, hk, hM, c1, s1, hR, h6, hq, hJ2⟩ := j_field (cn := cn) (sn := sn) (J := J) (L := L) (xs := xs) (x := xs (i + 1)) (y := xs (i + 2)) hJ
  refine w_st rfl rfl rfl trivial ?_
  refine w_st rfl rfl rfl trivial ?_
  refine w_st rfl rfl rfl trivial ?_
  refine w_st rfl rfl rfl trivial ?_
  refine w_iadd rfl ?_
  refine w_sy (i + 1) rfl (nI_add i 1) (by first | decide | omega) hL ?_
  refine w_st rfl rfl rfl trivial ?_
  refine w_st rfl rfl rfl trivial ?_
  refine w_st rfl rfl rfl trivial ?_
  refine w_iadd rfl ?_
  refine w_sy (i + 2) rfl (nI_add i 2) (by first | decide | omega) hL ?_
  refine w_st rfl rfl rfl trivial ?_
  refine w_k41 (hM) rfl ⟨rfl, by decide, by decide, by decide, Or.inr (Or.inl ⟨_, rfl⟩)⟩ (Nat.le_of_ble_eq_true rfl) trivial (Nat.le_of_ble_eq_true rfl) ?_  -- calls 165 cL_field
  refine w_st rfl rfl rfl (Nat.le_of_ble_eq_true rfl) ?_
  refine w_st rfl rfl rfl trivial ?_
  refine w_st rfl rfl rfl trivial ?_
  refine w_st rfl rfl rfl trivial ?_
  refine w_st rfl rfl rfl trivial ?_
  refine w_iadd rfl ?_
  refine w_sy (i + 1) rfl (nI_add i 1) (by first | decide | omega) hL ?_
  refine w_st rfl rfl rfl trivial ?_
  refine w_st rfl rfl rfl trivial ?_
  refine w_st rfl rfl rfl trivial ?_
  refine w_iadd rfl ?_
  refine w_sy (i + 2) rfl (nI_add i 2) (by first | decide | omega) hL ?_
  refine w_k31 (hR) rfl ⟨rfl, by decide, by decide, by decide, Or.inl ⟨_, rfl⟩⟩ (Nat.le_of_ble_eq_true rfl) (mm_foc rfl) (Nat.le_of_ble_eq_true rfl) ?_  -- calls 129 cX5_field
  refine w_st rfl rfl rfl (Nat.le_of_ble_eq_true rfl) ?_
  refine w_st rfl rfl rfl trivial ?_
  refine w_k11 (r_thrown h6) rfl ⟨rfl, by decide, by decide, by decide, Or.inl ⟨_, rfl⟩⟩ (Nat.le_of_ble_eq_true rfl) (mm_foc rfl) (Nat.le_of_ble_eq_true rfl) ?_  -- calls 88 cX5_thrown
  refine w_st rfl rfl rfl trivial ?_
  refine w_v_eq rfl (fun _ => ?_) (fun z => by first | exact absurd (rfl) z | exact absurd z (rfl))
  refine w_st rfl rfl rfl trivial ?_
  refine w_m_ne (a := k) rfl (by first | decide | omega) (by first | rfl | assumption | (simp only [← nI_add, ← nI_mul]; rfl)) (fun c => ?_) (fun c => ?_)
  · skip
    refine w_st rfl rfl rfl trivial ?_
    refine w_inc rfl rfl rfl (Nat.le_of_ble_eq_true rfl) (nI_4 _) ?_
    refine w_st rfl rfl rfl trivial ?_
    exact ih cn1 sn1 J1 I2 _ _ _ _ hJ2 (by omega) (by omega)
  · skip
    refine w_st rfl rfl rfl trivial ?_
    refine w_st rfl rfl rfl trivial ?_
    refine w_lz rfl rfl (hq c) ?_
    refine w_st rfl rfl rfl trivial ?_
    refine w_st rfl rfl rfl trivial ?_
    refine w_st rfl rfl rfl trivial ?_
    refine w_z_eq rfl (fun _ => ?_) (fun z => by first | exact absurd ((lg_cmp_eq _ _).2 rfl) z | exact absurd z ((lg_cmp_eq _ _).2 rfl))
    refine w_st rfl rfl rfl trivial ?_
    refine w_inc rfl rfl rfl (Nat.le_of_ble_eq_true rfl) (nI_4 _) ?_
    refine w_st rfl rfl rfl trivial ?_
    exact ih cn1 sn1 J1 I2 _ _ _ _ hJ2 (by omega) (by omega)
theorem l_lampOf (hJ : sp_Jn I) (hi : i + 4 ≤ L) (hL : L ≤ 2048) (hc : 4 * cn ≤ A + i) (hs : 4 * sn ≤ B + 6 * i) (ih : law_H L xs A B (i + 4) F) : mm_W 174 782 [.ref 1001, .ref 0, .ref 61, .ref 70, .int (nI i), v5, v6, v7, v8] [] (cn, sn, J, L, xs) I F := by
  obtain ⟨k, cn1, sn1, J1, I1, b, I2, hk, hM, c1, s1, hR, h6, hq, hJ2⟩ := j_lampOf (cn := cn) (sn := sn) (J := J) (L := L) (xs := xs) (x := xs (i + 1)) (y := xs (i + 2)) (z := xs (i + 3)) hJ
  refine w_st rfl rfl rfl trivial ?_
  refine w_st rfl rfl rfl trivial ?_
  refine w_st rfl rfl rfl trivial ?_
  refine w_st rfl rfl rfl trivial ?_
  refine w_iadd rfl ?_
  refine w_sy (i + 1) rfl (nI_add i 1) (by first | decide | omega) hL ?_
  refine w_st rfl rfl rfl trivial ?_
  refine w_st rfl rfl rfl trivial ?_
  refine w_st rfl rfl rfl trivial ?_
  refine w_iadd rfl ?_
  refine w_sy (i + 2) rfl (nI_add i 2) (by first | decide | omega) hL ?_
  refine w_st rfl rfl rfl trivial ?_
  refine w_st rfl rfl rfl trivial ?_
  refine w_st rfl rfl rfl trivial ?_
  refine w_iadd rfl ?_
  refine w_sy (i + 3) rfl (nI_add i 3) (by first | decide | omega) hL ?_
  refine w_st rfl rfl rfl trivial ?_
  refine w_k51 (hM) rfl ⟨rfl, by decide, by decide, by decide, Or.inr (Or.inl ⟨_, rfl⟩)⟩ (Nat.le_of_ble_eq_true rfl) trivial (Nat.le_of_ble_eq_true rfl) ?_  -- calls 166 cL_lampOf
  refine w_st rfl rfl rfl (Nat.le_of_ble_eq_true rfl) ?_
  refine w_st rfl rfl rfl trivial ?_
  refine w_st rfl rfl rfl trivial ?_
  refine w_st rfl rfl rfl trivial ?_
  refine w_st rfl rfl rfl trivial ?_
  refine w_iadd rfl ?_
  refine w_sy (i + 1) rfl (nI_add i 1) (by first | decide | omega) hL ?_
  refine w_st rfl rfl rfl trivial ?_
  refine w_st rfl rfl rfl trivial ?_
  refine w_st rfl rfl rfl trivial ?_
  refine w_iadd rfl ?_
  refine w_sy (i + 2) rfl (nI_add i 2) (by first | decide | omega) hL ?_
  refine w_st rfl rfl rfl trivial ?_
  refine w_st rfl rfl rfl trivial ?_
  refine w_st rfl rfl rfl trivial ?_
  refine w_iadd rfl ?_
  refine w_sy (i + 3) rfl (nI_add i 3) (by first | decide | omega) hL ?_
  refine w_k41 (hR) rfl ⟨rfl, by decide, by decide, by decide, Or.inl ⟨_, rfl⟩⟩ (Nat.le_of_ble_eq_true rfl) (mm_foc rfl) (Nat.le_of_ble_eq_true rfl) ?_  -- calls 131 cX5_lampOf
  refine w_st rfl rfl rfl (Nat.le_of_ble_eq_true rfl) ?_
  refine w_st rfl rfl rfl trivial ?_
  refine w_k11 (r_thrown h6) rfl ⟨rfl, by decide, by decide, by decide, Or.inl ⟨_, rfl⟩⟩ (Nat.le_of_ble_eq_true rfl) (mm_foc rfl) (Nat.le_of_ble_eq_true rfl) ?_  -- calls 88 cX5_thrown
  refine w_st rfl rfl rfl trivial ?_
  refine w_v_eq rfl (fun _ => ?_) (fun z => by first | exact absurd (rfl) z | exact absurd z (rfl))
  refine w_st rfl rfl rfl trivial ?_
  refine w_m_ne (a := k) rfl (by first | decide | omega) (by first | rfl | assumption | (simp only [← nI_add, ← nI_mul]; rfl)) (fun c => ?_) (fun c => ?_)
  · skip
    refine w_st rfl rfl rfl trivial ?_
    refine w_inc rfl rfl rfl (Nat.le_of_ble_eq_true rfl) (nI_4 _) ?_
    refine w_st rfl rfl rfl trivial ?_
    exact ih cn1 sn1 J1 I2 _ _ _ _ hJ2 (by omega) (by omega)
  · skip
    refine w_st rfl rfl rfl trivial ?_
    refine w_st rfl rfl rfl trivial ?_
    refine w_lz rfl rfl (hq c) ?_
    refine w_st rfl rfl rfl trivial ?_
    refine w_st rfl rfl rfl trivial ?_
    refine w_st rfl rfl rfl trivial ?_
    refine w_z_eq rfl (fun _ => ?_) (fun z => by first | exact absurd ((lg_cmp_eq _ _).2 rfl) z | exact absurd z ((lg_cmp_eq _ _).2 rfl))
    refine w_st rfl rfl rfl trivial ?_
    refine w_inc rfl rfl rfl (Nat.le_of_ble_eq_true rfl) (nI_4 _) ?_
    refine w_st rfl rfl rfl trivial ?_
    exact ih cn1 sn1 J1 I2 _ _ _ _ hJ2 (by omega) (by omega)
theorem l_table (hJ : sp_Jn I) (hi : i + 4 ≤ L) (hL : L ≤ 2048) (hc : 4 * cn ≤ A + i) (hs : 4 * sn ≤ B + 6 * i) (ih : law_H L xs A B (i + 4) F) : mm_W 174 862 [.ref 1001, .ref 0, .ref 61, .ref 70, .int (nI i), v5, v6, v7, v8] [] (cn, sn, J, L, xs) I F := by
  obtain ⟨k, cn1, sn1, J1, I1, b, I2, hk, hM, c1, s1, hR, h6, hq, hJ2⟩ := j_table (cn := cn) (sn := sn) (J := J) (L := L) (xs := xs) (x := xs (i + 1)) (y := xs (i + 2)) (z := xs (i + 3)) hJ
  refine w_st rfl rfl rfl trivial ?_
  refine w_st rfl rfl rfl trivial ?_
  refine w_st rfl rfl rfl trivial ?_
  refine w_st rfl rfl rfl trivial ?_
  refine w_iadd rfl ?_
  refine w_sy (i + 1) rfl (nI_add i 1) (by first | decide | omega) hL ?_
  refine w_st rfl rfl rfl trivial ?_
  refine w_st rfl rfl rfl trivial ?_
  refine w_st rfl rfl rfl trivial ?_
  refine w_iadd rfl ?_
  refine w_sy (i + 2) rfl (nI_add i 2) (by first | decide | omega) hL ?_
  refine w_st rfl rfl rfl trivial ?_
  refine w_st rfl rfl rfl trivial ?_
  refine w_st rfl rfl rfl trivial ?_
  refine w_iadd rfl ?_
  refine w_sy (i + 3) rfl (nI_add i 3) (by first | decide | omega) hL ?_
  refine w_st rfl rfl rfl trivial ?_
  refine w_k51 (hM) rfl ⟨rfl, by decide, by decide, by decide, Or.inr (Or.inl ⟨_, rfl⟩)⟩ (Nat.le_of_ble_eq_true rfl) trivial (Nat.le_of_ble_eq_true rfl) ?_  -- calls 167 cL_table
  refine w_st rfl rfl rfl (Nat.le_of_ble_eq_true rfl) ?_
  refine w_st rfl rfl rfl trivial ?_
  refine w_st rfl rfl rfl trivial ?_
  refine w_st rfl rfl rfl trivial ?_
  refine w_st rfl rfl rfl trivial ?_
  refine w_iadd rfl ?_
  refine w_sy (i + 1) rfl (nI_add i 1) (by first | decide | omega) hL ?_
  refine w_st rfl rfl rfl trivial ?_
  refine w_st rfl rfl rfl trivial ?_
  refine w_st rfl rfl rfl trivial ?_
  refine w_iadd rfl ?_
  refine w_sy (i + 2) rfl (nI_add i 2) (by first | decide | omega) hL ?_
  refine w_st rfl rfl rfl trivial ?_
  refine w_st rfl rfl rfl trivial ?_
  refine w_st rfl rfl rfl trivial ?_
  refine w_iadd rfl ?_
  refine w_sy (i + 3) rfl (nI_add i 3) (by first | decide | omega) hL ?_
  refine w_k41 (hR) rfl ⟨rfl, by decide, by decide, by decide, Or.inl ⟨_, rfl⟩⟩ (Nat.le_of_ble_eq_true rfl) (mm_foc rfl) (Nat.le_of_ble_eq_true rfl) ?_  -- calls 133 cX5_table
  refine w_st rfl rfl rfl (Nat.le_of_ble_eq_true rfl) ?_
  refine w_st rfl rfl rfl trivial ?_
  refine w_k11 (r_thrown h6) rfl ⟨rfl, by decide, by decide, by decide, Or.inl ⟨_, rfl⟩⟩ (Nat.le_of_ble_eq_true rfl) (mm_foc rfl) (Nat.le_of_ble_eq_true rfl) ?_  -- calls 88 cX5_thrown
  refine w_st rfl rfl rfl trivial ?_
  refine w_v_eq rfl (fun _ => ?_) (fun z => by first | exact absurd (rfl) z | exact absurd z (rfl))
  refine w_st rfl rfl rfl trivial ?_
  refine w_m_ne (a := k) rfl (by first | decide | omega) (by first | rfl | assumption | (simp only [← nI_add, ← nI_mul]; rfl)) (fun c => ?_) (fun c => ?_)
  · skip
    refine w_st rfl rfl rfl trivial ?_
    refine w_inc rfl rfl rfl (Nat.le_of_ble_eq_true rfl) (nI_4 _) ?_
    refine w_st rfl rfl rfl trivial ?_
    exact ih cn1 sn1 J1 I2 _ _ _ _ hJ2 (by omega) (by omega)
  · skip
    refine w_st rfl rfl rfl trivial ?_
    refine w_st rfl rfl rfl trivial ?_
    refine w_lz rfl rfl (hq c) ?_
    refine w_st rfl rfl rfl trivial ?_
    refine w_st rfl rfl rfl trivial ?_
    refine w_st rfl rfl rfl trivial ?_
    refine w_z_eq rfl (fun _ => ?_) (fun z => by first | exact absurd ((lg_cmp_eq _ _).2 rfl) z | exact absurd z ((lg_cmp_eq _ _).2 rfl))
    refine w_st rfl rfl rfl trivial ?_
    refine w_inc rfl rfl rfl (Nat.le_of_ble_eq_true rfl) (nI_4 _) ?_
    refine w_st rfl rfl rfl trivial ?_
    exact ih cn1 sn1 J1 I2 _ _ _ _ hJ2 (by omega) (by omega)
theorem l_read (hJ : sp_Jn I) (hi : i + 4 ≤ L) (hL : L ≤ 2048) (hc : 4 * cn ≤ A + i) (hs : 4 * sn ≤ B + 6 * i) (ih : law_H L xs A B (i + 4) F) : mm_W 174 942 [.ref 1001, .ref 0, .ref 61, .ref 70, .int (nI i), v5, v6, v7, v8] [] (cn, sn, J, L, xs) I F := by
  obtain ⟨k, cn1, sn1, J1, I1, b, I2, hk, hM, c1, s1, hR, h6, hq, hJ2⟩ := j_read (cn := cn) (sn := sn) (J := J) (L := L) (xs := xs) (x := xs (i + 1)) (y := xs (i + 2)) hJ
  refine w_st rfl rfl rfl trivial ?_
  refine w_st rfl rfl rfl trivial ?_
  refine w_st rfl rfl rfl trivial ?_
  refine w_st rfl rfl rfl trivial ?_
  refine w_iadd rfl ?_
  refine w_sy (i + 1) rfl (nI_add i 1) (by first | decide | omega) hL ?_
  refine w_st rfl rfl rfl trivial ?_
  refine w_st rfl rfl rfl trivial ?_
  refine w_st rfl rfl rfl trivial ?_
  refine w_iadd rfl ?_
  refine w_sy (i + 2) rfl (nI_add i 2) (by first | decide | omega) hL ?_
  refine w_st rfl rfl rfl trivial ?_
  refine w_k41 (hM) rfl ⟨rfl, by decide, by decide, by decide, Or.inr (Or.inl ⟨_, rfl⟩)⟩ (Nat.le_of_ble_eq_true rfl) trivial (Nat.le_of_ble_eq_true rfl) ?_  -- calls 168 cL_read
  refine w_st rfl rfl rfl (Nat.le_of_ble_eq_true rfl) ?_
  refine w_st rfl rfl rfl trivial ?_
  refine w_st rfl rfl rfl trivial ?_
  refine w_st rfl rfl rfl trivial ?_
  refine w_st rfl rfl rfl trivial ?_
  refine w_iadd rfl ?_
  refine w_sy (i + 1) rfl (nI_add i 1) (by first | decide | omega) hL ?_
  refine w_st rfl rfl rfl trivial ?_
  refine w_st rfl rfl rfl trivial ?_
  refine w_st rfl rfl rfl trivial ?_
  refine w_iadd rfl ?_
  refine w_sy (i + 2) rfl (nI_add i 2) (by first | decide | omega) hL ?_
  refine w_k31 (hR) rfl ⟨rfl, by decide, by decide, by decide, Or.inl ⟨_, rfl⟩⟩ (Nat.le_of_ble_eq_true rfl) (mm_foc rfl) (Nat.le_of_ble_eq_true rfl) ?_  -- calls 135 cX5_read
  refine w_st rfl rfl rfl (Nat.le_of_ble_eq_true rfl) ?_
  refine w_st rfl rfl rfl trivial ?_
  refine w_k11 (r_thrown h6) rfl ⟨rfl, by decide, by decide, by decide, Or.inl ⟨_, rfl⟩⟩ (Nat.le_of_ble_eq_true rfl) (mm_foc rfl) (Nat.le_of_ble_eq_true rfl) ?_  -- calls 88 cX5_thrown
  refine w_st rfl rfl rfl trivial ?_
  refine w_v_eq rfl (fun _ => ?_) (fun z => by first | exact absurd (rfl) z | exact absurd z (rfl))
  refine w_st rfl rfl rfl trivial ?_
  refine w_m_ne (a := k) rfl (by first | decide | omega) (by first | rfl | assumption | (simp only [← nI_add, ← nI_mul]; rfl)) (fun c => ?_) (fun c => ?_)
  · skip
    refine w_st rfl rfl rfl trivial ?_
    refine w_inc rfl rfl rfl (Nat.le_of_ble_eq_true rfl) (nI_4 _) ?_
    refine w_st rfl rfl rfl trivial ?_
    exact ih cn1 sn1 J1 I2 _ _ _ _ hJ2 (by omega) (by omega)
  · skip
    refine w_st rfl rfl rfl trivial ?_
    refine w_st rfl rfl rfl trivial ?_
    refine w_lz rfl rfl (hq c) ?_
    refine w_st rfl rfl rfl trivial ?_
    refine w_st rfl rfl rfl trivial ?_
    refine w_st rfl rfl rfl trivial ?_
    refine w_z_eq rfl (fun _ => ?_) (fun z => by first | exact absurd ((lg_cmp_eq _ _).2 rfl) z | exact absurd z ((lg_cmp_eq _ _).2 rfl))
    refine w_st rfl rfl rfl trivial ?_
    refine w_inc rfl rfl rfl (Nat.le_of_ble_eq_true rfl) (nI_4 _) ?_
    refine w_st rfl rfl rfl trivial ?_
    exact ih cn1 sn1 J1 I2 _ _ _ _ hJ2 (by omega) (by omega)
theorem l_count (hJ : sp_Jn I) (hi : i + 4 ≤ L) (hL : L ≤ 2048) (hc : 4 * cn ≤ A + i) (hs : 4 * sn ≤ B + 6 * i) (ih : law_H L xs A B (i + 4) F) : mm_W 174 1010 [.ref 1001, .ref 0, .ref 61, .ref 70, .int (nI i), v5, v6, v7, v8] [] (cn, sn, J, L, xs) I F := by
  obtain ⟨k, cn1, sn1, J1, I1, b, I2, hk, hM, c1, s1, hR, h6, hq, hJ2⟩ := j_count (cn := cn) (sn := sn) (J := J) (L := L) (xs := xs) (x := xs (i + 1)) hJ
  refine w_st rfl rfl rfl trivial ?_
  refine w_st rfl rfl rfl trivial ?_
  refine w_st rfl rfl rfl trivial ?_
  refine w_st rfl rfl rfl trivial ?_
  refine w_iadd rfl ?_
  refine w_sy (i + 1) rfl (nI_add i 1) (by first | decide | omega) hL ?_
  refine w_st rfl rfl rfl trivial ?_
  refine w_k31 (hM) rfl ⟨rfl, by decide, by decide, by decide, Or.inr (Or.inl ⟨_, rfl⟩)⟩ (Nat.le_of_ble_eq_true rfl) trivial (Nat.le_of_ble_eq_true rfl) ?_  -- calls 169 cL_count
  refine w_st rfl rfl rfl (Nat.le_of_ble_eq_true rfl) ?_
  refine w_st rfl rfl rfl trivial ?_
  refine w_st rfl rfl rfl trivial ?_
  refine w_st rfl rfl rfl trivial ?_
  refine w_st rfl rfl rfl trivial ?_
  refine w_iadd rfl ?_
  refine w_sy (i + 1) rfl (nI_add i 1) (by first | decide | omega) hL ?_
  refine w_k21 (hR) rfl ⟨rfl, by decide, by decide, by decide, Or.inl ⟨_, rfl⟩⟩ (Nat.le_of_ble_eq_true rfl) (mm_foc rfl) (Nat.le_of_ble_eq_true rfl) ?_  -- calls 140 cX5_count
  refine w_st rfl rfl rfl (Nat.le_of_ble_eq_true rfl) ?_
  refine w_st rfl rfl rfl trivial ?_
  refine w_k11 (r_thrown h6) rfl ⟨rfl, by decide, by decide, by decide, Or.inl ⟨_, rfl⟩⟩ (Nat.le_of_ble_eq_true rfl) (mm_foc rfl) (Nat.le_of_ble_eq_true rfl) ?_  -- calls 88 cX5_thrown
  refine w_st rfl rfl rfl trivial ?_
  refine w_v_eq rfl (fun _ => ?_) (fun z => by first | exact absurd (rfl) z | exact absurd z (rfl))
  refine w_st rfl rfl rfl trivial ?_
  refine w_m_ne (a := k) rfl (by first | decide | omega) (by first | rfl | assumption | (simp only [← nI_add, ← nI_mul]; rfl)) (fun c => ?_) (fun c => ?_)
  · skip
    refine w_st rfl rfl rfl trivial ?_
    refine w_inc rfl rfl rfl (Nat.le_of_ble_eq_true rfl) (nI_4 _) ?_
    refine w_st rfl rfl rfl trivial ?_
    exact ih cn1 sn1 J1 I2 _ _ _ _ hJ2 (by omega) (by omega)
  · skip
    refine w_st rfl rfl rfl trivial ?_
    refine w_st rfl rfl rfl trivial ?_
    refine w_lz rfl rfl (hq c) ?_
    refine w_st rfl rfl rfl trivial ?_
    refine w_st rfl rfl rfl trivial ?_
    refine w_st rfl rfl rfl trivial ?_
    refine w_z_eq rfl (fun _ => ?_) (fun z => by first | exact absurd ((lg_cmp_eq _ _).2 rfl) z | exact absurd z ((lg_cmp_eq _ _).2 rfl))
    refine w_st rfl rfl rfl trivial ?_
    refine w_inc rfl rfl rfl (Nat.le_of_ble_eq_true rfl) (nI_4 _) ?_
    refine w_st rfl rfl rfl trivial ?_
    exact ih cn1 sn1 J1 I2 _ _ _ _ hJ2 (by omega) (by omega)
theorem l_setting (hJ : sp_Jn I) (hi : i + 4 ≤ L) (hL : L ≤ 2048) (hc : 4 * cn ≤ A + i) (hs : 4 * sn ≤ B + 6 * i) (ih : law_H L xs A B (i + 4) F) : mm_W 174 1066 [.ref 1001, .ref 0, .ref 61, .ref 70, .int (nI i), v5, v6, v7, v8] [] (cn, sn, J, L, xs) I F := by
  obtain ⟨k, cn1, sn1, J1, I1, b, I2, hk, hM, c1, s1, hR, h6, hq, hJ2⟩ := j_setting (cn := cn) (sn := sn) (J := J) (L := L) (xs := xs) (x := xs (i + 1)) hJ
  refine w_st rfl rfl rfl trivial ?_
  refine w_st rfl rfl rfl trivial ?_
  refine w_st rfl rfl rfl trivial ?_
  refine w_st rfl rfl rfl trivial ?_
  refine w_iadd rfl ?_
  refine w_sy (i + 1) rfl (nI_add i 1) (by first | decide | omega) hL ?_
  refine w_st rfl rfl rfl trivial ?_
  refine w_k31 (hM) rfl ⟨rfl, by decide, by decide, by decide, Or.inr (Or.inl ⟨_, rfl⟩)⟩ (Nat.le_of_ble_eq_true rfl) trivial (Nat.le_of_ble_eq_true rfl) ?_  -- calls 170 cL_setting
  refine w_st rfl rfl rfl (Nat.le_of_ble_eq_true rfl) ?_
  refine w_st rfl rfl rfl trivial ?_
  refine w_st rfl rfl rfl trivial ?_
  refine w_st rfl rfl rfl trivial ?_
  refine w_st rfl rfl rfl trivial ?_
  refine w_iadd rfl ?_
  refine w_sy (i + 1) rfl (nI_add i 1) (by first | decide | omega) hL ?_
  refine w_k21 (hR) rfl ⟨rfl, by decide, by decide, by decide, Or.inl ⟨_, rfl⟩⟩ (Nat.le_of_ble_eq_true rfl) (mm_foc rfl) (Nat.le_of_ble_eq_true rfl) ?_  -- calls 141 cX5_setting
  refine w_st rfl rfl rfl (Nat.le_of_ble_eq_true rfl) ?_
  refine w_st rfl rfl rfl trivial ?_
  refine w_k11 (r_thrown h6) rfl ⟨rfl, by decide, by decide, by decide, Or.inl ⟨_, rfl⟩⟩ (Nat.le_of_ble_eq_true rfl) (mm_foc rfl) (Nat.le_of_ble_eq_true rfl) ?_  -- calls 88 cX5_thrown
  refine w_st rfl rfl rfl trivial ?_
  refine w_v_eq rfl (fun _ => ?_) (fun z => by first | exact absurd (rfl) z | exact absurd z (rfl))
  refine w_st rfl rfl rfl trivial ?_
  refine w_m_ne (a := k) rfl (by first | decide | omega) (by first | rfl | assumption | (simp only [← nI_add, ← nI_mul]; rfl)) (fun c => ?_) (fun c => ?_)
  · skip
    refine w_st rfl rfl rfl trivial ?_
    refine w_inc rfl rfl rfl (Nat.le_of_ble_eq_true rfl) (nI_4 _) ?_
    refine w_st rfl rfl rfl trivial ?_
    exact ih cn1 sn1 J1 I2 _ _ _ _ hJ2 (by omega) (by omega)
  · skip
    refine w_st rfl rfl rfl trivial ?_
    refine w_st rfl rfl rfl trivial ?_
    refine w_lz rfl rfl (hq c) ?_
    refine w_st rfl rfl rfl trivial ?_
    refine w_st rfl rfl rfl trivial ?_
    refine w_st rfl rfl rfl trivial ?_
    refine w_z_eq rfl (fun _ => ?_) (fun z => by first | exact absurd ((lg_cmp_eq _ _).2 rfl) z | exact absurd z ((lg_cmp_eq _ _).2 rfl))
    refine w_st rfl rfl rfl trivial ?_
    refine w_inc rfl rfl rfl (Nat.le_of_ble_eq_true rfl) (nI_4 _) ?_
    refine w_st rfl rfl rfl trivial ?_
    exact ih cn1 sn1 J1 I2 _ _ _ _ hJ2 (by omega) (by omega)
theorem l_ifBurnt (hJ : sp_Jn I) (hi : i + 4 ≤ L) (hL : L ≤ 2048) (hc : 4 * cn ≤ A + i) (hs : 4 * sn ≤ B + 6 * i) (ih : law_H L xs A B (i + 4) F) : mm_W 174 1122 [.ref 1001, .ref 0, .ref 61, .ref 70, .int (nI i), v5, v6, v7, v8] [] (cn, sn, J, L, xs) I F := by
  obtain ⟨k, cn1, sn1, J1, I1, b, I2, hk, hM, c1, s1, hR, h6, hq, hJ2⟩ := j_ifBurnt (cn := cn) (sn := sn) (J := J) (L := L) (xs := xs) (x := xs (i + 1)) (y := xs (i + 2)) (z := xs (i + 3)) hJ
  refine w_st rfl rfl rfl trivial ?_
  refine w_st rfl rfl rfl trivial ?_
  refine w_st rfl rfl rfl trivial ?_
  refine w_st rfl rfl rfl trivial ?_
  refine w_iadd rfl ?_
  refine w_sy (i + 1) rfl (nI_add i 1) (by first | decide | omega) hL ?_
  refine w_st rfl rfl rfl trivial ?_
  refine w_st rfl rfl rfl trivial ?_
  refine w_st rfl rfl rfl trivial ?_
  refine w_iadd rfl ?_
  refine w_sy (i + 2) rfl (nI_add i 2) (by first | decide | omega) hL ?_
  refine w_st rfl rfl rfl trivial ?_
  refine w_st rfl rfl rfl trivial ?_
  refine w_st rfl rfl rfl trivial ?_
  refine w_iadd rfl ?_
  refine w_sy (i + 3) rfl (nI_add i 3) (by first | decide | omega) hL ?_
  refine w_st rfl rfl rfl trivial ?_
  refine w_k51 (hM) rfl ⟨rfl, by decide, by decide, by decide, Or.inr (Or.inl ⟨_, rfl⟩)⟩ (Nat.le_of_ble_eq_true rfl) trivial (Nat.le_of_ble_eq_true rfl) ?_  -- calls 171 cL_ifBurnt
  refine w_st rfl rfl rfl (Nat.le_of_ble_eq_true rfl) ?_
  refine w_st rfl rfl rfl trivial ?_
  refine w_st rfl rfl rfl trivial ?_
  refine w_st rfl rfl rfl trivial ?_
  refine w_st rfl rfl rfl trivial ?_
  refine w_iadd rfl ?_
  refine w_sy (i + 1) rfl (nI_add i 1) (by first | decide | omega) hL ?_
  refine w_st rfl rfl rfl trivial ?_
  refine w_st rfl rfl rfl trivial ?_
  refine w_st rfl rfl rfl trivial ?_
  refine w_iadd rfl ?_
  refine w_sy (i + 2) rfl (nI_add i 2) (by first | decide | omega) hL ?_
  refine w_st rfl rfl rfl trivial ?_
  refine w_st rfl rfl rfl trivial ?_
  refine w_st rfl rfl rfl trivial ?_
  refine w_iadd rfl ?_
  refine w_sy (i + 3) rfl (nI_add i 3) (by first | decide | omega) hL ?_
  refine w_k41 (hR) rfl ⟨rfl, by decide, by decide, by decide, Or.inl ⟨_, rfl⟩⟩ (Nat.le_of_ble_eq_true rfl) (mm_foc rfl) (Nat.le_of_ble_eq_true rfl) ?_  -- calls 143 cX5_ifBurnt
  refine w_st rfl rfl rfl (Nat.le_of_ble_eq_true rfl) ?_
  refine w_st rfl rfl rfl trivial ?_
  refine w_k11 (r_thrown h6) rfl ⟨rfl, by decide, by decide, by decide, Or.inl ⟨_, rfl⟩⟩ (Nat.le_of_ble_eq_true rfl) (mm_foc rfl) (Nat.le_of_ble_eq_true rfl) ?_  -- calls 88 cX5_thrown
  refine w_st rfl rfl rfl trivial ?_
  refine w_v_eq rfl (fun _ => ?_) (fun z => by first | exact absurd (rfl) z | exact absurd z (rfl))
  refine w_st rfl rfl rfl trivial ?_
  refine w_m_ne (a := k) rfl (by first | decide | omega) (by first | rfl | assumption | (simp only [← nI_add, ← nI_mul]; rfl)) (fun c => ?_) (fun c => ?_)
  · skip
    refine w_st rfl rfl rfl trivial ?_
    refine w_inc rfl rfl rfl (Nat.le_of_ble_eq_true rfl) (nI_4 _) ?_
    refine w_st rfl rfl rfl trivial ?_
    exact ih cn1 sn1 J1 I2 _ _ _ _ hJ2 (by omega) (by omega)
  · skip
    refine w_st rfl rfl rfl trivial ?_
    refine w_st rfl rfl rfl trivial ?_
    refine w_lz rfl rfl (hq c) ?_
    refine w_st rfl rfl rfl trivial ?_
    refine w_st rfl rfl rfl trivial ?_
    refine w_st rfl rfl rfl trivial ?_
    refine w_z_eq rfl (fun _ => ?_) (fun z => by first | exact absurd ((lg_cmp_eq _ _).2 rfl) z | exact absurd z ((lg_cmp_eq _ _).2 rfl))
    refine w_st rfl rfl rfl trivial ?_
    refine w_inc rfl rfl rfl (Nat.le_of_ble_eq_true rfl) (nI_4 _) ?_
    refine w_st rfl rfl rfl trivial ?_
    exact ih cn1 sn1 J1 I2 _ _ _ _ hJ2 (by omega) (by omega)
theorem l_worstLamp (hJ : sp_Jn I) (hi : i + 4 ≤ L) (hL : L ≤ 2048) (hc : 4 * cn ≤ A + i) (hs : 4 * sn ≤ B + 6 * i) (ih : law_H L xs A B (i + 4) F) : mm_W 174 1202 [.ref 1001, .ref 0, .ref 61, .ref 70, .int (nI i), v5, v6, v7, v8] [] (cn, sn, J, L, xs) I F := by
  obtain ⟨k, cn1, sn1, J1, I1, b, I2, hk, hM, c1, s1, hR, h6, hq, hJ2⟩ := j_worstLamp (cn := cn) (sn := sn) (J := J) (L := L) (xs := xs) (x := xs (i + 1)) hJ
  refine w_st rfl rfl rfl trivial ?_
  refine w_st rfl rfl rfl trivial ?_
  refine w_st rfl rfl rfl trivial ?_
  refine w_st rfl rfl rfl trivial ?_
  refine w_iadd rfl ?_
  refine w_sy (i + 1) rfl (nI_add i 1) (by first | decide | omega) hL ?_
  refine w_st rfl rfl rfl trivial ?_
  refine w_k31 (hM) rfl ⟨rfl, by decide, by decide, by decide, Or.inr (Or.inl ⟨_, rfl⟩)⟩ (Nat.le_of_ble_eq_true rfl) trivial (Nat.le_of_ble_eq_true rfl) ?_  -- calls 172 cL_worstLamp
  refine w_st rfl rfl rfl (Nat.le_of_ble_eq_true rfl) ?_
  refine w_st rfl rfl rfl trivial ?_
  refine w_st rfl rfl rfl trivial ?_
  refine w_st rfl rfl rfl trivial ?_
  refine w_st rfl rfl rfl trivial ?_
  refine w_iadd rfl ?_
  refine w_sy (i + 1) rfl (nI_add i 1) (by first | decide | omega) hL ?_
  refine w_k21 (hR) rfl ⟨rfl, by decide, by decide, by decide, Or.inl ⟨_, rfl⟩⟩ (Nat.le_of_ble_eq_true rfl) (mm_foc rfl) (Nat.le_of_ble_eq_true rfl) ?_  -- calls 145 cX5_worstLamp
  refine w_st rfl rfl rfl (Nat.le_of_ble_eq_true rfl) ?_
  refine w_st rfl rfl rfl trivial ?_
  refine w_k11 (r_thrown h6) rfl ⟨rfl, by decide, by decide, by decide, Or.inl ⟨_, rfl⟩⟩ (Nat.le_of_ble_eq_true rfl) (mm_foc rfl) (Nat.le_of_ble_eq_true rfl) ?_  -- calls 88 cX5_thrown
  refine w_st rfl rfl rfl trivial ?_
  refine w_v_eq rfl (fun _ => ?_) (fun z => by first | exact absurd (rfl) z | exact absurd z (rfl))
  refine w_st rfl rfl rfl trivial ?_
  refine w_m_ne (a := k) rfl (by first | decide | omega) (by first | rfl | assumption | (simp only [← nI_add, ← nI_mul]; rfl)) (fun c => ?_) (fun c => ?_)
  · skip
    refine w_st rfl rfl rfl trivial ?_
    refine w_inc rfl rfl rfl (Nat.le_of_ble_eq_true rfl) (nI_4 _) ?_
    refine w_st rfl rfl rfl trivial ?_
    exact ih cn1 sn1 J1 I2 _ _ _ _ hJ2 (by omega) (by omega)
  · skip
    refine w_st rfl rfl rfl trivial ?_
    refine w_st rfl rfl rfl trivial ?_
    refine w_lz rfl rfl (hq c) ?_
    refine w_st rfl rfl rfl trivial ?_
    refine w_st rfl rfl rfl trivial ?_
    refine w_st rfl rfl rfl trivial ?_
    refine w_z_eq rfl (fun _ => ?_) (fun z => by first | exact absurd ((lg_cmp_eq _ _).2 rfl) z | exact absurd z ((lg_cmp_eq _ _).2 rfl))
    refine w_st rfl rfl rfl trivial ?_
    refine w_inc rfl rfl rfl (Nat.le_of_ble_eq_true rfl) (nI_4 _) ?_
    refine w_st rfl rfl rfl trivial ?_
    exact ih cn1 sn1 J1 I2 _ _ _ _ hJ2 (by omega) (by omega)
theorem l_strictest (hJ : sp_Jn I) (hi : i + 4 ≤ L) (hL : L ≤ 2048) (hc : 4 * cn ≤ A + i) (hs : 4 * sn ≤ B + 6 * i) (ih : law_H L xs A B (i + 4) F) : mm_W 174 1258 [.ref 1001, .ref 0, .ref 61, .ref 70, .int (nI i), v5, v6, v7, v8] [] (cn, sn, J, L, xs) I F := by
  obtain ⟨k, cn1, sn1, J1, I1, b, I2, hk, hM, c1, s1, hR, h6, hq, hJ2⟩ := j_strictest (cn := cn) (sn := sn) (J := J) (L := L) (xs := xs) (x := xs (i + 1)) hJ
  refine w_st rfl rfl rfl trivial ?_
  refine w_st rfl rfl rfl trivial ?_
  refine w_st rfl rfl rfl trivial ?_
  refine w_st rfl rfl rfl trivial ?_
  refine w_iadd rfl ?_
  refine w_sy (i + 1) rfl (nI_add i 1) (by first | decide | omega) hL ?_
  refine w_st rfl rfl rfl trivial ?_
  refine w_k31 (hM) rfl ⟨rfl, by decide, by decide, by decide, Or.inr (Or.inl ⟨_, rfl⟩)⟩ (Nat.le_of_ble_eq_true rfl) trivial (Nat.le_of_ble_eq_true rfl) ?_  -- calls 173 cL_strictest
  refine w_st rfl rfl rfl (Nat.le_of_ble_eq_true rfl) ?_
  refine w_st rfl rfl rfl trivial ?_
  refine w_st rfl rfl rfl trivial ?_
  refine w_st rfl rfl rfl trivial ?_
  refine w_st rfl rfl rfl trivial ?_
  refine w_iadd rfl ?_
  refine w_sy (i + 1) rfl (nI_add i 1) (by first | decide | omega) hL ?_
  refine w_k21 (hR) rfl ⟨rfl, by decide, by decide, by decide, Or.inl ⟨_, rfl⟩⟩ (Nat.le_of_ble_eq_true rfl) (mm_foc rfl) (Nat.le_of_ble_eq_true rfl) ?_  -- calls 147 cX5_strictest
  refine w_st rfl rfl rfl (Nat.le_of_ble_eq_true rfl) ?_
  refine w_st rfl rfl rfl trivial ?_
  refine w_k11 (r_thrown h6) rfl ⟨rfl, by decide, by decide, by decide, Or.inl ⟨_, rfl⟩⟩ (Nat.le_of_ble_eq_true rfl) (mm_foc rfl) (Nat.le_of_ble_eq_true rfl) ?_  -- calls 88 cX5_thrown
  refine w_st rfl rfl rfl trivial ?_
  refine w_v_eq rfl (fun _ => ?_) (fun z => by first | exact absurd (rfl) z | exact absurd z (rfl))
  refine w_st rfl rfl rfl trivial ?_
  refine w_m_ne (a := k) rfl (by first | decide | omega) (by first | rfl | assumption | (simp only [← nI_add, ← nI_mul]; rfl)) (fun c => ?_) (fun c => ?_)
  · skip
    refine w_st rfl rfl rfl trivial ?_
    refine w_inc rfl rfl rfl (Nat.le_of_ble_eq_true rfl) (nI_4 _) ?_
    refine w_st rfl rfl rfl trivial ?_
    exact ih cn1 sn1 J1 I2 _ _ _ _ hJ2 (by omega) (by omega)
  · skip
    refine w_st rfl rfl rfl trivial ?_
    refine w_st rfl rfl rfl trivial ?_
    refine w_lz rfl rfl (hq c) ?_
    refine w_st rfl rfl rfl trivial ?_
    refine w_st rfl rfl rfl trivial ?_
    refine w_st rfl rfl rfl trivial ?_
    refine w_z_eq rfl (fun _ => ?_) (fun z => by first | exact absurd ((lg_cmp_eq _ _).2 rfl) z | exact absurd z ((lg_cmp_eq _ _).2 rfl))
    refine w_st rfl rfl rfl trivial ?_
    refine w_inc rfl rfl rfl (Nat.le_of_ble_eq_true rfl) (nI_4 _) ?_
    refine w_st rfl rfl rfl trivial ?_
    exact ih cn1 sn1 J1 I2 _ _ _ _ hJ2 (by omega) (by omega)
theorem l_nextBurn (hJ : sp_Jn I) (hi : i + 4 ≤ L) (hL : L ≤ 2048) (hc : 4 * cn ≤ A + i) (hs : 4 * sn ≤ B + 6 * i) (ih : law_H L xs A B (i + 4) F) : mm_W 174 1314 [.ref 1001, .ref 0, .ref 61, .ref 70, .int (nI i), v5, v6, v7, v8] [] (cn, sn, J, L, xs) I F := by
  obtain ⟨v, I1, I2, hM, hR, hJ2⟩ := j_nextBurn hJ (cn, sn, J, L, xs)
  refine w_st rfl rfl rfl trivial ?_
  refine w_k11 (hM) rfl ⟨rfl, by decide, by decide, by decide, Or.inl ⟨_, rfl⟩⟩ (Nat.le_of_ble_eq_true rfl) (mm_foc rfl) (Nat.le_of_ble_eq_true rfl) ?_  -- calls 57 cX4_nextBurn
  refine w_st rfl rfl rfl trivial ?_
  refine w_k11 (hR) rfl ⟨rfl, by decide, by decide, by decide, Or.inl ⟨_, rfl⟩⟩ (Nat.le_of_ble_eq_true rfl) (mm_foc rfl) (Nat.le_of_ble_eq_true rfl) ?_  -- calls 149 cX5_nextBurn
  refine w_v_eq rfl (fun _ => ?_) (fun z => by first | exact absurd (rfl) z | exact absurd z (rfl))
  refine w_inc rfl rfl rfl (Nat.le_of_ble_eq_true rfl) (nI_4 _) ?_
  refine w_st rfl rfl rfl trivial ?_
  exact ih cn sn J I2 _ _ _ _ hJ2 (by omega) (by omega)
theorem l_clarity (hJ : sp_Jn I) (hi : i + 4 ≤ L) (hL : L ≤ 2048) (hc : 4 * cn ≤ A + i) (hs : 4 * sn ≤ B + 6 * i) (ih : law_H L xs A B (i + 4) F) : mm_W 174 1327 [.ref 1001, .ref 0, .ref 61, .ref 70, .int (nI i), v5, v6, v7, v8] [] (cn, sn, J, L, xs) I F := by
  obtain ⟨v, I1, I2, ⟨mq, hmq, hv⟩, hM, hR, hJ2⟩ := j_clarity hJ (cn, sn, J, L, xs)
  have dz : Op.cmpValue (FP.dcmp v v) .l = 0 := by rw [hv]; exact sp_cl_z mq hmq
  refine w_st rfl rfl rfl trivial ?_
  refine w_k11 (hM) rfl ⟨rfl, by decide, by decide, by decide, Or.inl ⟨_, rfl⟩⟩ (Nat.le_of_ble_eq_true rfl) (mm_foc rfl) (Nat.le_of_ble_eq_true rfl) ?_  -- calls 58 cX4_clarity
  refine w_st rfl rfl rfl (Nat.le_of_ble_eq_true rfl) ?_
  refine w_st rfl rfl rfl trivial ?_
  refine w_k11 (hR) rfl ⟨rfl, by decide, by decide, by decide, Or.inl ⟨_, rfl⟩⟩ (Nat.le_of_ble_eq_true rfl) (mm_foc rfl) (Nat.le_of_ble_eq_true rfl) ?_  -- calls 151 cX5_clarity
  refine w_st rfl rfl rfl (Nat.le_of_ble_eq_true rfl) ?_
  refine w_st rfl rfl rfl trivial ?_
  refine w_st rfl rfl rfl trivial ?_
  refine w_st rfl rfl rfl trivial ?_
  refine w_z_eq rfl (fun _ => ?_) (fun z => by first | exact absurd (dz) z | exact absurd z (dz))
  refine w_st rfl rfl rfl trivial ?_
  refine w_inc rfl rfl rfl (Nat.le_of_ble_eq_true rfl) (nI_4 _) ?_
  refine w_st rfl rfl rfl trivial ?_
  exact ih cn sn J I2 _ _ _ _ hJ2 (by omega) (by omega)
theorem l_digest (hJ : sp_Jn I) (hi : i + 4 ≤ L) (hL : L ≤ 2048) (hc : 4 * cn ≤ A + i) (hs : 4 * sn ≤ B + 6 * i) (ih : law_H L xs A B (i + 4) F) : mm_W 174 1368 [.ref 1001, .ref 0, .ref 61, .ref 70, .int (nI i), v5, v6, v7, v8] [] (cn, sn, J, L, xs) I F := by
  obtain ⟨v, I1, I2, hM, hR, hJ2⟩ := j_digest hJ (cn, sn, J, L, xs)
  refine w_st rfl rfl rfl trivial ?_
  refine w_k11 (hM) rfl ⟨rfl, by decide, by decide, by decide, Or.inl ⟨_, rfl⟩⟩ (Nat.le_of_ble_eq_true rfl) (mm_foc rfl) (Nat.le_of_ble_eq_true rfl) ?_  -- calls 59 cX4_digest
  refine w_st rfl rfl rfl trivial ?_
  refine w_k11 (hR) rfl ⟨rfl, by decide, by decide, by decide, Or.inl ⟨_, rfl⟩⟩ (Nat.le_of_ble_eq_true rfl) (mm_foc rfl) (Nat.le_of_ble_eq_true rfl) ?_  -- calls 152 cX5_digest
  refine w_st rfl rfl rfl trivial ?_
  refine w_z_eq rfl (fun _ => ?_) (fun z => by first | exact absurd ((lg_cmp_eq _ _).2 rfl) z | exact absurd z ((lg_cmp_eq _ _).2 rfl))
  refine w_inc rfl rfl rfl (Nat.le_of_ble_eq_true rfl) (nI_4 _) ?_
  refine w_st rfl rfl rfl trivial ?_
  exact ih cn sn J I2 _ _ _ _ hJ2 (by omega) (by omega)
theorem l_none (hJ : sp_Jn I) (hc : 4 * cn ≤ A + i) (hs : 4 * sn ≤ B + 6 * i) (ih : law_H L xs A B (i + 4) F) : mm_W 174 1382 [.ref 1001, .ref 0, .ref 61, .ref 70, .int (nI i), v5, v6, v7, v8] [] (cn, sn, J, L, xs) I F := by
  refine w_inc rfl rfl rfl (Nat.le_of_ble_eq_true rfl) (nI_4 _) ?_
  refine w_st rfl rfl rfl trivial ?_
  exact ih cn sn J I _ _ _ _ hJ (by omega) (by omega)
end SM
