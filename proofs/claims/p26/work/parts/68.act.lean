/-! the law's act -/
/-- a state with at most B hours -/
def sp_oh (B : Nat) (σ : sp_St) : Prop := sp_ok σ ∧ ∃ N, N ≤ B ∧ σ 0 = nI N
def sp_iv (B : Nat) (I : mm_Is) (σ : sp_St) (n : Nat) (ps : Nat → sp_St) : Prop := (∃ m tx, sp_C I σ n ps m tx) ∧ sp_oh B σ ∧ ∀ i, i < n → sp_oh B (ps i)
theorem sp_oh_le {B B' : Nat} {σ : sp_St} (h : B ≤ B') (x : sp_oh B σ) : sp_oh B' σ := ⟨x.1, by obtain ⟨N, h1, h2⟩ := x.2; exact ⟨N, by omega, h2⟩⟩
theorem sp_oh_sp {B n : Nat} {σ : sp_St} {ps : Nat → sp_St} (ok : sp_oh B σ) (okp : ∀ i, i < n → sp_oh B (ps i)) : ∀ i, i < sp_sn n → sp_oh B (sp_sp n ps σ i) := by
  intro i hi
  unfold sp_sn at hi
  show sp_oh B (if n < 6 then (if i = n then σ else ps i) else (if i = 5 then σ else ps (i + 1)))
  by_cases c : n < 6
  · rw [if_pos c] at hi ⊢
    by_cases c2 : i = n
    · rw [if_pos c2]; exact ok
    · rw [if_neg c2]; exact okp i (by omega)
  · rw [if_neg c] at hi ⊢
    by_cases c2 : i = 5
    · rw [if_pos c2]; exact ok
    · rw [if_neg c2]; exact okp (i + 1) (by omega)
/-- what the law's act comes to -/
def sp_at (k : Nat) (cn sn : Nat) (J : Nat → Nat → Int64) (L : Nat) (xs : Nat → Int32) (B : Nat) (I : mm_Is) (σ : sp_St) (n : Nat) : Prop := ∃ told cn1 sn1 I1 σ1 n1 ps1, mm_Me 76 5 [.ref 0, .ref 1001, .int (nI k)] (mm_hp (cn, sn, J, L, xs) I) ((0, some (.int told)), mm_hp (cn1, sn1, J, L, xs) I1) ∧ cn1 ≤ cn + 1 ∧ sn1 ≤ sn + 6 ∧ sp_iv (B + 90) I1 σ1 n1 ps1 ∧ ((∃ t, t < 2 ^ 31 ∧ told = nI t) ∨ (told = -3 ∧ σ1 = σ ∧ n1 = n)) ∧ (13 < sp_lw (xs k) 16 → told = nI (sp_hi σ (1 + sp_lw (xs (k + 2)) 90)).2 ∧ σ1 = (sp_hi σ (1 + sp_lw (xs (k + 2)) 90)).1)
section SM
variable {I I1 : mm_Is} {F : mm_Ph} {x y z : Int32} {k t f n m L cn sn B : Nat} {J : Nat → Nat → Int64} {xs : Nat → Int32} {σ : sp_St} {ps : Nat → sp_St}
theorem l_apre (hL : L ≤ 260) (hk : k + 2 < L) (t : Nat) (ht : mm_tsw 228 [96, 96, 96, 96, 96, 114, 114, 132, 155, 155, 185, 197, 211, 223] (nI (sp_lw (xs k) 16)) = t) (K : mm_W 76 t [.ref 0, .ref 1001, .int (nI k), .int (xs (k + 1)), .int (xs (k + 2))] [] (cn, sn, J, L, xs) I F) : mm_W 76 0 [.ref 0, .ref 1001, .int (nI k), .null, .null] [] (cn, sn, J, L, xs) I F := by
  refine w_st rfl rfl rfl trivial ?_
  refine w_st rfl rfl rfl trivial ?_
  refine w_st rfl rfl rfl trivial ?_
  refine w_iadd rfl ?_
  refine w_hd (nI_1 k) ?_
  refine w_k21 (l_cell hL (show k + 1 < L by omega)) rfl ⟨rfl, by decide, by decide, by decide, Or.inr (Or.inl ⟨_, rfl⟩)⟩ (Nat.le_of_ble_eq_true rfl) trivial (Nat.le_of_ble_eq_true rfl) ?_  -- calls 69 cL_cell
  refine w_st rfl rfl rfl (Nat.le_of_ble_eq_true rfl) ?_
  refine w_st rfl rfl rfl trivial ?_
  refine w_st rfl rfl rfl trivial ?_
  refine w_st rfl rfl rfl trivial ?_
  refine w_iadd rfl ?_
  refine w_hd (nI_add k 2) ?_
  refine w_k21 (l_cell hL hk) rfl ⟨rfl, by decide, by decide, by decide, Or.inr (Or.inl ⟨_, rfl⟩)⟩ (Nat.le_of_ble_eq_true rfl) trivial (Nat.le_of_ble_eq_true rfl) ?_  -- calls 69 cL_cell
  refine w_st rfl rfl rfl (Nat.le_of_ble_eq_true rfl) ?_
  refine w_st rfl rfl rfl trivial ?_
  refine w_st rfl rfl rfl trivial ?_
  refine w_k21 (l_cell hL (show k < L by omega)) rfl ⟨rfl, by decide, by decide, by decide, Or.inr (Or.inl ⟨_, rfl⟩)⟩ (Nat.le_of_ble_eq_true rfl) trivial (Nat.le_of_ble_eq_true rfl) ?_  -- calls 69 cL_cell
  refine w_st rfl rfl rfl trivial ?_
  refine w_k21 (l_low (n := 16) (by decide) (by decide)) rfl ⟨rfl, by decide, by decide, by decide, Or.inr (Or.inl ⟨_, rfl⟩)⟩ (Nat.le_of_ble_eq_true rfl) trivial (Nat.le_of_ble_eq_true rfl) ?_  -- calls 68 cL_low
  exact w_tab rfl t ht K
/-- an op that went: the state before is saved -/
theorem l_aop (hi : sp_iv B I σ n ps) {told : Int32} {I1 : mm_Is} {σ1 : sp_St} {m : Nat} {tx : Nat → Int32} {N : Nat} (hC : sp_C I1 σ1 (sp_sn n) (sp_sp n ps σ) m tx) (ok : sp_ok σ1) (h0 : σ1 0 = nI N) (hN : N ≤ B + 90) (ht : ∃ t, t < 2 ^ 31 ∧ told = nI t) (hp : 13 < sp_lw (xs k) 16 → told = nI (sp_hi σ (1 + sp_lw (xs (k + 2)) 90)).2 ∧ σ1 = (sp_hi σ (1 + sp_lw (xs (k + 2)) 90)).1) (hM : mm_Me 76 5 [.ref 0, .ref 1001, .int (nI k)] (mm_hp (cn, sn, J, L, xs) I) ((0, some (.int told)), mm_hp (cn, sn, J, L, xs) I1)) : sp_at k cn sn J L xs B I σ n :=
  ⟨told, cn, sn, I1, σ1, sp_sn n, sp_sp n ps σ, hM, by omega, by omega, ⟨⟨m, tx, hC⟩, ⟨ok, N, hN, h0⟩, sp_oh_sp (sp_oh_le (by omega) hi.2.1) (fun i h => sp_oh_le (by omega) (hi.2.2 i h))⟩, Or.inl ht, hp⟩
/-- an op that could not be done -/
theorem l_ath (hi : sp_iv B I σ n ps) (hno : ¬ 13 < sp_lw (xs k) 16) (hM : mm_Me 76 5 [.ref 0, .ref 1001, .int (nI k)] (mm_hp (cn, sn, J, L, xs) I) ((0, some (.int (-3))), mm_hp (mm_gx (cn, sn, J, L, xs)) I)) : sp_at k cn sn J L xs B I σ n :=
  ⟨-3, cn + 1, sn + 6, I, σ, n, ps, hM, by omega, by omega, ⟨hi.1, sp_oh_le (by omega) hi.2.1, fun i h => sp_oh_le (by omega) (hi.2.2 i h)⟩, Or.inr ⟨rfl, rfl, rfl⟩, fun z => absurd z hno⟩
theorem p_sw : ∀ j, j < 16 → ∀ l, mm_tsw 228 [96, 96, 96, 96, 96, 114, 114, 132, 155, 155, 185, 197, 211, 223] (nI j) = l ↔ ([96, 96, 96, 96, 96, 114, 114, 132, 155, 155, 185, 197, 211, 223, 228, 228] : List Nat).getD j 0 = l := by
  intro j hj l
  have e : mm_tsw 228 [96, 96, 96, 96, 96, 114, 114, 132, 155, 155, 185, 197, 211, 223] (nI j) = ([96, 96, 96, 96, 96, 114, 114, 132, 155, 155, 185, 197, 211, 223, 228, 228] : List Nat).getD j 0 := by
    revert j
    unfold mm_tsw
    decide +kernel
  rw [e]
theorem l_lamp (q : Bool) (hL : L ≤ 260) (hk : k + 2 < L) (hi : sp_iv B I σ n ps) (hop : if q then sp_lw (xs k) 16 < 5 else 5 ≤ sp_lw (xs k) 16 ∧ sp_lw (xs k) 16 < 7) : sp_at k cn sn J L xs B I σ n := by
  obtain ⟨⟨m, tx, hC⟩, ⟨ok, N, hN, h0⟩, okp⟩ := id hi
  have hf := sp_lw_lt (v := xs (k + 1)) (n := 4) (by decide)
  have hl := sp_lw_lt (v := xs (k + 2)) (n := 15) (by decide)
  obtain ⟨I1, hM, hC1, -⟩ := c_lamp (g := (cn, sn, J, L, xs)) hC hf hl q
  have cg := sp_cg_le (sp_R (sp_set σ (sp_lw (xs (k + 1)) 4) (sp_lw (xs (k + 2)) 15) q) (sp_lw (xs (k + 1)) 4)) (sp_R σ (sp_lw (xs (k + 1)) 4)) 10
  refine l_aop (told := nI (sp_cg (sp_R (sp_set σ (sp_lw (xs (k + 1)) 4) (sp_lw (xs (k + 2)) 15) q) (sp_lw (xs (k + 1)) 4)) (sp_R σ (sp_lw (xs (k + 1)) 4)) 10)) hi hC1 (sp_ok_set ok hf hl) (by rw [sp_set_o (by omega) (by decide)]; exact h0) (by omega) ⟨_, by omega, rfl⟩ (fun z => by cases q <;> simp at hop <;> omega) ?_
  cases q
  · have hop' : 5 ≤ sp_lw (xs k) 16 ∧ sp_lw (xs k) 16 < 7 := by simpa using hop
    refine w_MG (l_apre hL hk 114 ((p_sw _ (by omega) _).2 ?_) ?_)
    · obtain ⟨h1, h2⟩ := hop'
      generalize sp_lw (xs k) 16 = j at *
      have : j = 5 ∨ j = 6 := by omega
      rcases this with rfl | rfl <;> rfl
    · skip
      refine w_st rfl rfl rfl trivial ?_
      refine w_st rfl rfl rfl trivial ?_
      refine w_st rfl rfl rfl trivial ?_
      refine w_k21 (l_low (n := 4) (by decide) (by decide)) rfl ⟨rfl, by decide, by decide, by decide, Or.inr (Or.inl ⟨_, rfl⟩)⟩ (Nat.le_of_ble_eq_true rfl) trivial (Nat.le_of_ble_eq_true rfl) ?_  -- calls 68 cL_low
      refine w_st rfl rfl rfl trivial ?_
      refine w_st rfl rfl rfl trivial ?_
      refine w_k21 (l_low (n := 15) (by decide) (by decide)) rfl ⟨rfl, by decide, by decide, by decide, Or.inr (Or.inl ⟨_, rfl⟩)⟩ (Nat.le_of_ble_eq_true rfl) trivial (Nat.le_of_ble_eq_true rfl) ?_  -- calls 68 cL_low
      refine w_st rfl rfl rfl trivial ?_
      refine w_k41 (hM) rfl ⟨rfl, by decide, by decide, by decide, Or.inl ⟨_, rfl⟩⟩ (Nat.le_of_ble_eq_true rfl) (mm_foc rfl) (Nat.le_of_ble_eq_true rfl) ?_  -- calls 29 cX4_lamp
      refine w_reti rfl ?_
      exact ⟨rfl, rfl, rfl⟩
  · have hop' : sp_lw (xs k) 16 < 5 := by simpa using hop
    refine w_MG (l_apre hL hk 96 ((p_sw _ (by omega) _).2 ?_) ?_)
    · generalize sp_lw (xs k) 16 = j at *
      have : j = 0 ∨ j = 1 ∨ j = 2 ∨ j = 3 ∨ j = 4 := by omega
      rcases this with rfl | rfl | rfl | rfl | rfl <;> rfl
    · skip
      refine w_st rfl rfl rfl trivial ?_
      refine w_st rfl rfl rfl trivial ?_
      refine w_st rfl rfl rfl trivial ?_
      refine w_k21 (l_low (n := 4) (by decide) (by decide)) rfl ⟨rfl, by decide, by decide, by decide, Or.inr (Or.inl ⟨_, rfl⟩)⟩ (Nat.le_of_ble_eq_true rfl) trivial (Nat.le_of_ble_eq_true rfl) ?_  -- calls 68 cL_low
      refine w_st rfl rfl rfl trivial ?_
      refine w_st rfl rfl rfl trivial ?_
      refine w_k21 (l_low (n := 15) (by decide) (by decide)) rfl ⟨rfl, by decide, by decide, by decide, Or.inr (Or.inl ⟨_, rfl⟩)⟩ (Nat.le_of_ble_eq_true rfl) trivial (Nat.le_of_ble_eq_true rfl) ?_  -- calls 68 cL_low
      refine w_st rfl rfl rfl trivial ?_
      refine w_k41 (hM) rfl ⟨rfl, by decide, by decide, by decide, Or.inl ⟨_, rfl⟩⟩ (Nat.le_of_ble_eq_true rfl) (mm_foc rfl) (Nat.le_of_ble_eq_true rfl) ?_  -- calls 29 cX4_lamp
      refine w_reti rfl ?_
      exact ⟨rfl, rfl, rfl⟩
theorem l_mend (hL : L ≤ 260) (hk : k + 2 < L) (hi : sp_iv B I σ n ps) (hop : sp_lw (xs k) 16 = 7) : sp_at k cn sn J L xs B I σ n := by
  obtain ⟨⟨m, tx, hC⟩, ⟨ok, N, hN, h0⟩, okp⟩ := id hi
  have hf := sp_lw_lt (v := xs (k + 1)) (n := 4) (by decide)
  have hlb := sp_lw_lt (v := xs (k + 2)) (n := 4) (by decide)
  by_cases c : sp_lw (xs (k + 2)) 4 = 0
  · obtain ⟨I1, hM, hC1, -⟩ := c_mend (g := (cn, sn, J, L, xs)) hC hf
    obtain ⟨pp, pp1, pp2⟩ := sp_pop_k (ok.2.1 _ hf)
    refine l_aop hi hC1 (sp_ok_md ok hf 15 (Nat.le_refl _)) (by rw [sp_md_o (by omega) (by decide)]; exact h0) (by omega) ⟨pp, by omega, pp2⟩ (fun z => by omega) ?_
    refine w_MG (l_apre hL hk 132 ((p_sw _ (by omega) _).2 (by rw [hop]; rfl)) ?_)
    refine w_st rfl rfl rfl trivial ?_
    refine w_st rfl rfl rfl trivial ?_
    refine w_k21 (l_low (n := 4) (by decide) (by decide)) rfl ⟨rfl, by decide, by decide, by decide, Or.inr (Or.inl ⟨_, rfl⟩)⟩ (Nat.le_of_ble_eq_true rfl) trivial (Nat.le_of_ble_eq_true rfl) ?_  -- calls 68 cL_low
    refine w_m_ne (a := sp_lw (xs (k + 2)) 4) rfl (by first | decide | omega) (by first | rfl | assumption | (simp only [← nI_add, ← nI_mul]; rfl)) (fun c => by exfalso; omega) (fun _ => ?_)
    refine w_st rfl rfl rfl trivial ?_
    refine w_st rfl rfl rfl trivial ?_
    refine w_st rfl rfl rfl trivial ?_
    refine w_k21 (l_low (n := 4) (by decide) (by decide)) rfl ⟨rfl, by decide, by decide, by decide, Or.inr (Or.inl ⟨_, rfl⟩)⟩ (Nat.le_of_ble_eq_true rfl) trivial (Nat.le_of_ble_eq_true rfl) ?_  -- calls 68 cL_low
    refine w_k21 (hM) rfl ⟨rfl, by decide, by decide, by decide, Or.inl ⟨_, rfl⟩⟩ (Nat.le_of_ble_eq_true rfl) (mm_foc rfl) (Nat.le_of_ble_eq_true rfl) ?_  -- calls 30 cX4_mend
    refine w_st rfl rfl rfl trivial ?_
    refine w_reti rfl ?_
    exact ⟨rfl, rfl, rfl⟩
  · refine ⟨0, cn, sn, I, σ, n, ps, ?_, by omega, by omega, ⟨hi.1, sp_oh_le (by omega) hi.2.1, fun i h => sp_oh_le (by omega) (hi.2.2 i h)⟩, Or.inl ⟨0, by decide, rfl⟩, fun z => by omega⟩
    refine w_MG (l_apre hL hk 132 ((p_sw _ (by omega) _).2 (by rw [hop]; rfl)) ?_)
    refine w_st rfl rfl rfl trivial ?_
    refine w_st rfl rfl rfl trivial ?_
    refine w_k21 (l_low (n := 4) (by decide) (by decide)) rfl ⟨rfl, by decide, by decide, by decide, Or.inr (Or.inl ⟨_, rfl⟩)⟩ (Nat.le_of_ble_eq_true rfl) trivial (Nat.le_of_ble_eq_true rfl) ?_  -- calls 68 cL_low
    refine w_m_ne (a := sp_lw (xs (k + 2)) 4) rfl (by first | decide | omega) (by first | rfl | assumption | (simp only [← nI_add, ← nI_mul]; rfl)) (fun _ => ?_) (fun c => by exfalso; omega)
    refine w_st rfl rfl rfl trivial ?_
    refine w_reti rfl ?_
    exact ⟨rfl, rfl, rfl⟩
theorem p_sub1 (c : Nat) (hc : c < 11) : nI c - 1 = -1 ∧ c = 0 ∨ ∃ d, d < 10 ∧ nI c - 1 = nI d := by
  by_cases h : c = 0
  · subst h; exact Or.inl ⟨by decide, rfl⟩
  · obtain ⟨d, rfl⟩ : ∃ d, c = d + 1 := ⟨c - 1, by omega⟩
    exact Or.inr ⟨d, by omega, nI_pred d⟩
theorem l_show (hL : L ≤ 260) (hk : k + 2 < L) (hi : sp_iv B I σ n ps) (hop : 8 ≤ sp_lw (xs k) 16 ∧ sp_lw (xs k) 16 < 10) : sp_at k cn sn J L xs B I σ n := by
  obtain ⟨⟨m, tx, hC⟩, ⟨ok, N, hN, h0⟩, okp⟩ := id hi
  have hf := sp_lw_lt (v := xs (k + 1)) (n := 4) (by decide)
  have hc := sp_lw_lt (v := xs (k + 2)) (n := 11) (by decide)
  have hsw : ([96, 96, 96, 96, 96, 114, 114, 132, 155, 155, 185, 197, 211, 223, 228, 228] : List Nat).getD (sp_lw (xs k) 16) 0 = 155 := by
    generalize sp_lw (xs k) 16 = j at *
    have : j = 8 ∨ j = 9 := by omega
    rcases this with rfl | rfl <;> rfl
  have hd : nI (sp_lw (xs (k + 2)) 11) - 1 = -1 ∨ ∃ d, d < 10 ∧ nI (sp_lw (xs (k + 2)) 11) - 1 = nI d := (p_sub1 _ hc).imp (fun z => z.1) (fun z => z)
  by_cases h3 : nI (sp_lw (xs (k + 2)) 11) - 1 = -1 ∨ sp_can (sp_R σ (sp_lw (xs (k + 1)) 4)) (nI (sp_lw (xs (k + 2)) 11) - 1)
  · obtain ⟨I1, hM, hC1, -⟩ := c_show (g := (cn, sn, J, L, xs)) hC hf h3
    have n3 : ¬ σ (4 + sp_lw (xs (k + 1)) 4) = -3 := by
      rcases ok.1 _ hf with e | ⟨d, hd, e⟩
      · rw [e]; decide
      · rw [e]; intro z
        have h1 := nI_toInt (show d < 2 ^ 31 by omega)
        rw [z] at h1
        have h2 : (-3 : Int32).toInt = -3 := by decide
        omega
    refine l_aop hi (told := 0) hC1 (sp_ok_show ok hf hd) (by rw [upd_n (by omega)]; exact h0) (by omega) ⟨0, by decide, rfl⟩ (fun z => by omega) ?_
    refine w_MG (l_apre hL hk 155 ((p_sw _ (by omega) _).2 hsw) ?_)
    refine w_st rfl rfl rfl trivial ?_
    refine w_st rfl rfl rfl trivial ?_
    refine w_st rfl rfl rfl trivial ?_
    refine w_k21 (l_low (n := 4) (by decide) (by decide)) rfl ⟨rfl, by decide, by decide, by decide, Or.inr (Or.inl ⟨_, rfl⟩)⟩ (Nat.le_of_ble_eq_true rfl) trivial (Nat.le_of_ble_eq_true rfl) ?_  -- calls 68 cL_low
    refine w_st rfl rfl rfl trivial ?_
    refine w_st rfl rfl rfl trivial ?_
    refine w_k21 (l_low (n := 11) (by decide) (by decide)) rfl ⟨rfl, by decide, by decide, by decide, Or.inr (Or.inl ⟨_, rfl⟩)⟩ (Nat.le_of_ble_eq_true rfl) trivial (Nat.le_of_ble_eq_true rfl) ?_  -- calls 68 cL_low
    refine w_st rfl rfl rfl trivial ?_
    refine w_isub rfl ?_
    refine w_k31 (h_show hM) rfl ⟨rfl, by decide, by decide, by decide, Or.inr (Or.inl ⟨_, rfl⟩)⟩ (Nat.le_of_ble_eq_true rfl) trivial (Nat.le_of_ble_eq_true rfl) ?_  -- calls 71 cL_show
    refine w_st rfl rfl rfl trivial ?_
    refine w_v_ne rfl (fun _ => ?_) (fun z => by first | exact absurd (n3) z | exact absurd z (n3))
    refine w_st rfl rfl rfl trivial ?_
    refine w_reti rfl ?_
    exact ⟨rfl, rfl, rfl⟩
  · have n1 : ¬ nI (sp_lw (xs (k + 2)) 11) - 1 = -1 := fun z => h3 (Or.inl z)
    refine l_ath hi (by omega) ?_
    refine w_MG (l_apre hL hk 155 ((p_sw _ (by omega) _).2 hsw) ?_)
    refine w_st rfl rfl rfl trivial ?_
    refine w_st rfl rfl rfl trivial ?_
    refine w_st rfl rfl rfl trivial ?_
    refine w_k21 (l_low (n := 4) (by decide) (by decide)) rfl ⟨rfl, by decide, by decide, by decide, Or.inr (Or.inl ⟨_, rfl⟩)⟩ (Nat.le_of_ble_eq_true rfl) trivial (Nat.le_of_ble_eq_true rfl) ?_  -- calls 68 cL_low
    refine w_st rfl rfl rfl trivial ?_
    refine w_st rfl rfl rfl trivial ?_
    refine w_k21 (l_low (n := 11) (by decide) (by decide)) rfl ⟨rfl, by decide, by decide, by decide, Or.inr (Or.inl ⟨_, rfl⟩)⟩ (Nat.le_of_ble_eq_true rfl) trivial (Nat.le_of_ble_eq_true rfl) ?_  -- calls 68 cL_low
    refine w_st rfl rfl rfl trivial ?_
    refine w_isub rfl ?_
    refine w_k31 (h_show_3 (c_show_3 hC.1 hf n1 (hd.resolve_left n1) (fun z => h3 (Or.inr z)))) rfl ⟨rfl, by decide, by decide, by decide, Or.inr (Or.inl ⟨_, rfl⟩)⟩ (Nat.le_of_ble_eq_true rfl) trivial (Nat.le_of_ble_eq_true rfl) ?_  -- calls 71 cL_show
    refine w_st rfl rfl rfl trivial ?_
    refine w_v_ne rfl (fun z => by first | exact absurd z (rfl) | exact absurd (rfl) z) (fun _ => ?_)
    refine w_st rfl rfl rfl trivial ?_
    refine w_st rfl rfl rfl trivial ?_
    refine w_reti rfl ?_
    exact ⟨rfl, rfl, rfl⟩
theorem p_wd_le (n : Nat) : sp_wd σ n ≤ n := by
  induction n with
  | zero => exact Nat.le_refl _
  | succ n ih =>
    show sp_wd σ n + sp_if (σ (4 + n) = -1) 0 1 ≤ n + 1
    by_cases c : σ (4 + n) = -1
    · rw [sp_if_t c]; omega
    · rw [sp_if_f c]; omega
theorem l_number (hL : L ≤ 260) (hk : k + 2 < L) (hi : sp_iv B I σ n ps) (hop : sp_lw (xs k) 16 = 10) : sp_at k cn sn J L xs B I σ n := by
  obtain ⟨⟨m, tx, hC⟩, ⟨ok, N, hN, h0⟩, okp⟩ := id hi
  have hc := sp_lw_lt (v := xs (k + 1)) (n := 10000) (by decide)
  by_cases h3 : sp_nok σ (sp_lw (xs (k + 1)) 10000) 4
  · obtain ⟨I1, hM, hC1, -⟩ := c_number (g := (cn, sn, J, L, xs)) hC hc h3
    have := p_wd_le (σ := sp_nu σ (sp_lw (xs (k + 1)) 10000) 4) 4
    refine l_aop (told := nI (sp_wd (sp_nu σ (sp_lw (xs (k + 1)) 10000) 4) 4)) hi hC1 (sp_ok_nu ok) (by rw [sp_nu_o 4 (by omega)]; exact h0) (by omega) ⟨_, by omega, rfl⟩ (fun z => by omega) ?_
    refine w_MG (l_apre hL hk 185 ((p_sw _ (by omega) _).2 (by rw [hop]; rfl)) ?_)
    refine w_st rfl rfl rfl trivial ?_
    refine w_st rfl rfl rfl trivial ?_
    refine w_st rfl rfl rfl trivial ?_
    refine w_k21 (l_low (n := 10000) (by decide) (by decide)) rfl ⟨rfl, by decide, by decide, by decide, Or.inr (Or.inl ⟨_, rfl⟩)⟩ (Nat.le_of_ble_eq_true rfl) trivial (Nat.le_of_ble_eq_true rfl) ?_  -- calls 68 cL_low
    refine w_k21 (h_number hM) rfl ⟨rfl, by decide, by decide, by decide, Or.inr (Or.inl ⟨_, rfl⟩)⟩ (Nat.le_of_ble_eq_true rfl) trivial (Nat.le_of_ble_eq_true rfl) ?_  -- calls 72 cL_number
    refine w_reti rfl ?_
    exact ⟨rfl, rfl, rfl⟩
  · refine l_ath hi (by omega) ?_
    refine w_MG (l_apre hL hk 185 ((p_sw _ (by omega) _).2 (by rw [hop]; rfl)) ?_)
    refine w_st rfl rfl rfl trivial ?_
    refine w_st rfl rfl rfl trivial ?_
    refine w_st rfl rfl rfl trivial ?_
    refine w_k21 (l_low (n := 10000) (by decide) (by decide)) rfl ⟨rfl, by decide, by decide, by decide, Or.inr (Or.inl ⟨_, rfl⟩)⟩ (Nat.le_of_ble_eq_true rfl) trivial (Nat.le_of_ble_eq_true rfl) ?_  -- calls 68 cL_low
    refine w_k21 (h_number_3 (c_number_2 hC.1 hc h3)) rfl ⟨rfl, by decide, by decide, by decide, Or.inr (Or.inl ⟨_, rfl⟩)⟩ (Nat.le_of_ble_eq_true rfl) trivial (Nat.le_of_ble_eq_true rfl) ?_  -- calls 72 cL_number
    refine w_reti rfl ?_
    exact ⟨rfl, rfl, rfl⟩
theorem l_set0 (hL : L ≤ 260) (hk : k + 2 < L) (hi : sp_iv B I σ n ps) (hop : sp_lw (xs k) 16 = 11) : sp_at k cn sn J L xs B I σ n := by
  obtain ⟨⟨m, tx, hC⟩, ⟨ok, N, hN, h0⟩, okp⟩ := id hi
  have hc := sp_lw_lt (v := xs (k + 2)) (n := 5) (by decide)
  obtain ⟨s, s1, s2, s3⟩ := ok.2.2.1
  have hy : (0 = 0 ∧ 1 ≤ nI (1 + sp_lw (xs (k + 2)) 5) ∧ nI (1 + sp_lw (xs (k + 2)) 5) ≤ 5) ∨ (0 = 1 ∧ sp_lt 100 (nI (1 + sp_lw (xs (k + 2)) 5))) :=
    Or.inl ⟨rfl, (nI_leI (a := 1) (by omega) (by omega)).2 (by omega), (nI_leI (b := 5) (by omega) (by omega)).2 (by omega)⟩
  obtain ⟨I1, hM, hC1, -⟩ := c_set (g := (cn, sn, J, L, xs)) hC (show 0 < 2 by decide) hy
  refine l_aop hi hC1 (sp_ok_st ok (by decide) hy) (by rw [upd_n (by omega)]; exact h0) (by omega) ⟨s, by omega, s3⟩ (fun z => by omega) ?_
  refine w_MG (l_apre hL hk 197 ((p_sw _ (by omega) _).2 (by rw [hop]; rfl)) ?_)
  refine w_st rfl rfl rfl trivial ?_
  refine w_st rfl rfl rfl trivial ?_
  refine w_st rfl rfl rfl trivial ?_
  refine w_st rfl rfl rfl trivial ?_
  refine w_st rfl rfl rfl trivial ?_
  refine w_k21 (l_low (n := 5) (by decide) (by decide)) rfl ⟨rfl, by decide, by decide, by decide, Or.inr (Or.inl ⟨_, rfl⟩)⟩ (Nat.le_of_ble_eq_true rfl) trivial (Nat.le_of_ble_eq_true rfl) ?_  -- calls 68 cL_low
  refine w_iadd rfl ?_
  refine w_hd (show 1 + nI (sp_lw (xs (k + 2)) 5) = nI (1 + sp_lw (xs (k + 2)) 5) from nI_add 1 _) ?_
  refine w_k31 (hM) rfl ⟨rfl, by decide, by decide, by decide, Or.inl ⟨_, rfl⟩⟩ (Nat.le_of_ble_eq_true rfl) (mm_foc rfl) (Nat.le_of_ble_eq_true rfl) ?_  -- calls 32 cX4_set
  refine w_reti rfl ?_
  exact ⟨rfl, rfl, rfl⟩
theorem l_set1 (hL : L ≤ 260) (hk : k + 2 < L) (hi : sp_iv B I σ n ps) (hop : sp_lw (xs k) 16 = 12) : sp_at k cn sn J L xs B I σ n := by
  obtain ⟨⟨m, tx, hC⟩, ⟨ok, N, hN, h0⟩, okp⟩ := id hi
  have hc := sp_lw_lt (v := xs (k + 2)) (n := 4) (by decide)
  obtain ⟨s, s2, s3⟩ := ok.2.2.2.1
  have hy : (1 = 0 ∧ 1 ≤ nI (sp_lw (xs (k + 2)) 4) ∧ nI (sp_lw (xs (k + 2)) 4) ≤ 5) ∨ (1 = 1 ∧ sp_lt 100 (nI (sp_lw (xs (k + 2)) 4))) := Or.inr ⟨rfl, _, by omega, rfl⟩
  obtain ⟨I1, hM, hC1, -⟩ := c_set (g := (cn, sn, J, L, xs)) hC (show 1 < 2 by decide) hy
  refine l_aop hi hC1 (sp_ok_st ok (by decide) hy) (by rw [upd_n (by omega)]; exact h0) (by omega) ⟨s, by omega, s3⟩ (fun z => by omega) ?_
  refine w_MG (l_apre hL hk 211 ((p_sw _ (by omega) _).2 (by rw [hop]; rfl)) ?_)
  refine w_st rfl rfl rfl trivial ?_
  refine w_st rfl rfl rfl trivial ?_
  refine w_st rfl rfl rfl trivial ?_
  refine w_st rfl rfl rfl trivial ?_
  refine w_k21 (l_low (n := 4) (by decide) (by decide)) rfl ⟨rfl, by decide, by decide, by decide, Or.inr (Or.inl ⟨_, rfl⟩)⟩ (Nat.le_of_ble_eq_true rfl) trivial (Nat.le_of_ble_eq_true rfl) ?_  -- calls 68 cL_low
  refine w_k31 (hM) rfl ⟨rfl, by decide, by decide, by decide, Or.inl ⟨_, rfl⟩⟩ (Nat.le_of_ble_eq_true rfl) (mm_foc rfl) (Nat.le_of_ble_eq_true rfl) ?_  -- calls 32 cX4_set
  refine w_reti rfl ?_
  exact ⟨rfl, rfl, rfl⟩
theorem l_undo (hL : L ≤ 260) (hk : k + 2 < L) (hi : sp_iv B I σ n ps) (hop : sp_lw (xs k) 16 = 13) : sp_at k cn sn J L xs B I σ n := by
  obtain ⟨⟨m, tx, hC⟩, ⟨ok, N, hN, h0⟩, okp⟩ := id hi
  have n6 : n ≤ 6 := hC.2.1.2.1
  rcases Nat.eq_zero_or_pos n with c | c
  · refine l_ath hi (by omega) ?_
    refine w_MG (l_apre hL hk 223 ((p_sw _ (by omega) _).2 (by rw [hop]; rfl)) ?_)
    refine w_st rfl rfl rfl trivial ?_
    refine w_k11 (h_undo_3 (c_undo_1 (by rw [hC.2.1.1, c]))) rfl ⟨rfl, by decide, by decide, by decide, Or.inr (Or.inl ⟨_, rfl⟩)⟩ (Nat.le_of_ble_eq_true rfl) trivial (Nat.le_of_ble_eq_true rfl) ?_  -- calls 73 cL_undo
    refine w_reti rfl ?_
    exact ⟨rfl, rfl, rfl⟩
  · obtain ⟨n', rfl⟩ : ∃ n', n = n' + 1 := ⟨n - 1, by omega⟩
    obtain ⟨I1, hM, hC1, -⟩ := c_undo (g := (cn, sn, J, L, xs)) hC
    refine ⟨nI n', cn, sn, I1, ps n', n', ps, ?_, by omega, by omega, ⟨⟨m, tx, hC1⟩, sp_oh_le (by omega) (okp n' (by omega)), fun i h => sp_oh_le (by omega) (okp i (by omega))⟩, Or.inl ⟨n', by omega, rfl⟩, fun z => by omega⟩
    refine w_MG (l_apre hL hk 223 ((p_sw _ (by omega) _).2 (by rw [hop]; rfl)) ?_)
    refine w_st rfl rfl rfl trivial ?_
    refine w_k11 (h_undo hM) rfl ⟨rfl, by decide, by decide, by decide, Or.inr (Or.inl ⟨_, rfl⟩)⟩ (Nat.le_of_ble_eq_true rfl) trivial (Nat.le_of_ble_eq_true rfl) ?_  -- calls 73 cL_undo
    refine w_reti rfl ?_
    exact ⟨rfl, rfl, rfl⟩
theorem l_pass (hL : L ≤ 260) (hk : k + 2 < L) (hi : sp_iv B I σ n ps) (hB : B + 90 ≤ 99999) (hop : 13 < sp_lw (xs k) 16) : sp_at k cn sn J L xs B I σ n := by
  obtain ⟨⟨m, tx, hC⟩, ⟨ok, N, hN, h0⟩, okp⟩ := id hi
  have hc := sp_lw_lt (v := xs (k + 2)) (n := 90) (by decide)
  have h16 := sp_lw_lt (v := xs k) (n := 16) (by decide)
  obtain ⟨I1, hM, hC1, -⟩ := c_pass (g := (cn, sn, J, L, xs)) (H := 1 + sp_lw (xs (k + 2)) 90) hC ok (by omega) (by omega) h0 (by omega)
  obtain ⟨u1, u2⟩ := p_hi_u ok h0 (1 + sp_lw (xs (k + 2)) 90) (by omega)
  refine l_aop (told := nI (sp_hi σ (1 + sp_lw (xs (k + 2)) 90)).2) hi hC1 (sp_ok_hi ok h0 _ (by omega)) (N := N + (1 + sp_lw (xs (k + 2)) 90)) (by rw [sp_hi_0, h0, nI_add]) (by omega) ⟨_, by omega, rfl⟩ (fun _ => ⟨rfl, rfl⟩) ?_
  refine w_MG (l_apre hL hk 228 ((p_sw _ h16 _).2 ?_) ?_)
  · generalize sp_lw (xs k) 16 = j at *
    have : j = 14 ∨ j = 15 := by omega
    rcases this with rfl | rfl <;> rfl
  · skip
    refine w_st rfl rfl rfl trivial ?_
    refine w_st rfl rfl rfl trivial ?_
    refine w_st rfl rfl rfl trivial ?_
    refine w_st rfl rfl rfl trivial ?_
    refine w_k21 (l_low (n := 90) (by decide) (by decide)) rfl ⟨rfl, by decide, by decide, by decide, Or.inr (Or.inl ⟨_, rfl⟩)⟩ (Nat.le_of_ble_eq_true rfl) trivial (Nat.le_of_ble_eq_true rfl) ?_  -- calls 68 cL_low
    refine w_iadd rfl ?_
    refine w_hd (show 1 + nI (sp_lw (xs (k + 2)) 90) = nI (1 + sp_lw (xs (k + 2)) 90) from nI_add 1 _) ?_
    refine w_k21 (hM) rfl ⟨rfl, by decide, by decide, by decide, Or.inl ⟨_, rfl⟩⟩ (Nat.le_of_ble_eq_true rfl) (mm_foc rfl) (Nat.le_of_ble_eq_true rfl) ?_  -- calls 31 cX4_pass
    refine w_reti rfl ?_
    exact ⟨rfl, rfl, rfl⟩
theorem l_act (hL : L ≤ 260) (hk : k + 2 < L) (hi : sp_iv B I σ n ps) (hB : B + 90 ≤ 99999) : sp_at k cn sn J L xs B I σ n := by
  by_cases c1 : sp_lw (xs k) 16 < 5
  · exact l_lamp true hL hk hi (by simpa using c1)
  by_cases c2 : sp_lw (xs k) 16 < 7
  · exact l_lamp false hL hk hi (by simp; omega)
  by_cases c3 : sp_lw (xs k) 16 = 7
  · exact l_mend hL hk hi c3
  by_cases c4 : sp_lw (xs k) 16 < 10
  · exact l_show hL hk hi ⟨by omega, c4⟩
  by_cases c5 : sp_lw (xs k) 16 = 10
  · exact l_number hL hk hi c5
  by_cases c6 : sp_lw (xs k) 16 = 11
  · exact l_set0 hL hk hi c6
  by_cases c7 : sp_lw (xs k) 16 = 12
  · exact l_set1 hL hk hi c7
  by_cases c8 : sp_lw (xs k) 16 = 13
  · exact l_undo hL hk hi c8
  exact l_pass hL hk hi hB (by omega)
end SM
