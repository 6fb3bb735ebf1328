/-! the reference's history and changes; the class's tables laid anew -/
def sp_P (I : mm_Is) (n : Nat) (ps : Nat → sp_St) : Prop := I 61 3 = nI n ∧ n ≤ 6 ∧ ∀ i, i < n → ∀ j, j < 72 → I 64 (72 * i + j) = ps i j
section SM
variable {g : mm_Gg} {I : mm_Is} {x y z : Int32} {l d k t u f w n b o m : Nat} {σ τ : sp_St} {ps : Nat → sp_St} {tx : Nat → Int32}
theorem r_saves (hN : ∀ j, j < 72 → I 63 j = σ j) (h : sp_P I n ps) : ∃ I', mm_M 96 2 [.ref 61] g I none I' ∧ (sp_P I' (sp_sn n) (sp_sp n ps σ) ∧ (∀ p, ¬ p = 61 → ¬ p = 64 → I' p = I p) ∧ ∀ j, ¬ j = 3 → I' 61 j = I 61 j) := by
  obtain ⟨h1, h2, h3⟩ := h
  refine w_MX ?_
  show mm_W 96 0 [.ref 61, .null] [] _ _ _
  generalize hF : mm_EQ _ _ _ = F
  refine w_st rfl rfl rfl trivial ?_
  refine w_gi rfl (mm_foc rfl) ?_
  rw [h1]
  have K2 : ∀ q, q < 6 → ∀ I1 v, I1 61 3 = nI q → (∀ p, ¬ p = 61 → ¬ p = 64 → I1 p = I p) → (∀ j, ¬ j = 3 → I1 61 j = I 61 j) → (∀ i, i < q → ∀ j, j < 72 → I1 64 (72 * i + j) = sp_sp n ps σ i j) → q + 1 = sp_sn n → sp_sp n ps σ q = σ → mm_W 96 49 [.ref 61, v] [] g I1 F := by
    intro q hq I1 v a1 a2 a3 a4 a5 a6
    have L : ∀ k, k ≤ 72 → ∀ I2, ((∀ p, ¬ p = 64 → I2 p = I1 p) ∧ (∀ i, i < 72 * q → I2 64 i = I1 64 i) ∧ ∀ j, j < k → I2 64 (72 * q + j) = σ j) → mm_W 96 51 [.ref 61, .int (nI k)] [] g I2 F := by
      refine mm_dn 72 ?_ ?_
      · intro I2 hI
        refine w_st rfl rfl rfl trivial ?_
        refine w_st rfl rfl rfl trivial ?_
        refine w_n_ge (a := 72) (b := 72) rfl (by first | decide | omega) (by first | decide | omega) (by first | rfl | assumption | (simp only [← nI_add, ← nI_mul]; rfl)) (by first | rfl | assumption | (simp only [← nI_add, ← nI_mul]; rfl)) (fun _ => ?_) (fun c => by exfalso; omega)
        refine w_st rfl rfl rfl trivial ?_
        refine w_st rfl rfl rfl trivial ?_
        refine w_gi rfl (mm_foc rfl) ?_
        refine w_st rfl rfl rfl trivial ?_
        refine w_iadd rfl ?_
        refine w_hd (show I2 61 3 + 1 = nI (q + 1) from by rw [hI.1 61 (by decide), a1]; exact nI_1 q) ?_
        refine w_pi rfl (mm_foc rfl) ?_
        refine w_retv rfl ?_
        subst hF
        refine ⟨rfl, rfl, ?_⟩
        rw [← a5]
        refine ⟨⟨mm_uu, by omega, fun i hi j hj => ?_⟩, fun p b1 b2 => ?_, fun j hj => ?_⟩
        · rw [mm_un (Or.inl (by decide))]
          by_cases c : i = q
          · subst c; rw [hI.2.2 j hj, a6]
          · rw [hI.2.1 _ (by omega)]; exact a4 i (by omega) j hj
        · rw [va_up_ne _ _ b1, hI.1 p b2, a2 p b1 b2]
        · rw [mm_un (Or.inr hj), hI.1 61 (by decide), a3 j hj]
      · intro k hk ih I2 hI
        refine w_st rfl rfl rfl trivial ?_
        refine w_st rfl rfl rfl trivial ?_
        refine w_n_ge (a := k) (b := 72) rfl (by first | decide | omega) (by first | decide | omega) (by first | rfl | assumption | (simp only [← nI_add, ← nI_mul]; rfl)) (by first | rfl | assumption | (simp only [← nI_add, ← nI_mul]; rfl)) (fun c => by exfalso; omega) (fun _ => ?_)
        refine w_st rfl rfl rfl trivial ?_
        refine w_gr (j := 64) rfl (mm_foc rfl) rfl (by decide) ?_
        refine w_st rfl rfl rfl trivial ?_
        refine w_st rfl rfl rfl trivial ?_
        refine w_gi rfl (mm_foc rfl) ?_
        rw [hI.1 61 (by decide), a1]
        refine w_imul rfl ?_
        refine w_st rfl rfl rfl trivial ?_
        refine w_iadd rfl ?_
        refine w_st rfl rfl rfl trivial ?_
        refine w_gr (j := 63) rfl (mm_foc rfl) rfl (by decide) ?_
        refine w_st rfl rfl rfl trivial ?_
        refine w_ia (k) rfl (mm_fac (n := 72) rfl) (by first | rfl | assumption | (simp only [← nI_add, ← nI_mul]; rfl)) (by first | decide | omega) ?_
        rw [hI.1 63 (by decide), a2 63 (by decide) (by decide), hN k hk]
        refine w_is (72 * q + k) rfl (mm_fac (n := 432) rfl) (by first | rfl | assumption | (simp only [← nI_add, ← nI_mul]; rfl)) (by first | decide | omega) ?_
        refine w_inc rfl rfl rfl (Nat.le_of_ble_eq_true rfl) (nI_1 _) ?_
        refine w_st rfl rfl rfl trivial ?_
        refine ih _ ⟨fun p hp => ?_, fun i hi => ?_, fun j hj => ?_⟩
        · rw [va_up_ne _ _ hp]; exact hI.1 p hp
        · rw [mm_un (Or.inr (by omega))]; exact hI.2.1 i hi
        · by_cases c : j = k
          · subst c; rw [mm_uu]
          · rw [mm_un (Or.inr (by omega))]; exact hI.2.2 j (by omega)
    refine w_st rfl rfl rfl trivial ?_
    refine w_st rfl rfl rfl (Nat.le_of_ble_eq_true rfl) ?_
    exact L 0 (by decide) I1 ⟨fun _ _ => rfl, fun _ _ => rfl, fun j hj => absurd hj (Nat.not_lt_zero _)⟩
  refine w_st rfl rfl rfl trivial ?_
  refine w_n_ne (a := n) (b := 6) rfl (by first | decide | omega) (by first | decide | omega) (by first | rfl | assumption | (simp only [← nI_add, ← nI_mul]; rfl)) (by first | rfl | assumption | (simp only [← nI_add, ← nI_mul]; rfl)) (fun c => ?_) (fun c => ?_)
  · have hn : n < 6 := by omega
    refine K2 n hn I .null h1 (fun _ _ _ => rfl) (fun _ _ => rfl) (fun i hi j hj => ?_) ?_ ?_
    · show _ = (if n < 6 then (if i = n then σ else ps i) else _) j
      rw [if_pos hn, if_neg (by omega)]; exact h3 i hi j hj
    · show n + 1 = (if n < 6 then _ else _); rw [if_pos hn]
    · show (if n < 6 then (if n = n then σ else ps n) else _) = σ; rw [if_pos hn, if_pos rfl]
  · subst c
    refine w_st rfl rfl rfl trivial ?_
    refine w_st rfl rfl rfl (Nat.le_of_ble_eq_true rfl) ?_
    have L : ∀ k, k ≤ 360 → ∀ I2, ((∀ p, ¬ p = 64 → I2 p = I p) ∧ (∀ i, i < k → I2 64 i = I 64 (i + 72)) ∧ ∀ i, k ≤ i → I2 64 i = I 64 i) → mm_W 96 11 [.ref 61, .int (nI k)] [] g I2 F := by
      refine mm_dn 360 ?_ ?_
      · intro I2 hI
        refine w_st rfl rfl rfl trivial ?_
        refine w_st rfl rfl rfl trivial ?_
        refine w_n_ge (a := 360) (b := 360) rfl (by first | decide | omega) (by first | decide | omega) (by first | rfl | assumption | (simp only [← nI_add, ← nI_mul]; rfl)) (by first | rfl | assumption | (simp only [← nI_add, ← nI_mul]; rfl)) (fun _ => ?_) (fun c => by exfalso; omega)
        refine w_st rfl rfl rfl trivial ?_
        refine w_st rfl rfl rfl trivial ?_
        refine w_gi rfl (mm_foc rfl) ?_
        refine w_st rfl rfl rfl trivial ?_
        refine w_isub rfl ?_
        refine w_hd (show I2 61 3 - 1 = nI 5 from by rw [hI.1 61 (by decide), h1]; exact nI_pred 5) ?_
        refine w_pi rfl (mm_foc rfl) ?_
        refine K2 5 (by decide) _ _ mm_uu (fun p b1 b2 => ?_) (fun j hj => ?_) (fun i hi j hj => ?_) rfl rfl
        · rw [va_up_ne _ _ b1]; exact hI.1 p b2
        · rw [mm_un (Or.inr hj), hI.1 61 (by decide)]
        · show _ = (if 6 < 6 then _ else (if i = 5 then σ else ps (i + 1))) j
          rw [if_neg (by decide), if_neg (by omega), mm_un (Or.inl (by decide)), hI.2.1 _ (by omega), show 72 * i + j + 72 = 72 * (i + 1) + j from by omega]
          exact h3 (i + 1) (by omega) j hj
      · intro k hk ih I2 hI
        refine w_st rfl rfl rfl trivial ?_
        refine w_st rfl rfl rfl trivial ?_
        refine w_n_ge (a := k) (b := 360) rfl (by first | decide | omega) (by first | decide | omega) (by first | rfl | assumption | (simp only [← nI_add, ← nI_mul]; rfl)) (by first | rfl | assumption | (simp only [← nI_add, ← nI_mul]; rfl)) (fun c => by exfalso; omega) (fun _ => ?_)
        refine w_st rfl rfl rfl trivial ?_
        refine w_gr (j := 64) rfl (mm_foc rfl) rfl (by decide) ?_
        refine w_st rfl rfl rfl trivial ?_
        refine w_st rfl rfl rfl trivial ?_
        refine w_gr (j := 64) rfl (mm_foc rfl) rfl (by decide) ?_
        refine w_st rfl rfl rfl trivial ?_
        refine w_st rfl rfl rfl trivial ?_
        refine w_iadd rfl ?_
        refine w_ia (k + 72) rfl (mm_fac (n := 432) rfl) (by first | rfl | assumption | (simp only [← nI_add, ← nI_mul]; rfl)) (by first | decide | omega) ?_
        rw [hI.2.2 _ (by omega)]
        refine w_is (k) rfl (mm_fac (n := 432) rfl) (by first | rfl | assumption | (simp only [← nI_add, ← nI_mul]; rfl)) (by first | decide | omega) ?_
        refine w_inc rfl rfl rfl (Nat.le_of_ble_eq_true rfl) (nI_1 _) ?_
        refine w_st rfl rfl rfl trivial ?_
        refine ih _ ⟨fun p hp => ?_, fun i hi => ?_, fun i hi => ?_⟩
        · rw [va_up_ne _ _ hp]; exact hI.1 p hp
        · by_cases c : i = k
          · subst c; rw [mm_uu]
          · rw [mm_un (Or.inr c)]; exact hI.2.1 i (by omega)
        · rw [mm_un (Or.inr (by omega))]; exact hI.2.2 i (by omega)
    exact L 0 (by decide) I ⟨fun _ _ => rfl, fun i hi => absurd hi (Nat.not_lt_zero _), fun _ _ => rfl⟩
theorem r_undo_1 (h : I 61 3 = nI 0) : ∃ I', mm_M 97 2 [.ref 61] g I (some (.int 0)) I' ∧ sp_th 1 I I' := by
  refine w_MX ?_
  show mm_W 97 0 [.ref 61, .null] [] _ _ _
  generalize hF : mm_EQ _ _ _ = F
  refine w_st rfl rfl rfl trivial ?_
  refine w_st rfl rfl rfl trivial ?_
  refine w_pi rfl (mm_foc rfl) ?_
  show mm_W 97 5 _ _ g (sp_st6 I 0) F
  refine w_st rfl rfl rfl trivial ?_
  refine w_gi rfl (mm_foc rfl) ?_
  rw [show sp_st6 I 0 61 3 = nI 0 from (mm_un (Or.inr (by decide))).trans h]
  refine w_m_ne (a := 0) rfl (by first | decide | omega) (by first | rfl | assumption | (simp only [← nI_add, ← nI_mul]; rfl)) (fun c => by exfalso; omega) (fun _ => ?_)
  refine w_st rfl rfl rfl trivial ?_
  refine w_st rfl rfl rfl trivial ?_
  refine w_k21 (r_fails) rfl ⟨rfl, by decide, by decide, by decide, Or.inl ⟨_, rfl⟩⟩ (Nat.le_of_ble_eq_true rfl) (mm_foc rfl) (Nat.le_of_ble_eq_true rfl) ?_  -- calls 89 cX5_fails
  refine w_reti rfl ?_
  exact hF ▸ ⟨rfl, rfl, sp_th_k rfl⟩
theorem r_undo (h : sp_P I (n + 1) ps) : ∃ I', mm_M 97 2 [.ref 61] g I (some (.int (nI n))) I' ∧ (sp_P I' n ps ∧ (∀ j, j < 72 → I' 63 j = ps n j) ∧ I' 61 6 = nI 0 ∧ (∀ p, ¬ p = 61 → ¬ p = 63 → I' p = I p) ∧ ∀ j, ¬ j = 3 → ¬ j = 6 → I' 61 j = I 61 j) := by
  obtain ⟨h1, h2, h3⟩ := h
  refine w_MX ?_
  show mm_W 97 0 [.ref 61, .null] [] _ _ _
  generalize hF : mm_EQ _ _ _ = F
  refine w_st rfl rfl rfl trivial ?_
  refine w_st rfl rfl rfl trivial ?_
  refine w_pi rfl (mm_foc rfl) ?_
  show mm_W 97 5 _ _ g (sp_st6 I 0) F
  have e0 : sp_st6 I 0 61 3 = nI (n + 1) := (mm_un (Or.inr (by decide))).trans h1
  refine w_st rfl rfl rfl trivial ?_
  refine w_gi rfl (mm_foc rfl) ?_
  rw [e0]
  refine w_m_ne (a := n + 1) rfl (by first | decide | omega) (by first | rfl | assumption | (simp only [← nI_add, ← nI_mul]; rfl)) (fun _ => ?_) (fun c => by exfalso; omega)
  refine w_st rfl rfl rfl trivial ?_
  refine w_st rfl rfl rfl trivial ?_
  refine w_gi rfl (mm_foc rfl) ?_
  refine w_st rfl rfl rfl trivial ?_
  refine w_isub rfl ?_
  refine w_hd (show sp_st6 I 0 61 3 - 1 = nI n from by rw [e0]; exact nI_pred n) ?_
  refine w_pi rfl (mm_foc rfl) ?_
  refine w_st rfl rfl rfl trivial ?_
  refine w_st rfl rfl rfl (Nat.le_of_ble_eq_true rfl) ?_
  have L : ∀ k, k ≤ 72 → ∀ I2, ((∀ p, ¬ p = 61 → ¬ p = 63 → I2 p = I p) ∧ (I2 61 3 = nI n ∧ I2 61 6 = nI 0 ∧ ∀ j, ¬ j = 3 → ¬ j = 6 → I2 61 j = I 61 j) ∧ ∀ j, j < k → I2 63 j = ps n j) → mm_W 97 30 [.ref 61, .int (nI k)] [] g I2 F := by
    refine mm_dn 72 ?_ ?_
    · intro I2 hI
      refine w_st rfl rfl rfl trivial ?_
      refine w_st rfl rfl rfl trivial ?_
      refine w_n_ge (a := 72) (b := 72) rfl (by first | decide | omega) (by first | decide | omega) (by first | rfl | assumption | (simp only [← nI_add, ← nI_mul]; rfl)) (by first | rfl | assumption | (simp only [← nI_add, ← nI_mul]; rfl)) (fun _ => ?_) (fun c => by exfalso; omega)
      refine w_st rfl rfl rfl trivial ?_
      refine w_gi rfl (mm_foc rfl) ?_
      rw [hI.2.1.1]
      refine w_reti rfl ?_
      subst hF
      refine ⟨rfl, rfl, ?_⟩
      refine ⟨⟨hI.2.1.1, by omega, fun i hi j hj => ?_⟩, hI.2.2, hI.2.1.2.1, hI.1, hI.2.1.2.2⟩
      rw [hI.1 64 (by decide) (by decide)]; exact h3 i (by omega) j hj
    · intro k hk ih I2 hI
      refine w_st rfl rfl rfl trivial ?_
      refine w_st rfl rfl rfl trivial ?_
      refine w_n_ge (a := k) (b := 72) rfl (by first | decide | omega) (by first | decide | omega) (by first | rfl | assumption | (simp only [← nI_add, ← nI_mul]; rfl)) (by first | rfl | assumption | (simp only [← nI_add, ← nI_mul]; rfl)) (fun c => by exfalso; omega) (fun _ => ?_)
      refine w_st rfl rfl rfl trivial ?_
      refine w_gr (j := 63) rfl (mm_foc rfl) rfl (by decide) ?_
      refine w_st rfl rfl rfl trivial ?_
      refine w_st rfl rfl rfl trivial ?_
      refine w_gr (j := 64) rfl (mm_foc rfl) rfl (by decide) ?_
      refine w_st rfl rfl rfl trivial ?_
      refine w_st rfl rfl rfl trivial ?_
      refine w_gi rfl (mm_foc rfl) ?_
      rw [hI.2.1.1]
      refine w_imul rfl ?_
      refine w_st rfl rfl rfl trivial ?_
      refine w_iadd rfl ?_
      refine w_ia (72 * n + k) rfl (mm_fac (n := 432) rfl) (by first | rfl | assumption | (simp only [← nI_add, ← nI_mul]; rfl)) (by first | decide | omega) ?_
      rw [hI.1 64 (by decide) (by decide), h3 n (by omega) k hk]
      refine w_is (k) rfl (mm_fac (n := 72) rfl) (by first | rfl | assumption | (simp only [← nI_add, ← nI_mul]; rfl)) (by first | decide | omega) ?_
      refine w_inc rfl rfl rfl (Nat.le_of_ble_eq_true rfl) (nI_1 _) ?_
      refine w_st rfl rfl rfl trivial ?_
      refine ih _ ⟨fun p b1 b2 => ?_, ⟨?_, ?_, fun j b1 b2 => ?_⟩, fun j hj => ?_⟩
      · rw [va_up_ne _ _ b2]; exact hI.1 p b1 b2
      · rw [mm_un (Or.inl (by decide))]; exact hI.2.1.1
      · rw [mm_un (Or.inl (by decide))]; exact hI.2.1.2.1
      · rw [mm_un (Or.inl (by decide))]; exact hI.2.1.2.2 j b1 b2
      · by_cases c : j = k
        · subst c; rw [mm_uu]
        · rw [mm_un (Or.inr c)]; exact hI.2.2 j (by omega)
  refine L 0 (by decide) _ ⟨fun p b1 b2 => ?_, ⟨mm_uu, ?_, fun j b1 b2 => ?_⟩, fun j hj => absurd hj (Nat.not_lt_zero _)⟩
  · rw [va_up_ne _ _ b1]; exact sp_st6_o b1
  · rw [mm_un (Or.inr (by decide))]; exact mm_uu
  · rw [mm_un (Or.inr b1)]; exact mm_un (Or.inr b2)
theorem sp_N_u (h : ∀ j, j < 72 → I 63 j = σ j) : ∀ j, j < 72 → va_up I 63 (upd (I 63) k x) 63 j = upd σ k x j := by
  intro j hj
  by_cases c : j = k
  · subst c; rw [mm_uu, upd_s]
  · rw [mm_un (Or.inr c), upd_n c]; exact h j hj
theorem r_changes_t (h : ∀ j, j < 72 → I 63 j = σ j) (hf : f < 4) (hl : l < 15) : ∃ I', mm_M 112 4 [.ref 61, .int (nI f), .int (nI l), .int 1] g I none I' ∧ ((∀ j, j < 72 → I' 63 j = sp_set σ f l true j) ∧ ∀ p, ¬ p = 63 → I' p = I p) := by
  refine w_MX ?_
  show mm_W 112 0 [.ref 61, .int (nI f), .int (nI l), .int 1] [] _ _ _
  generalize hF : mm_EQ _ _ _ = F
  refine w_st rfl rfl rfl trivial ?_
  refine w_z_eq rfl (fun z => by first | exact absurd z ((by decide : ¬ (1 : Int32) = 0)) | exact absurd ((by decide : ¬ (1 : Int32) = 0)) z) (fun _ => ?_)
  refine w_st rfl rfl rfl trivial ?_
  refine w_gr (j := 63) rfl (mm_foc rfl) rfl (by decide) ?_
  refine w_st rfl rfl rfl trivial ?_
  refine w_st rfl rfl rfl trivial ?_
  refine w_iadd rfl ?_
  refine w_st rfl rfl rfl trivial ?_
  refine w_ia (8 + f) rfl (mm_fac (n := 72) rfl) (by first | rfl | assumption | (simp only [← nI_add, ← nI_mul]; rfl)) (by first | decide | omega) ?_
  refine w_st rfl rfl rfl trivial ?_
  refine w_k11 (r_bit) rfl ⟨rfl, by decide, by decide, by decide, Or.inr (Or.inl ⟨_, rfl⟩)⟩ (Nat.le_of_ble_eq_true rfl) trivial (Nat.le_of_ble_eq_true rfl) ?_  -- calls 94 cX5_bit
  refine w_ior rfl ?_
  refine w_is (8 + f) rfl (mm_fac (n := 72) rfl) (by first | rfl | assumption | (simp only [← nI_add, ← nI_mul]; rfl)) (by first | decide | omega) ?_
  refine w_st rfl rfl rfl trivial ?_
  refine w_retv rfl ?_
  subst hF
  refine ⟨rfl, rfl, ?_⟩
  rw [h (8 + f) (by omega)]
  exact ⟨sp_N_u h, fun p a => va_up_ne _ _ a⟩
theorem r_changes_f (h : ∀ j, j < 72 → I 63 j = σ j) (hf : f < 4) (hl : l < 15) : ∃ I', mm_M 112 4 [.ref 61, .int (nI f), .int (nI l), .int 0] g I none I' ∧ ((∀ j, j < 72 → I' 63 j = sp_set σ f l false j) ∧ ∀ p, ¬ p = 63 → I' p = I p) := by
  refine w_MX ?_
  show mm_W 112 0 [.ref 61, .int (nI f), .int (nI l), .int 0] [] _ _ _
  generalize hF : mm_EQ _ _ _ = F
  refine w_st rfl rfl rfl trivial ?_
  refine w_z_eq rfl (fun _ => ?_) (fun z => by first | exact absurd (rfl) z | exact absurd z (rfl))
  refine w_st rfl rfl rfl trivial ?_
  refine w_gr (j := 63) rfl (mm_foc rfl) rfl (by decide) ?_
  refine w_st rfl rfl rfl trivial ?_
  refine w_st rfl rfl rfl trivial ?_
  refine w_iadd rfl ?_
  refine w_st rfl rfl rfl trivial ?_
  refine w_ia (8 + f) rfl (mm_fac (n := 72) rfl) (by first | rfl | assumption | (simp only [← nI_add, ← nI_mul]; rfl)) (by first | decide | omega) ?_
  refine w_st rfl rfl rfl trivial ?_
  refine w_k11 (r_bit) rfl ⟨rfl, by decide, by decide, by decide, Or.inr (Or.inl ⟨_, rfl⟩)⟩ (Nat.le_of_ble_eq_true rfl) trivial (Nat.le_of_ble_eq_true rfl) ?_  -- calls 94 cX5_bit
  refine w_st rfl rfl rfl trivial ?_
  refine w_ixor rfl ?_
  refine w_iand rfl ?_
  refine w_is (8 + f) rfl (mm_fac (n := 72) rfl) (by first | rfl | assumption | (simp only [← nI_add, ← nI_mul]; rfl)) (by first | decide | omega) ?_
  refine w_st rfl rfl rfl trivial ?_
  refine w_gr (j := 63) rfl (mm_foc rfl) rfl (by decide) ?_
  refine w_st rfl rfl rfl trivial ?_
  refine w_st rfl rfl rfl trivial ?_
  refine w_st rfl rfl rfl trivial ?_
  refine w_imul rfl ?_
  refine w_iadd rfl ?_
  refine w_st rfl rfl rfl trivial ?_
  refine w_iadd rfl ?_
  refine w_st rfl rfl rfl trivial ?_
  refine w_is (12 + (15 * f + l)) rfl (mm_fac (n := 72) rfl) (by simp only [← nI_add, ← nI_mul]; exact Int32.add_assoc _ _ _) (by first | decide | omega) ?_
  refine w_retv rfl ?_
  subst hF
  refine ⟨rfl, rfl, ?_⟩
  rw [h (8 + f) (by omega)]
  exact ⟨sp_N_u (sp_N_u h), fun p a => by rw [va_up_ne _ _ a, va_up_ne _ _ a]⟩
/-- all but the four tables stands -/
def sp_ft (I I' : mm_Is) : Prop := ∀ p, ¬ (45 ≤ p ∧ p < 61) → I' p = I p
theorem sp_ft_3 {I' : mm_Is} (hf : f < 4) (h : sp_f3 (45 + 4 * f) I I') : sp_ft I I' := fun p hp => h p (by omega) (by omega) (by omega)
theorem c_chooseAll (h : sp_bd I 1 σ) : ∃ I', mm_M 73 2 [.ref 0] g I none I' ∧ (sp_D I' σ ∧ sp_ft I I') := by
  refine w_MX ?_
  show mm_W 73 0 [.ref 0, .null] [] _ _ _
  generalize hF : mm_EQ _ _ _ = F
  refine w_st rfl rfl rfl trivial ?_
  refine w_st rfl rfl rfl (Nat.le_of_ble_eq_true rfl) ?_
  have K : ∀ f, f ≤ 4 → ∀ I1, (sp_bd I1 1 σ ∧ (∀ e, e < f → sp_tt I1 (45 + 4 * e) (σ (8 + e)) (σ 1)) ∧ sp_ft I I1) → mm_W 73 2 [.ref 0, .int (nI f)] [] g I1 F := by
    refine mm_dn 4 ?_ ?_
    · intro I1 hI
      refine w_st rfl rfl rfl trivial ?_
      refine w_st rfl rfl rfl trivial ?_
      refine w_n_ge (a := 4) (b := 4) rfl (by first | decide | omega) (by first | decide | omega) (by first | rfl | assumption | (simp only [← nI_add, ← nI_mul]; rfl)) (by first | rfl | assumption | (simp only [← nI_add, ← nI_mul]; rfl)) (fun _ => ?_) (fun c => by exfalso; omega)
      refine w_retv rfl ?_
      exact hF ▸ ⟨rfl, rfl, ⟨⟨hI.1, hI.2.1⟩, hI.2.2⟩⟩
    · intro f hf ih I1 hI
      obtain ⟨I2, hM, h2, h3⟩ := c_chooseTable (g := g) hI.1 hf
      refine w_st rfl rfl rfl trivial ?_
      refine w_st rfl rfl rfl trivial ?_
      refine w_n_ge (a := f) (b := 4) rfl (by first | decide | omega) (by first | decide | omega) (by first | rfl | assumption | (simp only [← nI_add, ← nI_mul]; rfl)) (by first | rfl | assumption | (simp only [← nI_add, ← nI_mul]; rfl)) (fun c => by exfalso; omega) (fun _ => ?_)
      refine w_st rfl rfl rfl trivial ?_
      refine w_st rfl rfl rfl trivial ?_
      refine w_k20 (hM) rfl ⟨rfl, by decide, by decide, by decide, Or.inl ⟨_, rfl⟩⟩ (Nat.le_of_ble_eq_true rfl) (mm_foc rfl) (Nat.le_of_ble_eq_true rfl) ?_  -- calls 72 cX4_chooseTable
      refine w_inc rfl rfl rfl (Nat.le_of_ble_eq_true rfl) (nI_1 _) ?_
      refine w_st rfl rfl rfl trivial ?_
      refine ih I2 ⟨sp_bd_c (fun p hp => ?_) hI.1, fun e he => ?_, fun p hp => ?_⟩
      · exact sp_ft_3 hf h3 p (by unfold sp_in5 at hp; omega)
      · by_cases c : e = f
        · subst c; exact h2
        · intro d hd
          have := hI.2.1 e (by omega) d hd
          unfold sp_te at this ⊢
          rw [h3 (45 + 4 * e + 1 + 0) (by omega) (by omega) (by omega), h3 (45 + 4 * e + 1 + 1) (by omega) (by omega) (by omega), h3 (45 + 4 * e + 1 + 2) (by omega) (by omega) (by omega)]
          exact this
      · rw [sp_ft_3 hf h3 p hp]; exact hI.2.2 p hp
  exact K 0 (by decide) I ⟨h, fun e he => absurd he (Nat.not_lt_zero _), fun _ _ => rfl⟩
end SM
