/-! the reference's operations -/
/-- the reference holds state, history and text -/
def sp_M (I : mm_Is) (σ : sp_St) (n : Nat) (ps : Nat → sp_St) (m : Nat) (tx : Nat → Int32) : Prop := sp_N I σ ∧ sp_P I n ps ∧ I 61 5 = nI m ∧ ∀ i, i < m → I 65 i = tx i
def sp_rf (I I' : mm_Is) : Prop := ∀ p, p < 61 → I' p = I p
theorem sp_M_c {I I' : mm_Is} {σ : sp_St} {n m : Nat} {ps : Nat → sp_St} {tx : Nat → Int32} (h : ∀ p, 61 ≤ p → I' p = I p) (x : sp_M I σ n ps m tx) : sp_M I' σ n ps m tx := by
  unfold sp_M sp_N sp_S sp_P at x ⊢
  rw [h 61 (by decide), h 62 (by decide), h 63 (by decide), h 64 (by decide), h 65 (by decide)]
  exact x
/-- a look: thrown is told, nothing else -/
theorem sp_M_th {I I' : mm_Is} {σ : sp_St} {n m k : Nat} {ps : Nat → sp_St} {tx : Nat → Int32} (h : sp_th k I I') (x : sp_M I σ n ps m tx) : sp_M I' σ n ps m tx ∧ sp_rf I I' := by
  obtain ⟨h1, h2, h3⟩ := h
  refine ⟨?_, fun p hp => h2 p (by omega) (by omega) (by omega)⟩
  unfold sp_M sp_N sp_S sp_P at x ⊢
  rw [h3 3 (by decide), h3 5 (by decide), h2 62 (by decide) (by decide) (by decide), h2 63 (by decide) (by decide) (by decide), h2 64 (by decide) (by decide) (by decide), h2 65 (by decide) (by decide) (by decide)]
  exact x
theorem r_fin {I I1 I2 I3 : mm_Is} {σ σ' : sp_St} {n n' m : Nat} {ps ps' : Nat → sp_St} {tx : Nat → Int32} (h : sp_M I σ n ps m tx) (h1 : sp_f2 (sp_st6 I 0) I1) (h2 : sp_P I2 n' ps') (h2a : ∀ p, ¬ p = 61 → ¬ p = 64 → I2 p = I1 p) (h2b : ∀ j, ¬ j = 3 → I2 61 j = I1 61 j) (h3 : ∀ j, j < 72 → I3 63 j = σ' j) (h3f : ∀ p, ¬ p = 63 → ¬ p = 67 → ¬ p = 68 → I3 p = I2 p) : sp_M I3 σ' n' ps' m tx ∧ I3 61 6 = nI 0 ∧ sp_rf I I3 := by
  have e61 : ∀ j, ¬ j = 3 → I3 61 j = sp_st6 I 0 61 j := fun j hj => by rw [h3f 61 (by decide) (by decide) (by decide), h2b j hj, h1 61 (by decide) (by decide)]
  have ep : ∀ p, ¬ p = 61 → ¬ p = 64 → ¬ p = 63 → ¬ p = 67 → ¬ p = 68 → I3 p = I p := fun p a b c d e => by rw [h3f p c d e, h2a p a b, h1 p d e]; exact sp_st6_o a
  refine ⟨⟨⟨fun j hj => ?_, h3⟩, ?_, ?_, fun i hi => ?_⟩, ?_, fun p hp => ep p (by omega) (by omega) (by omega) (by omega) (by omega)⟩
  · rw [ep 62 (by decide) (by decide) (by decide) (by decide) (by decide)]; exact h.1.1 j hj
  · unfold sp_P at h2 ⊢
    rw [h3f 61 (by decide) (by decide) (by decide), h3f 64 (by decide) (by decide) (by decide)]
    exact h2
  · rw [e61 5 (by decide)]; exact (mm_un (Or.inr (by decide))).trans h.2.2.1
  · rw [ep 65 (by decide) (by decide) (by decide) (by decide) (by decide)]; exact h.2.2.2 i hi
  · rw [e61 6 (by decide)]; exact mm_uu
theorem sp_P_6 {I : mm_Is} {n : Nat} {ps : Nat → sp_St} (h : sp_P I n ps) : sp_P (sp_st6 I 0) n ps := by
  obtain ⟨h1, h2, h3⟩ := h
  refine ⟨(mm_un (Or.inr (by decide))).trans h1, h2, fun i hi j hj => ?_⟩
  rw [sp_st6_o (by decide)]; exact h3 i hi j hj
theorem sp_P_f2 {I I' : mm_Is} {n : Nat} {ps : Nat → sp_St} (h : sp_P I n ps) (x : sp_f2 I I') : sp_P I' n ps := by
  unfold sp_P at h ⊢
  rw [x 61 (by decide) (by decide), x 64 (by decide) (by decide)]
  exact h
theorem sp_in1 {y : Int32} : (-1 ≤ y ∧ y ≤ 9) ↔ (y = -1 ∨ sp_lt 10 y) := by
  constructor
  · rintro ⟨h1, h2⟩
    by_cases c : y < 0
    · left
      apply Int32.toInt_inj.1
      have a := Int32.le_iff_toInt_le.1 h1
      have b := Int32.lt_iff_toInt_lt.1 c
      rw [show (-1 : Int32).toInt = -1 from by decide] at a ⊢
      rw [show (0 : Int32).toInt = 0 from by decide] at b
      omega
    · exact Or.inr (sp_le_i (n := 9) (by decide) rfl (Int32.not_lt.1 c) h2)
  · rintro (rfl | h)
    · exact ⟨by decide, by decide⟩
    · have := sp_le_n (n := 9) (y := 9) (by decide) rfl h
      exact ⟨Int32.le_trans (by decide) this.1, this.2⟩
section SM
variable {g : mm_Gg} {I : mm_Is} {x y z : Int32} {l d k t u f w n b o m : Nat} {σ τ : sp_St} {ps : Nat → sp_St} {tx : Nat → Int32}
theorem r_show_1 (h1 : ¬ sp_lt 4 x) : ∃ I', mm_M 108 4 [.ref 61, .int x, .int y] g I (some (.int 0)) I' ∧ sp_th 1 I I' := by
  refine w_MX ?_
  show mm_W 108 0 [.ref 61, .int x, .int y, .null] [] _ _ _
  generalize hF : mm_EQ _ _ _ = F
  refine w_st rfl rfl rfl trivial ?_
  refine w_st rfl rfl rfl trivial ?_
  refine w_pi rfl (mm_foc rfl) ?_
  show mm_W 108 5 _ _ g (sp_st6 I 0) F
  refine w_st rfl rfl rfl trivial ?_
  refine w_k11 (r_isField) rfl ⟨rfl, by decide, by decide, by decide, Or.inr (Or.inl ⟨_, rfl⟩)⟩ (Nat.le_of_ble_eq_true rfl) trivial (Nat.le_of_ble_eq_true rfl) ?_  -- calls 91 cX5_isField
  refine w_b_ne rfl (fun z => absurd z (h1)) (fun _ => ?_)
  refine w_st rfl rfl rfl trivial ?_
  refine w_st rfl rfl rfl trivial ?_
  refine w_k21 (r_fails) rfl ⟨rfl, by decide, by decide, by decide, Or.inl ⟨_, rfl⟩⟩ (Nat.le_of_ble_eq_true rfl) (mm_foc rfl) (Nat.le_of_ble_eq_true rfl) ?_  -- calls 89 cX5_fails
  refine w_reti rfl ?_
  exact hF ▸ ⟨rfl, rfl, sp_th_k rfl⟩
theorem r_show_2 (h1 : sp_lt 4 x) (h2 : ¬ y = -1) (h3 : ¬ sp_lt 10 y) : ∃ I', mm_M 108 4 [.ref 61, .int x, .int y] g I (some (.int 0)) I' ∧ sp_th 2 I I' := by
  refine w_MX ?_
  show mm_W 108 0 [.ref 61, .int x, .int y, .null] [] _ _ _
  generalize hF : mm_EQ _ _ _ = F
  refine w_st rfl rfl rfl trivial ?_
  refine w_st rfl rfl rfl trivial ?_
  refine w_pi rfl (mm_foc rfl) ?_
  show mm_W 108 5 _ _ g (sp_st6 I 0) F
  refine w_st rfl rfl rfl trivial ?_
  refine w_k11 (r_isField) rfl ⟨rfl, by decide, by decide, by decide, Or.inr (Or.inl ⟨_, rfl⟩)⟩ (Nat.le_of_ble_eq_true rfl) trivial (Nat.le_of_ble_eq_true rfl) ?_  -- calls 91 cX5_isField
  refine w_b_ne rfl (fun _ => ?_) (fun z => absurd (h1) z)
  refine w_st rfl rfl rfl trivial ?_
  refine w_st rfl rfl rfl trivial ?_
  refine w_st rfl rfl rfl trivial ?_
  refine w_k31 (c_in) rfl ⟨rfl, by decide, by decide, by decide, Or.inr (Or.inl ⟨_, rfl⟩)⟩ (Nat.le_of_ble_eq_true rfl) trivial (Nat.le_of_ble_eq_true rfl) ?_  -- calls 90 cX5_in
  refine w_b_ne rfl (fun z => absurd z (fun z => (sp_in1.1 z).elim h2 h3)) (fun _ => ?_)
  refine w_st rfl rfl rfl trivial ?_
  refine w_st rfl rfl rfl trivial ?_
  refine w_k21 (r_fails) rfl ⟨rfl, by decide, by decide, by decide, Or.inl ⟨_, rfl⟩⟩ (Nat.le_of_ble_eq_true rfl) (mm_foc rfl) (Nat.le_of_ble_eq_true rfl) ?_  -- calls 89 cX5_fails
  refine w_reti rfl ?_
  exact hF ▸ ⟨rfl, rfl, sp_th_k rfl⟩
theorem sp_th_k2 {I I1 : mm_Is} {y : Int32} {k : Nat} {x : Int32} (h : x = nI k) (h1 : sp_f2 (sp_st6 I y) I1) : sp_th k I (sp_st6 I1 x) := by
  subst h
  refine ⟨mm_uu, fun q a b c => ?_, fun j hj => ?_⟩
  · rw [sp_st6_o a, h1 q b c, sp_st6_o a]
  · refine (mm_un (Or.inr hj)).trans ?_
    rw [h1 61 (by decide) (by decide)]
    exact mm_un (Or.inr hj)
theorem r_show_3 (h : sp_N I σ) (ok : sp_ok σ) (hf : f < 4) (h2 : ¬ y = -1) (h3 : sp_lt 10 y) (h4 : ¬ sp_can (sp_R σ f) y) : ∃ I', mm_M 108 4 [.ref 61, .int (nI f), .int y] g I (some (.int 0)) I' ∧ sp_th 3 I I' := by
  obtain ⟨I1, hM1, _, hf1⟩ := r_canShow (g := g) (sp_N_6 (x := 0) h) ok hf (x := y) (Or.inr h3)
  refine w_MX ?_
  show mm_W 108 0 [.ref 61, .int (nI f), .int y, .null] [] _ _ _
  generalize hF : mm_EQ _ _ _ = F
  refine w_st rfl rfl rfl trivial ?_
  refine w_st rfl rfl rfl trivial ?_
  refine w_pi rfl (mm_foc rfl) ?_
  show mm_W 108 5 _ _ g (sp_st6 I 0) F
  refine w_st rfl rfl rfl trivial ?_
  refine w_k11 (r_isField) rfl ⟨rfl, by decide, by decide, by decide, Or.inr (Or.inl ⟨_, rfl⟩)⟩ (Nat.le_of_ble_eq_true rfl) trivial (Nat.le_of_ble_eq_true rfl) ?_  -- calls 91 cX5_isField
  refine w_b_ne rfl (fun _ => ?_) (fun z => absurd (⟨f, hf, rfl⟩) z)
  refine w_st rfl rfl rfl trivial ?_
  refine w_st rfl rfl rfl trivial ?_
  refine w_st rfl rfl rfl trivial ?_
  refine w_k31 (c_in) rfl ⟨rfl, by decide, by decide, by decide, Or.inr (Or.inl ⟨_, rfl⟩)⟩ (Nat.le_of_ble_eq_true rfl) trivial (Nat.le_of_ble_eq_true rfl) ?_  -- calls 90 cX5_in
  refine w_b_ne rfl (fun _ => ?_) (fun z => absurd (sp_in1.2 (Or.inr h3)) z)
  refine w_st rfl rfl rfl trivial ?_
  refine w_st rfl rfl rfl trivial ?_
  refine w_st rfl rfl rfl trivial ?_
  refine w_k31 (hM1) rfl ⟨rfl, by decide, by decide, by decide, Or.inl ⟨_, rfl⟩⟩ (Nat.le_of_ble_eq_true rfl) (mm_foc rfl) (Nat.le_of_ble_eq_true rfl) ?_  -- calls 107 cX5_canShow
  refine w_b_ne rfl (fun z => absurd z (fun z => z.elim h2 h4)) (fun _ => ?_)
  refine w_st rfl rfl rfl trivial ?_
  refine w_st rfl rfl rfl trivial ?_
  refine w_k21 (r_fails) rfl ⟨rfl, by decide, by decide, by decide, Or.inl ⟨_, rfl⟩⟩ (Nat.le_of_ble_eq_true rfl) (mm_foc rfl) (Nat.le_of_ble_eq_true rfl) ?_  -- calls 89 cX5_fails
  refine w_reti rfl ?_
  exact hF ▸ ⟨rfl, rfl, sp_th_k2 rfl hf1⟩
theorem r_show (h : sp_M I σ n ps m tx) (ok : sp_ok σ) (hf : f < 4) (hy : y = -1 ∨ sp_can (sp_R σ f) y) : ∃ I', mm_M 108 4 [.ref 61, .int (nI f), .int y] g I (some (.int (σ (4 + f)))) I' ∧ (sp_M I' (upd σ (4 + f) y) (sp_sn n) (sp_sp n ps σ) m tx ∧ I' 61 6 = nI 0 ∧ sp_rf I I') := by
  have hx : y = -1 ∨ sp_lt 10 y := hy.imp id (fun ⟨d, hd, e, _⟩ => ⟨d, hd, e⟩)
  obtain ⟨I1, hM1, _, hf1⟩ := r_canShow (g := g) (sp_N_6 (x := 0) h.1) ok hf (x := y) hx
  have hN1 := sp_N_f2 (sp_N_6 (x := 0) h.1) hf1
  obtain ⟨I2, hM2, hP2, a2, b2⟩ := r_saves (g := g) hN1.2 (sp_P_f2 (sp_P_6 h.2.1) hf1)
  have hN2 : ∀ j, j < 72 → I2 63 j = σ j := fun j hj => by rw [a2 63 (by decide) (by decide)]; exact hN1.2 j hj
  refine w_MX ?_
  show mm_W 108 0 [.ref 61, .int (nI f), .int y, .null] [] _ _ _
  generalize hF : mm_EQ _ _ _ = F
  refine w_st rfl rfl rfl trivial ?_
  refine w_st rfl rfl rfl trivial ?_
  refine w_pi rfl (mm_foc rfl) ?_
  show mm_W 108 5 _ _ g (sp_st6 I 0) F
  refine w_st rfl rfl rfl trivial ?_
  refine w_k11 (r_isField) rfl ⟨rfl, by decide, by decide, by decide, Or.inr (Or.inl ⟨_, rfl⟩)⟩ (Nat.le_of_ble_eq_true rfl) trivial (Nat.le_of_ble_eq_true rfl) ?_  -- calls 91 cX5_isField
  refine w_b_ne rfl (fun _ => ?_) (fun z => absurd (⟨f, hf, rfl⟩) z)
  refine w_st rfl rfl rfl trivial ?_
  refine w_st rfl rfl rfl trivial ?_
  refine w_st rfl rfl rfl trivial ?_
  refine w_k31 (c_in) rfl ⟨rfl, by decide, by decide, by decide, Or.inr (Or.inl ⟨_, rfl⟩)⟩ (Nat.le_of_ble_eq_true rfl) trivial (Nat.le_of_ble_eq_true rfl) ?_  -- calls 90 cX5_in
  refine w_b_ne rfl (fun _ => ?_) (fun z => absurd (sp_in1.2 hx) z)
  refine w_st rfl rfl rfl trivial ?_
  refine w_st rfl rfl rfl trivial ?_
  refine w_st rfl rfl rfl trivial ?_
  refine w_k31 (hM1) rfl ⟨rfl, by decide, by decide, by decide, Or.inl ⟨_, rfl⟩⟩ (Nat.le_of_ble_eq_true rfl) (mm_foc rfl) (Nat.le_of_ble_eq_true rfl) ?_  -- calls 107 cX5_canShow
  refine w_b_ne rfl (fun _ => ?_) (fun z => absurd (hy) z)
  refine w_st rfl rfl rfl trivial ?_
  refine w_k10 (hM2) rfl ⟨rfl, by decide, by decide, by decide, Or.inl ⟨_, rfl⟩⟩ (Nat.le_of_ble_eq_true rfl) (mm_foc rfl) (Nat.le_of_ble_eq_true rfl) ?_  -- calls 96 cX5_saves
  refine w_st rfl rfl rfl trivial ?_
  refine w_gr (j := 63) rfl (mm_foc rfl) rfl (by decide) ?_
  refine w_st rfl rfl rfl trivial ?_
  refine w_st rfl rfl rfl trivial ?_
  refine w_iadd rfl ?_
  refine w_ia (4 + f) rfl (mm_fac (n := 72) rfl) (by first | rfl | assumption | (simp only [← nI_add, ← nI_mul]; rfl)) (by first | decide | omega) ?_
  rw [hN2 _ (by omega)]
  refine w_st rfl rfl rfl (Nat.le_of_ble_eq_true rfl) ?_
  refine w_st rfl rfl rfl trivial ?_
  refine w_gr (j := 63) rfl (mm_foc rfl) rfl (by decide) ?_
  refine w_st rfl rfl rfl trivial ?_
  refine w_st rfl rfl rfl trivial ?_
  refine w_iadd rfl ?_
  refine w_st rfl rfl rfl trivial ?_
  refine w_is (4 + f) rfl (mm_fac (n := 72) rfl) (by first | rfl | assumption | (simp only [← nI_add, ← nI_mul]; rfl)) (by first | decide | omega) ?_
  refine w_st rfl rfl rfl trivial ?_
  refine w_reti rfl ?_
  subst hF
  refine ⟨rfl, rfl, ?_⟩
  exact r_fin h hf1 hP2 a2 b2 (sp_N_u hN2) (fun p c _ _ => va_up_ne _ _ c)
-- set
theorem r_set_1 (h1 : ¬ sp_lt 2 x) : ∃ I', mm_M 118 4 [.ref 61, .int x, .int y] g I (some (.int 0)) I' ∧ sp_th 1 I I' := by
  refine w_MX ?_
  show mm_W 118 0 [.ref 61, .int x, .int y, .null] [] _ _ _
  generalize hF : mm_EQ _ _ _ = F
  refine w_st rfl rfl rfl trivial ?_
  refine w_st rfl rfl rfl trivial ?_
  refine w_pi rfl (mm_foc rfl) ?_
  show mm_W 118 5 _ _ g (sp_st6 I 0) F
  refine w_st rfl rfl rfl trivial ?_
  refine w_st rfl rfl rfl trivial ?_
  refine w_st rfl rfl rfl trivial ?_
  refine w_k31 (r_in0 1 (by decide) rfl) rfl ⟨rfl, by decide, by decide, by decide, Or.inr (Or.inl ⟨_, rfl⟩)⟩ (Nat.le_of_ble_eq_true rfl) trivial (Nat.le_of_ble_eq_true rfl) ?_  -- calls 90 cX5_in
  refine w_b_ne rfl (fun z => absurd z (h1)) (fun _ => ?_)
  refine w_st rfl rfl rfl trivial ?_
  refine w_st rfl rfl rfl trivial ?_
  refine w_k21 (r_fails) rfl ⟨rfl, by decide, by decide, by decide, Or.inl ⟨_, rfl⟩⟩ (Nat.le_of_ble_eq_true rfl) (mm_foc rfl) (Nat.le_of_ble_eq_true rfl) ?_  -- calls 89 cX5_fails
  refine w_reti rfl ?_
  exact hF ▸ ⟨rfl, rfl, sp_th_k rfl⟩
theorem r_set_2 (hk : k < 2) (h2 : ¬ ((k = 0 ∧ 1 ≤ y ∧ y ≤ 5) ∨ (k = 1 ∧ sp_lt 100 y))) : ∃ I', mm_M 118 4 [.ref 61, .int (nI k), .int y] g I (some (.int 0)) I' ∧ sp_th 2 I I' := by
  refine w_MX ?_
  show mm_W 118 0 [.ref 61, .int (nI k), .int y, .null] [] _ _ _
  generalize hF : mm_EQ _ _ _ = F
  refine w_st rfl rfl rfl trivial ?_
  refine w_st rfl rfl rfl trivial ?_
  refine w_pi rfl (mm_foc rfl) ?_
  show mm_W 118 5 _ _ g (sp_st6 I 0) F
  refine w_st rfl rfl rfl trivial ?_
  refine w_st rfl rfl rfl trivial ?_
  refine w_st rfl rfl rfl trivial ?_
  refine w_k31 (r_in0 1 (by decide) rfl) rfl ⟨rfl, by decide, by decide, by decide, Or.inr (Or.inl ⟨_, rfl⟩)⟩ (Nat.le_of_ble_eq_true rfl) trivial (Nat.le_of_ble_eq_true rfl) ?_  -- calls 90 cX5_in
  refine w_b_ne rfl (fun _ => ?_) (fun z => absurd (⟨k, hk, rfl⟩) z)
  refine w_st rfl rfl rfl trivial ?_
  refine w_st rfl rfl rfl trivial ?_
  refine w_st rfl rfl rfl trivial ?_
  refine w_isub rfl ?_
  refine w_st rfl rfl rfl trivial ?_
  have hk' : k = 0 ∨ k = 1 := by omega
  rcases hk' with rfl | rfl
  · skip
    refine w_m_ne (a := 0) rfl (by first | decide | omega) (by first | rfl | assumption | (simp only [← nI_add, ← nI_mul]; rfl)) (fun c => by exfalso; omega) (fun _ => ?_)
    refine w_st rfl rfl rfl trivial ?_
    refine w_st rfl rfl rfl trivial ?_
    refine w_k31 (c_in) rfl ⟨rfl, by decide, by decide, by decide, Or.inr (Or.inl ⟨_, rfl⟩)⟩ (Nat.le_of_ble_eq_true rfl) trivial (Nat.le_of_ble_eq_true rfl) ?_  -- calls 90 cX5_in
    refine w_b_ne rfl (fun z => absurd z (fun z => h2 (Or.inl ⟨rfl, z.1, z.2⟩))) (fun _ => ?_)
    refine w_st rfl rfl rfl trivial ?_
    refine w_st rfl rfl rfl trivial ?_
    refine w_k21 (r_fails) rfl ⟨rfl, by decide, by decide, by decide, Or.inl ⟨_, rfl⟩⟩ (Nat.le_of_ble_eq_true rfl) (mm_foc rfl) (Nat.le_of_ble_eq_true rfl) ?_  -- calls 89 cX5_fails
    refine w_reti rfl ?_
    exact hF ▸ ⟨rfl, rfl, sp_th_k rfl⟩
  · skip
    refine w_m_ne (a := 1) rfl (by first | decide | omega) (by first | rfl | assumption | (simp only [← nI_add, ← nI_mul]; rfl)) (fun _ => ?_) (fun c => by exfalso; omega)
    refine w_st rfl rfl rfl trivial ?_
    refine w_k31 (r_in0 99 (by decide) rfl) rfl ⟨rfl, by decide, by decide, by decide, Or.inr (Or.inl ⟨_, rfl⟩)⟩ (Nat.le_of_ble_eq_true rfl) trivial (Nat.le_of_ble_eq_true rfl) ?_  -- calls 90 cX5_in
    refine w_b_ne rfl (fun z => absurd z (fun z => h2 (Or.inr ⟨rfl, z⟩))) (fun _ => ?_)
    refine w_st rfl rfl rfl trivial ?_
    refine w_st rfl rfl rfl trivial ?_
    refine w_k21 (r_fails) rfl ⟨rfl, by decide, by decide, by decide, Or.inl ⟨_, rfl⟩⟩ (Nat.le_of_ble_eq_true rfl) (mm_foc rfl) (Nat.le_of_ble_eq_true rfl) ?_  -- calls 89 cX5_fails
    refine w_reti rfl ?_
    exact hF ▸ ⟨rfl, rfl, sp_th_k rfl⟩
theorem r_set (h : sp_M I σ n ps m tx) (hk : k < 2) (h2 : (k = 0 ∧ 1 ≤ y ∧ y ≤ 5) ∨ (k = 1 ∧ sp_lt 100 y)) : ∃ I', mm_M 118 4 [.ref 61, .int (nI k), .int y] g I (some (.int (σ (1 + k)))) I' ∧ (sp_M I' (upd σ (1 + k) y) (sp_sn n) (sp_sp n ps σ) m tx ∧ I' 61 6 = nI 0 ∧ sp_rf I I') := by
  have hN1 := sp_N_6 (x := 0) h.1
  obtain ⟨I2, hM2, hP2, a2, b2⟩ := r_saves (g := g) hN1.2 (sp_P_6 h.2.1)
  have hN2 : ∀ j, j < 72 → I2 63 j = σ j := fun j hj => by rw [a2 63 (by decide) (by decide)]; exact hN1.2 j hj
  refine w_MX ?_
  show mm_W 118 0 [.ref 61, .int (nI k), .int y, .null] [] _ _ _
  generalize hF : mm_EQ _ _ _ = F
  refine w_st rfl rfl rfl trivial ?_
  refine w_st rfl rfl rfl trivial ?_
  refine w_pi rfl (mm_foc rfl) ?_
  show mm_W 118 5 _ _ g (sp_st6 I 0) F
  refine w_st rfl rfl rfl trivial ?_
  refine w_st rfl rfl rfl trivial ?_
  refine w_st rfl rfl rfl trivial ?_
  refine w_k31 (r_in0 1 (by decide) rfl) rfl ⟨rfl, by decide, by decide, by decide, Or.inr (Or.inl ⟨_, rfl⟩)⟩ (Nat.le_of_ble_eq_true rfl) trivial (Nat.le_of_ble_eq_true rfl) ?_  -- calls 90 cX5_in
  refine w_b_ne rfl (fun _ => ?_) (fun z => absurd (⟨k, hk, rfl⟩) z)
  have K : mm_W 118 46 [.ref 61, .int (nI k), .int y, .null] [] g (sp_st6 I 0) F := by
    refine w_st rfl rfl rfl trivial ?_
    refine w_k10 (hM2) rfl ⟨rfl, by decide, by decide, by decide, Or.inl ⟨_, rfl⟩⟩ (Nat.le_of_ble_eq_true rfl) (mm_foc rfl) (Nat.le_of_ble_eq_true rfl) ?_  -- calls 96 cX5_saves
    refine w_st rfl rfl rfl trivial ?_
    refine w_gr (j := 63) rfl (mm_foc rfl) rfl (by decide) ?_
    refine w_st rfl rfl rfl trivial ?_
    refine w_st rfl rfl rfl trivial ?_
    refine w_iadd rfl ?_
    refine w_ia (1 + k) rfl (mm_fac (n := 72) rfl) (by first | rfl | assumption | (simp only [← nI_add, ← nI_mul]; rfl)) (by first | decide | omega) ?_
    rw [hN2 _ (by omega)]
    refine w_st rfl rfl rfl (Nat.le_of_ble_eq_true rfl) ?_
    refine w_st rfl rfl rfl trivial ?_
    refine w_gr (j := 63) rfl (mm_foc rfl) rfl (by decide) ?_
    refine w_st rfl rfl rfl trivial ?_
    refine w_st rfl rfl rfl trivial ?_
    refine w_iadd rfl ?_
    refine w_st rfl rfl rfl trivial ?_
    refine w_is (1 + k) rfl (mm_fac (n := 72) rfl) (by first | rfl | assumption | (simp only [← nI_add, ← nI_mul]; rfl)) (by first | decide | omega) ?_
    refine w_st rfl rfl rfl trivial ?_
    refine w_reti rfl ?_
    subst hF
    refine ⟨rfl, rfl, ?_⟩
    exact r_fin h sp_f2_rf hP2 a2 b2 (sp_N_u hN2) (fun p c _ _ => va_up_ne _ _ c)
  refine w_st rfl rfl rfl trivial ?_
  refine w_st rfl rfl rfl trivial ?_
  refine w_st rfl rfl rfl trivial ?_
  refine w_isub rfl ?_
  refine w_st rfl rfl rfl trivial ?_
  rcases h2 with ⟨rfl, h2⟩ | ⟨rfl, h2⟩
  · skip
    refine w_m_ne (a := 0) rfl (by first | decide | omega) (by first | rfl | assumption | (simp only [← nI_add, ← nI_mul]; rfl)) (fun c => by exfalso; omega) (fun _ => ?_)
    refine w_st rfl rfl rfl trivial ?_
    refine w_st rfl rfl rfl trivial ?_
    refine w_k31 (c_in) rfl ⟨rfl, by decide, by decide, by decide, Or.inr (Or.inl ⟨_, rfl⟩)⟩ (Nat.le_of_ble_eq_true rfl) trivial (Nat.le_of_ble_eq_true rfl) ?_  -- calls 90 cX5_in
    refine w_b_ne rfl (fun _ => ?_) (fun z => absurd (h2) z)
    exact K
  · skip
    refine w_m_ne (a := 1) rfl (by first | decide | omega) (by first | rfl | assumption | (simp only [← nI_add, ← nI_mul]; rfl)) (fun _ => ?_) (fun c => by exfalso; omega)
    refine w_st rfl rfl rfl trivial ?_
    refine w_k31 (r_in0 99 (by decide) rfl) rfl ⟨rfl, by decide, by decide, by decide, Or.inr (Or.inl ⟨_, rfl⟩)⟩ (Nat.le_of_ble_eq_true rfl) trivial (Nat.le_of_ble_eq_true rfl) ?_  -- calls 90 cX5_in
    refine w_b_ne rfl (fun _ => ?_) (fun z => absurd (h2) z)
    exact K
-- lamp
theorem r_lamp_1 (h1 : ¬ (sp_lt 4 x ∧ sp_lt 15 y)) : ∃ I', mm_M 113 4 [.ref 61, .int x, .int y, .int z] g I (some (.int 0)) I' ∧ sp_th 1 I I' := by
  refine w_MX ?_
  show mm_W 113 0 [.ref 61, .int x, .int y, .int z] [] _ _ _
  generalize hF : mm_EQ _ _ _ = F
  refine w_st rfl rfl rfl trivial ?_
  refine w_st rfl rfl rfl trivial ?_
  refine w_pi rfl (mm_foc rfl) ?_
  show mm_W 113 5 _ _ g (sp_st6 I 0) F
  refine w_st rfl rfl rfl trivial ?_
  refine w_k11 (r_isField) rfl ⟨rfl, by decide, by decide, by decide, Or.inr (Or.inl ⟨_, rfl⟩)⟩ (Nat.le_of_ble_eq_true rfl) trivial (Nat.le_of_ble_eq_true rfl) ?_  -- calls 91 cX5_isField
  refine w_b_eq rfl (fun c => ?_) (fun c => ?_)
  · skip
    refine w_st rfl rfl rfl trivial ?_
    refine w_st rfl rfl rfl trivial ?_
    refine w_k21 (r_fails) rfl ⟨rfl, by decide, by decide, by decide, Or.inl ⟨_, rfl⟩⟩ (Nat.le_of_ble_eq_true rfl) (mm_foc rfl) (Nat.le_of_ble_eq_true rfl) ?_  -- calls 89 cX5_fails
    refine w_reti rfl ?_
    exact hF ▸ ⟨rfl, rfl, sp_th_k rfl⟩
  · skip
    refine w_st rfl rfl rfl trivial ?_
    refine w_k11 (r_isLamp) rfl ⟨rfl, by decide, by decide, by decide, Or.inr (Or.inl ⟨_, rfl⟩)⟩ (Nat.le_of_ble_eq_true rfl) trivial (Nat.le_of_ble_eq_true rfl) ?_  -- calls 92 cX5_isLamp
    refine w_b_ne rfl (fun z => absurd z (fun z => h1 ⟨c, z⟩)) (fun _ => ?_)
    refine w_st rfl rfl rfl trivial ?_
    refine w_st rfl rfl rfl trivial ?_
    refine w_k21 (r_fails) rfl ⟨rfl, by decide, by decide, by decide, Or.inl ⟨_, rfl⟩⟩ (Nat.le_of_ble_eq_true rfl) (mm_foc rfl) (Nat.le_of_ble_eq_true rfl) ?_  -- calls 89 cX5_fails
    refine w_reti rfl ?_
    exact hF ▸ ⟨rfl, rfl, sp_th_k rfl⟩
theorem sp_ok_set {q : Bool} (ok : sp_ok σ) (hf : f < 4) (hl : l < 15) : sp_ok (sp_set σ f l q) := by
  obtain ⟨o1, o2, o3, o4, N, o5, o6, o7⟩ := ok
  refine ⟨fun e he => ?_, fun e he => ?_, ?_, ?_, N, o5, ?_, fun j hj => ?_⟩
  · rw [sp_set_o (by omega) (by omega)]; exact o1 e he
  · by_cases c : e = f
    · subst c
      cases q
      · show sp_b15 (upd (upd σ (8 + e) _) (12 + (15 * e + l)) 0 (8 + e))
        rw [upd_n (by omega), upd_s]
        exact sp_b15_and (o2 e he) _
      · show sp_b15 (upd σ (8 + e) _ (8 + e))
        rw [upd_s]
        exact sp_b15_or (o2 e he) (sp_b15_bit hl)
    · rw [sp_set_o (by omega) (by omega)]; exact o2 e he
  · rw [sp_set_o (by omega) (by omega)]; exact o3
  · rw [sp_set_o (by omega) (by omega)]; exact o4
  · rw [sp_set_o (by omega) (by omega)]; exact o6
  · cases q
    · show ∃ h, h ≤ N ∧ upd (upd σ (8 + f) _) (12 + (15 * f + l)) 0 (12 + j) = nI h
      by_cases c : j = 15 * f + l
      · subst c; rw [upd_s]; exact ⟨0, Nat.zero_le _, rfl⟩
      · rw [upd_n (by omega), upd_n (by omega)]; exact o7 j hj
    · show ∃ h, h ≤ N ∧ upd σ (8 + f) _ (12 + j) = nI h
      rw [upd_n (by omega)]; exact o7 j hj
theorem r_laysFor2 (h : sp_N I σ) (ok : sp_ok σ) (hf : f < 4) : ∃ I', mm_M 102 2 [.ref 61, .int (nI f)] g I (some (.int (nI (sp_no (sp_R σ f) 10)))) I' ∧ (sp_L I' 67 (sp_R σ f) ∧ ∀ q, ¬ q = 67 → I' q = I q) := by
  obtain ⟨I', hM, h1, h2⟩ := r_lays (g := g) (I := I) (p := 67) (b := σ (8 + f)) (s := σ 1) h.1 (mm_fac rfl) (by decide) (ok.2.1 f hf)
  refine ⟨I', ?_, h1, h2⟩
  refine w_M ?_
  show mm_W 102 0 [.ref 61, .int (nI f)] [] _ _ _
  generalize hF : mm_EX _ _ _ = F
  refine w_st rfl rfl rfl trivial ?_
  refine w_st rfl rfl rfl trivial ?_
  refine w_gr (j := 67) rfl (mm_foc rfl) rfl (by decide) ?_
  refine w_st rfl rfl rfl trivial ?_
  refine w_gr (j := 63) rfl (mm_foc rfl) rfl (by decide) ?_
  refine w_st rfl rfl rfl trivial ?_
  refine w_st rfl rfl rfl trivial ?_
  refine w_iadd rfl ?_
  refine w_ia (8 + f) rfl (mm_fac (n := 72) rfl) (by first | rfl | assumption | (simp only [← nI_add, ← nI_mul]; rfl)) (by first | decide | omega) ?_
  rw [h.2 _ (by omega)]
  refine w_st rfl rfl rfl trivial ?_
  refine w_gr (j := 63) rfl (mm_foc rfl) rfl (by decide) ?_
  refine w_st rfl rfl rfl trivial ?_
  refine w_ia (1) rfl (mm_fac (n := 72) rfl) (by first | rfl | assumption | (simp only [← nI_add, ← nI_mul]; rfl)) (by first | decide | omega) ?_
  rw [h.2 _ (by omega)]
  refine w_k41 (hM) rfl ⟨rfl, by decide, by decide, by decide, Or.inl ⟨_, rfl⟩⟩ (Nat.le_of_ble_eq_true rfl) (mm_foc rfl) (Nat.le_of_ble_eq_true rfl) ?_  -- calls 101 cX5_lays
  refine w_reti rfl ?_
  exact hF ▸ mm_EX_i (rfl)
theorem r_lamp (h : sp_M I σ n ps m tx) (ok : sp_ok σ) (hf : f < 4) (hl : l < 15) (q : Bool) : ∃ I', mm_M 113 4 [.ref 61, .int (nI f), .int (nI l), .int (sp_q q)] g I (some (.int (nI (sp_cg (sp_R (sp_set σ f l q) f) (sp_R σ f) 10)))) I' ∧ (sp_M I' (sp_set σ f l q) (sp_sn n) (sp_sp n ps σ) m tx ∧ I' 61 6 = nI 0 ∧ sp_rf I I') := by
  have hN1 := sp_N_6 (x := 0) h.1
  obtain ⟨I2, hM2, hP2, a2, b2⟩ := r_saves (g := g) hN1.2 (sp_P_6 h.2.1)
  have hN2 : ∀ j, j < 72 → I2 63 j = σ j := fun j hj => by rw [a2 63 (by decide) (by decide)]; exact hN1.2 j hj
  have hS2 : sp_S I2 := fun j hj => by rw [a2 62 (by decide) (by decide)]; exact hN1.1 j hj
  obtain ⟨I3, hM3, hL3, f3⟩ := r_lays (g := g) (I := I2) (p := 68) (b := σ (8 + f)) (s := σ 1) hS2 (mm_fac rfl) (by decide) (ok.2.1 f hf)
  have hN3 : ∀ j, j < 72 → I3 63 j = σ j := fun j hj => by rw [f3 63 (by decide)]; exact hN2 j hj
  obtain ⟨I4, hM4, hN4, f4⟩ : ∃ I', mm_M 112 4 [.ref 61, .int (nI f), .int (nI l), .int (sp_q q)] g I3 none I' ∧ ((∀ j, j < 72 → I' 63 j = sp_set σ f l q j) ∧ ∀ p, ¬ p = 63 → I' p = I3 p) := by
    cases q
    · exact r_changes_f hN3 hf hl
    · exact r_changes_t hN3 hf hl
  have hN4' : sp_N I4 (sp_set σ f l q) := ⟨fun j hj => by rw [f4 62 (by decide), f3 62 (by decide)]; exact hS2 j hj, hN4⟩
  obtain ⟨I5, hM5, hL5, f5⟩ := r_laysFor2 (g := g) hN4' (sp_ok_set ok hf hl) hf
  have hL8 : sp_L I5 68 (sp_R σ f) := fun d hd => by rw [f5 68 (by decide), f4 68 (by decide)]; exact hL3 d hd
  refine w_MX ?_
  show mm_W 113 0 [.ref 61, .int (nI f), .int (nI l), .int (sp_q q)] [] _ _ _
  generalize hF : mm_EQ _ _ _ = F
  refine w_st rfl rfl rfl trivial ?_
  refine w_st rfl rfl rfl trivial ?_
  refine w_pi rfl (mm_foc rfl) ?_
  show mm_W 113 5 _ _ g (sp_st6 I 0) F
  refine w_st rfl rfl rfl trivial ?_
  refine w_k11 (r_isField) rfl ⟨rfl, by decide, by decide, by decide, Or.inr (Or.inl ⟨_, rfl⟩)⟩ (Nat.le_of_ble_eq_true rfl) trivial (Nat.le_of_ble_eq_true rfl) ?_  -- calls 91 cX5_isField
  refine w_b_eq rfl (fun z => absurd (⟨f, hf, rfl⟩) z) (fun _ => ?_)
  refine w_st rfl rfl rfl trivial ?_
  refine w_k11 (r_isLamp) rfl ⟨rfl, by decide, by decide, by decide, Or.inr (Or.inl ⟨_, rfl⟩)⟩ (Nat.le_of_ble_eq_true rfl) trivial (Nat.le_of_ble_eq_true rfl) ?_  -- calls 92 cX5_isLamp
  refine w_b_ne rfl (fun _ => ?_) (fun z => absurd (⟨l, hl, rfl⟩) z)
  refine w_st rfl rfl rfl trivial ?_
  refine w_k10 (hM2) rfl ⟨rfl, by decide, by decide, by decide, Or.inl ⟨_, rfl⟩⟩ (Nat.le_of_ble_eq_true rfl) (mm_foc rfl) (Nat.le_of_ble_eq_true rfl) ?_  -- calls 96 cX5_saves
  refine w_st rfl rfl rfl trivial ?_
  refine w_st rfl rfl rfl trivial ?_
  refine w_gr (j := 68) rfl (mm_foc rfl) rfl (by decide) ?_
  refine w_st rfl rfl rfl trivial ?_
  refine w_gr (j := 63) rfl (mm_foc rfl) rfl (by decide) ?_
  refine w_st rfl rfl rfl trivial ?_
  refine w_st rfl rfl rfl trivial ?_
  refine w_iadd rfl ?_
  refine w_ia (8 + f) rfl (mm_fac (n := 72) rfl) (by first | rfl | assumption | (simp only [← nI_add, ← nI_mul]; rfl)) (by first | decide | omega) ?_
  rw [hN2 _ (by omega)]
  refine w_st rfl rfl rfl trivial ?_
  refine w_gr (j := 63) rfl (mm_foc rfl) rfl (by decide) ?_
  refine w_st rfl rfl rfl trivial ?_
  refine w_ia (1) rfl (mm_fac (n := 72) rfl) (by first | rfl | assumption | (simp only [← nI_add, ← nI_mul]; rfl)) (by first | decide | omega) ?_
  rw [hN2 _ (by omega)]
  refine w_k41 (hM3) rfl ⟨rfl, by decide, by decide, by decide, Or.inl ⟨_, rfl⟩⟩ (Nat.le_of_ble_eq_true rfl) (mm_foc rfl) (Nat.le_of_ble_eq_true rfl) ?_  -- calls 101 cX5_lays
  refine w_st rfl rfl rfl trivial ?_
  refine w_st rfl rfl rfl trivial ?_
  refine w_st rfl rfl rfl trivial ?_
  refine w_st rfl rfl rfl trivial ?_
  refine w_st rfl rfl rfl trivial ?_
  refine w_k40 (hM4) rfl ⟨rfl, by decide, by decide, by decide, Or.inl ⟨_, rfl⟩⟩ (Nat.le_of_ble_eq_true rfl) (mm_foc rfl) (Nat.le_of_ble_eq_true rfl) ?_  -- calls 112 cX5_changes
  refine w_st rfl rfl rfl trivial ?_
  refine w_st rfl rfl rfl trivial ?_
  refine w_k21 (hM5) rfl ⟨rfl, by decide, by decide, by decide, Or.inl ⟨_, rfl⟩⟩ (Nat.le_of_ble_eq_true rfl) (mm_foc rfl) (Nat.le_of_ble_eq_true rfl) ?_  -- calls 102 cX5_laysFor
  refine w_st rfl rfl rfl trivial ?_
  refine w_st rfl rfl rfl trivial ?_
  refine w_k11 (r_unlike hL5 hL8) rfl ⟨rfl, by decide, by decide, by decide, Or.inl ⟨_, rfl⟩⟩ (Nat.le_of_ble_eq_true rfl) (mm_foc rfl) (Nat.le_of_ble_eq_true rfl) ?_  -- calls 103 cX5_unlike
  refine w_reti rfl ?_
  subst hF
  refine ⟨rfl, rfl, ?_⟩
  exact r_fin h sp_f2_rf hP2 a2 b2 (fun j hj => by rw [f5 63 (by decide)]; exact hN4 j hj) (fun p c1 c2 c3 => by rw [f5 p c2, f4 p c1, f3 p c3])
theorem r_mend_1 (h1 : ¬ sp_lt 4 x) : ∃ I', mm_M 114 4 [.ref 61, .int x] g I (some (.int 0)) I' ∧ sp_th 1 I I' := by
  refine w_MX ?_
  show mm_W 114 0 [.ref 61, .int x, .null, .null] [] _ _ _
  generalize hF : mm_EQ _ _ _ = F
  refine w_st rfl rfl rfl trivial ?_
  refine w_st rfl rfl rfl trivial ?_
  refine w_pi rfl (mm_foc rfl) ?_
  show mm_W 114 5 _ _ g (sp_st6 I 0) F
  refine w_st rfl rfl rfl trivial ?_
  refine w_k11 (r_isField) rfl ⟨rfl, by decide, by decide, by decide, Or.inr (Or.inl ⟨_, rfl⟩)⟩ (Nat.le_of_ble_eq_true rfl) trivial (Nat.le_of_ble_eq_true rfl) ?_  -- calls 91 cX5_isField
  refine w_b_ne rfl (fun z => absurd z (h1)) (fun _ => ?_)
  refine w_st rfl rfl rfl trivial ?_
  refine w_st rfl rfl rfl trivial ?_
  refine w_k21 (r_fails) rfl ⟨rfl, by decide, by decide, by decide, Or.inl ⟨_, rfl⟩⟩ (Nat.le_of_ble_eq_true rfl) (mm_foc rfl) (Nat.le_of_ble_eq_true rfl) ?_  -- calls 89 cX5_fails
  refine w_reti rfl ?_
  exact hF ▸ ⟨rfl, rfl, sp_th_k rfl⟩
theorem r_mend (h : sp_M I σ n ps m tx) (ok : sp_ok σ) (hf : f < 4) : ∃ I', mm_M 114 4 [.ref 61, .int (nI f)] g I (some (.int (sp_pop (σ (8 + f))))) I' ∧ (sp_M I' (sp_md σ f 15) (sp_sn n) (sp_sp n ps σ) m tx ∧ I' 61 6 = nI 0 ∧ sp_rf I I') := by
  have hN1 := sp_N_6 (x := 0) h.1
  obtain ⟨I2, hM2, hP2, a2, b2⟩ := r_saves (g := g) hN1.2 (sp_P_6 h.2.1)
  have hN2 : ∀ j, j < 72 → I2 63 j = σ j := fun j hj => by rw [a2 63 (by decide) (by decide)]; exact hN1.2 j hj
  refine w_MX ?_
  show mm_W 114 0 [.ref 61, .int (nI f), .null, .null] [] _ _ _
  generalize hF : mm_EQ _ _ _ = F
  refine w_st rfl rfl rfl trivial ?_
  refine w_st rfl rfl rfl trivial ?_
  refine w_pi rfl (mm_foc rfl) ?_
  show mm_W 114 5 _ _ g (sp_st6 I 0) F
  refine w_st rfl rfl rfl trivial ?_
  refine w_k11 (r_isField) rfl ⟨rfl, by decide, by decide, by decide, Or.inr (Or.inl ⟨_, rfl⟩)⟩ (Nat.le_of_ble_eq_true rfl) trivial (Nat.le_of_ble_eq_true rfl) ?_  -- calls 91 cX5_isField
  refine w_b_ne rfl (fun _ => ?_) (fun z => absurd (⟨f, hf, rfl⟩) z)
  refine w_st rfl rfl rfl trivial ?_
  refine w_k10 (hM2) rfl ⟨rfl, by decide, by decide, by decide, Or.inl ⟨_, rfl⟩⟩ (Nat.le_of_ble_eq_true rfl) (mm_foc rfl) (Nat.le_of_ble_eq_true rfl) ?_  -- calls 96 cX5_saves
  refine w_st rfl rfl rfl trivial ?_
  refine w_gr (j := 63) rfl (mm_foc rfl) rfl (by decide) ?_
  refine w_st rfl rfl rfl trivial ?_
  refine w_st rfl rfl rfl trivial ?_
  refine w_iadd rfl ?_
  refine w_ia (8 + f) rfl (mm_fac (n := 72) rfl) (by first | rfl | assumption | (simp only [← nI_add, ← nI_mul]; rfl)) (by first | decide | omega) ?_
  rw [hN2 _ (by omega)]
  refine w_k11 (r_ones (ok.2.1 f hf)) rfl ⟨rfl, by decide, by decide, by decide, Or.inr (Or.inl ⟨_, rfl⟩)⟩ (Nat.le_of_ble_eq_true rfl) trivial (Nat.le_of_ble_eq_true rfl) ?_  -- calls 95 cX5_ones
  refine w_st rfl rfl rfl (Nat.le_of_ble_eq_true rfl) ?_
  refine w_st rfl rfl rfl trivial ?_
  refine w_st rfl rfl rfl (Nat.le_of_ble_eq_true rfl) ?_
  have K : ∀ l, l ≤ 15 → ∀ I3, ((∀ j, j < 72 → I3 63 j = sp_md σ f l j) ∧ ∀ p, ¬ p = 63 → I3 p = I2 p) → mm_W 114 37 [.ref 61, .int (nI f), .int (sp_pop (σ (8 + f))), .int (nI l)] [] g I3 F := by
    refine mm_dn 15 ?_ ?_
    · intro I3 hI
      refine w_st rfl rfl rfl trivial ?_
      refine w_st rfl rfl rfl trivial ?_
      refine w_n_ge (a := 15) (b := 15) rfl (by first | decide | omega) (by first | decide | omega) (by first | rfl | assumption | (simp only [← nI_add, ← nI_mul]; rfl)) (by first | rfl | assumption | (simp only [← nI_add, ← nI_mul]; rfl)) (fun _ => ?_) (fun c => by exfalso; omega)
      refine w_st rfl rfl rfl trivial ?_
      refine w_reti rfl ?_
      subst hF
      refine ⟨rfl, rfl, ?_⟩
      exact r_fin h sp_f2_rf hP2 a2 b2 hI.1 (fun p c _ _ => hI.2 p c)
    · intro l hl ih I3 hI
      obtain ⟨I4, hM4, hN4, f4⟩ := r_changes_f (g := g) hI.1 hf hl
      refine w_st rfl rfl rfl trivial ?_
      refine w_st rfl rfl rfl trivial ?_
      refine w_n_ge (a := l) (b := 15) rfl (by first | decide | omega) (by first | decide | omega) (by first | rfl | assumption | (simp only [← nI_add, ← nI_mul]; rfl)) (by first | rfl | assumption | (simp only [← nI_add, ← nI_mul]; rfl)) (fun c => by exfalso; omega) (fun _ => ?_)
      refine w_st rfl rfl rfl trivial ?_
      refine w_st rfl rfl rfl trivial ?_
      refine w_st rfl rfl rfl trivial ?_
      refine w_st rfl rfl rfl trivial ?_
      refine w_k40 (hM4) rfl ⟨rfl, by decide, by decide, by decide, Or.inl ⟨_, rfl⟩⟩ (Nat.le_of_ble_eq_true rfl) (mm_foc rfl) (Nat.le_of_ble_eq_true rfl) ?_  -- calls 112 cX5_changes
      refine w_inc rfl rfl rfl (Nat.le_of_ble_eq_true rfl) (nI_1 _) ?_
      refine w_st rfl rfl rfl trivial ?_
      exact ih I4 ⟨hN4, fun p c => by rw [f4 p c]; exact hI.2 p c⟩
  exact K 0 (by decide) I2 ⟨hN2, fun _ _ => rfl⟩
theorem sp_ok_md (ok : sp_ok σ) (hf : f < 4) : ∀ k, k ≤ 15 → sp_ok (sp_md σ f k) := by
  intro k
  induction k with
  | zero => intro _; exact ok
  | succ k ih => intro hk; exact sp_ok_set (ih (by omega)) hf (by omega)
-- undo
theorem r_undo_2 (h : sp_M I σ (n + 1) ps m tx) : ∃ I', mm_M 97 2 [.ref 61] g I (some (.int (nI n))) I' ∧ (sp_M I' (ps n) n ps m tx ∧ I' 61 6 = nI 0 ∧ sp_rf I I') := by
  obtain ⟨I', hM, h1, h2, h3, h4, h5⟩ := r_undo (g := g) h.2.1
  refine ⟨I', hM, ⟨⟨fun j hj => ?_, h2⟩, h1, ?_, fun i hi => ?_⟩, h3, fun p hp => h4 p (by omega) (by omega)⟩
  · rw [h4 62 (by decide) (by decide)]; exact h.1.1 j hj
  · rw [h5 5 (by decide) (by decide)]; exact h.2.2.1
  · rw [h4 65 (by decide) (by decide)]; exact h.2.2.2 i hi
end SM
