/-! the reference's public looks -/
/-- thrown is k; all else that is told stands -/
def sp_fr (I I' : mm_Is) : Prop := (∀ q, ¬ q = 61 → ¬ q = 67 → ¬ q = 68 → I' q = I q) ∧ ∀ j, ¬ j = 6 → I' 61 j = I 61 j
def sp_th (k : Nat) (I I' : mm_Is) : Prop := I' 61 6 = nI k ∧ sp_fr I I'
def sp_st6 (I : mm_Is) (x : Int32) : mm_Is := va_up I 61 (upd (I 61) 6 x)
theorem sp_st6_o {I : mm_Is} {x : Int32} {q : Nat} (h : ¬ q = 61) : sp_st6 I x q = I q := va_up_ne _ _ h
theorem sp_N_6 {I : mm_Is} {x : Int32} {σ : sp_St} (h : sp_N I σ) : sp_N (sp_st6 I x) σ :=
  ⟨fun j hj => by rw [sp_st6_o (by decide)]; exact h.1 j hj, fun j hj => by rw [sp_st6_o (by decide)]; exact h.2 j hj⟩
theorem sp_th_0 {I I' : mm_Is} (h : sp_f2 (sp_st6 I 0) I') : sp_th 0 I I' := by
  have e : I' 61 = sp_st6 I 0 61 := h 61 (by decide) (by decide)
  refine ⟨?_, fun q a b c => ?_, fun j hj => ?_⟩
  · rw [e]; exact mm_uu
  · rw [h q b c]; exact sp_st6_o a
  · rw [e]; exact mm_un (Or.inr hj)
theorem sp_th_k {I : mm_Is} {y : Int32} {k : Nat} {x : Int32} (h : x = nI k) : sp_th k I (sp_st6 (sp_st6 I y) x) := by
  subst h
  refine ⟨mm_uu, fun q a b c => ?_, fun j hj => ?_⟩
  · rw [sp_st6_o a, sp_st6_o a]
  · exact (mm_un (Or.inr hj)).trans (mm_un (Or.inr hj))
theorem sp_lt8 (n : Nat) (hn : n + 1 < 2 ^ 31) {x y : Int32} (hy : y = nI n) : (0 ≤ x ∧ x ≤ y) ↔ sp_lt (n + 1) x := ⟨fun h => sp_le_i hn hy h.1 h.2, fun h => sp_le_n hn hy h⟩
noncomputable def sp_nt (σ : sp_St) : Nat → Nat
  | 0 => 0
  | n + 1 => sp_nt σ n + sp_no (sp_R σ n) 10
theorem sp_nt_le (σ : sp_St) (n : Nat) : sp_nt σ n + sp_ct σ n = 10 * n := by
  induction n with
  | zero => rfl
  | succ n ih =>
    show sp_nt σ n + sp_no (sp_R σ n) 10 + (sp_ct σ n + (10 - sp_no (sp_R σ n) 10)) = _
    have := sp_no_le (sp_R σ n) 10
    omega
def sp_cl (m : Nat) : UInt64 := FP.ddiv (FP.i2d (nI m)) 4630826316843712512
theorem sp_cl_n : ∀ m, m < 41 → vf_n64 (sp_cl m) := by unfold vf_n64; decide +kernel
section SM
variable {g : mm_Gg} {I : mm_Is} {x y z : Int32} {l d k t u f w n : Nat} {σ : sp_St}
theorem r_in0 (n : Nat) (hn : n + 1 < 2 ^ 31) (hz : z = nI n) : mm_M 90 3 [.int x, .int 0, .int z] g I (some (.int (mm_bi (sp_lt (n + 1) x)))) I := by
  rw [← mm_bi_c (sp_lt8 n hn hz)]
  exact c_in
theorem r_fails : mm_M 89 2 [.ref 61, .int x] g I (some (.int 0)) (sp_st6 I x) := by
  refine w_M ?_
  show mm_W 89 0 [.ref 61, .int x] [] _ _ _
  generalize hF : mm_EX _ _ _ = F
  refine w_st rfl rfl rfl trivial ?_
  refine w_st rfl rfl rfl trivial ?_
  refine w_pi rfl (mm_foc rfl) ?_
  refine w_st rfl rfl rfl trivial ?_
  refine w_reti rfl ?_
  exact hF ▸ mm_EX_i (rfl)
theorem r_thrown (h : I 61 6 = nI k) : mm_M 88 1 [.ref 61] g I (some (.int (nI k))) I := by
  refine w_M ?_
  show mm_W 88 0 [.ref 61] [] _ _ _
  generalize hF : mm_EX _ _ _ = F
  refine w_st rfl rfl rfl trivial ?_
  refine w_gi rfl (mm_foc rfl) ?_
  refine w_reti rfl ?_
  exact hF ▸ mm_EX_i (h)
theorem c_clarity (h : sp_D I σ) : mm_M 58 3 [.ref 0] g I (some (.double (sp_cl (sp_ct σ 4)))) I := by
  refine w_M ?_
  show mm_W 58 0 [.ref 0, .null, .null] [] _ _ _
  generalize hF : mm_EX _ _ _ = F
  refine w_st rfl rfl rfl trivial ?_
  refine w_st rfl rfl rfl (Nat.le_of_ble_eq_true rfl) ?_
  refine w_st rfl rfl rfl trivial ?_
  refine w_st rfl rfl rfl (Nat.le_of_ble_eq_true rfl) ?_
  refine mm_dn (P := fun j => mm_W 58 4 [.ref 0, .int (nI (sp_ct σ j)), .int (nI j)] [] g I F) (4) ?_ ?_ 0 (by first | decide | omega)
  · try dsimp only
    refine w_st rfl rfl rfl trivial ?_
    refine w_st rfl rfl rfl trivial ?_
    refine w_n_ge (a := 4) (b := 4) rfl (by first | decide | omega) (by first | decide | omega) (by first | rfl | assumption | (simp only [← nI_add, ← nI_mul]; rfl)) (by first | rfl | assumption | (simp only [← nI_add, ← nI_mul]; rfl)) (fun _ => ?_) (fun c => by exfalso; omega)
    have hv : vf_n64 (FP.ddiv (FP.i2d (nI (sp_ct σ 4))) 4630826316843712512) := sp_cl_n _ (by have := sp_nt_le σ 4; omega)
    refine w_st rfl rfl rfl trivial ?_
    refine w_st rfl rfl rfl trivial ?_
    refine w_st rfl rfl rfl trivial ?_
    refine w_st rfl rfl rfl (by assumption) ?_
    refine w_retd rfl ?_
    exact hF ▸ ⟨rfl, rfl, rfl⟩
  · intro j hj ih
    try dsimp only at ih ⊢
    have hT : mm_T (45 + 4 * j) := mm_T_f hj
    have hle := sp_no_le (sp_R σ j) 10
    refine w_st rfl rfl rfl trivial ?_
    refine w_st rfl rfl rfl trivial ?_
    refine w_n_ge (a := j) (b := 4) rfl (by first | decide | omega) (by first | decide | omega) (by first | rfl | assumption | (simp only [← nI_add, ← nI_mul]; rfl)) (by first | rfl | assumption | (simp only [← nI_add, ← nI_mul]; rfl)) (fun c => by exfalso; omega) (fun _ => ?_)
    refine w_st rfl rfl rfl trivial ?_
    refine w_st rfl rfl rfl trivial ?_
    refine w_st rfl rfl rfl trivial ?_
    refine w_gr (j := 6) rfl (mm_foc rfl) rfl (by decide) ?_
    refine w_st rfl rfl rfl trivial ?_
    refine w_ra (j := 45 + 4 * j) (j) rfl (Or.inl (mm_fac rfl)) (by first | rfl | assumption | (simp only [← nI_add, ← nI_mul]; rfl)) (by first | decide | omega) (mm_T_6 (by omega)) (by omega) ?_
    refine w_k11 (c_hiddenDigits hT (h.2 j hj)) rfl ⟨rfl, by decide, by decide, by decide, Or.inl ⟨_, rfl⟩⟩ (Nat.le_of_ble_eq_true rfl) (mm_T_o hT) (Nat.le_of_ble_eq_true rfl) ?_  -- calls 19 cX2_hiddenDigits
    refine w_isub rfl ?_
    refine w_iadd rfl ?_
    refine w_hd (show nI (sp_ct σ j) + (nI 10 - nI (sp_no (sp_R σ j) 10)) = nI (sp_ct σ (j + 1)) from by rw [nI_sub hle, nI_add]; rfl) ?_
    refine w_st rfl rfl rfl (Nat.le_of_ble_eq_true rfl) ?_
    refine w_inc rfl rfl rfl (Nat.le_of_ble_eq_true rfl) (nI_1 _) ?_
    refine w_st rfl rfl rfl trivial ?_
    exact ih
theorem r_clear (h : sp_N I σ) (ok : sp_ok σ) : ∃ I', mm_M 150 3 [.ref 61] g I (some (.double (sp_cl (sp_ct σ 4)))) I' ∧ sp_f2 I I' := by
  refine w_MX ?_
  show mm_W 150 0 [.ref 61, .null, .null] [] _ _ _
  generalize hF : mm_EQ _ _ _ = F
  refine w_st rfl rfl rfl trivial ?_
  refine w_st rfl rfl rfl (Nat.le_of_ble_eq_true rfl) ?_
  refine w_st rfl rfl rfl trivial ?_
  refine w_st rfl rfl rfl (Nat.le_of_ble_eq_true rfl) ?_
  have K : ∀ j, j ≤ 4 → ∀ I1, sp_f2 I I1 → mm_W 150 4 [.ref 61, .int (nI (sp_nt σ j)), .int (nI j)] [] g I1 F := by
    refine mm_dn 4 ?_ ?_
    · intro I1 h1
      have e := sp_nt_le σ 4
      have hv : vf_n64 (FP.ddiv (FP.i2d (nI (sp_ct σ 4))) 4630826316843712512) := sp_cl_n _ (by omega)
      have e1 : (40 : Int32) - nI (sp_nt σ 4) = nI (sp_ct σ 4) := by show nI 40 - _ = _; rw [nI_sub (by omega)]; congr 1; omega
      refine w_st rfl rfl rfl trivial ?_
      refine w_st rfl rfl rfl trivial ?_
      refine w_n_ge (a := 4) (b := 4) rfl (by first | decide | omega) (by first | decide | omega) (by first | rfl | assumption | (simp only [← nI_add, ← nI_mul]; rfl)) (by first | rfl | assumption | (simp only [← nI_add, ← nI_mul]; rfl)) (fun _ => ?_) (fun c => by exfalso; omega)
      refine w_st rfl rfl rfl trivial ?_
      refine w_st rfl rfl rfl trivial ?_
      refine w_isub rfl ?_
      refine w_hd (e1) ?_
      refine w_st rfl rfl rfl trivial ?_
      refine w_st rfl rfl rfl trivial ?_
      refine w_st rfl rfl rfl (by assumption) ?_
      refine w_retd rfl ?_
      exact hF ▸ ⟨rfl, rfl, h1⟩
    · intro j hj ih I1 h1
      obtain ⟨I2, hM2, _, h2⟩ := r_laysFor (g := g) (sp_N_f2 h h1) ok hj
      refine w_st rfl rfl rfl trivial ?_
      refine w_st rfl rfl rfl trivial ?_
      refine w_n_ge (a := j) (b := 4) rfl (by first | decide | omega) (by first | decide | omega) (by first | rfl | assumption | (simp only [← nI_add, ← nI_mul]; rfl)) (by first | rfl | assumption | (simp only [← nI_add, ← nI_mul]; rfl)) (fun c => by exfalso; omega) (fun _ => ?_)
      refine w_st rfl rfl rfl trivial ?_
      refine w_st rfl rfl rfl trivial ?_
      refine w_st rfl rfl rfl trivial ?_
      refine w_k21 (hM2) rfl ⟨rfl, by decide, by decide, by decide, Or.inl ⟨_, rfl⟩⟩ (Nat.le_of_ble_eq_true rfl) (mm_foc rfl) (Nat.le_of_ble_eq_true rfl) ?_  -- calls 102 cX5_laysFor
      refine w_iadd rfl ?_
      refine w_hd (nI_add _ _) ?_
      refine w_st rfl rfl rfl (Nat.le_of_ble_eq_true rfl) ?_
      refine w_inc rfl rfl rfl (Nat.le_of_ble_eq_true rfl) (nI_1 _) ?_
      refine w_st rfl rfl rfl trivial ?_
      exact ih I2 (sp_f2_t h1 h2)
  exact K 0 (by decide) I sp_f2_rf
theorem r_field_1 (h1 : ¬ sp_lt 4 x) : ∃ I', mm_M 129 3 [.ref 61, .int x, .int y] g I (some (.int 0)) I' ∧ sp_th 1 I I' := by
  refine w_MX ?_
  show mm_W 129 0 [.ref 61, .int x, .int y] [] _ _ _
  generalize hF : mm_EQ _ _ _ = F
  refine w_st rfl rfl rfl trivial ?_
  refine w_st rfl rfl rfl trivial ?_
  refine w_pi rfl (mm_foc rfl) ?_
  show mm_W 129 5 _ _ g (sp_st6 I 0) F
  refine w_st rfl rfl rfl trivial ?_
  refine w_k11 (r_isField) rfl ⟨rfl, by decide, by decide, by decide, Or.inr (Or.inl ⟨_, rfl⟩)⟩ (Nat.le_of_ble_eq_true rfl) trivial (Nat.le_of_ble_eq_true rfl) ?_  -- calls 91 cX5_isField
  refine w_b_ne rfl (fun z => absurd z (h1)) (fun _ => ?_)
  refine w_st rfl rfl rfl trivial ?_
  refine w_st rfl rfl rfl trivial ?_
  refine w_k21 (r_fails) rfl ⟨rfl, by decide, by decide, by decide, Or.inl ⟨_, rfl⟩⟩ (Nat.le_of_ble_eq_true rfl) (mm_foc rfl) (Nat.le_of_ble_eq_true rfl) ?_  -- calls 89 cX5_fails
  refine w_reti rfl ?_
  exact hF ▸ ⟨rfl, rfl, sp_th_k rfl⟩
theorem r_field_2 (h1 : sp_lt 4 x) (h2 : ¬ sp_lt 8 y) : ∃ I', mm_M 129 3 [.ref 61, .int x, .int y] g I (some (.int 0)) I' ∧ sp_th 2 I I' := by
  refine w_MX ?_
  show mm_W 129 0 [.ref 61, .int x, .int y] [] _ _ _
  generalize hF : mm_EQ _ _ _ = F
  refine w_st rfl rfl rfl trivial ?_
  refine w_st rfl rfl rfl trivial ?_
  refine w_pi rfl (mm_foc rfl) ?_
  show mm_W 129 5 _ _ g (sp_st6 I 0) F
  refine w_st rfl rfl rfl trivial ?_
  refine w_k11 (r_isField) rfl ⟨rfl, by decide, by decide, by decide, Or.inr (Or.inl ⟨_, rfl⟩)⟩ (Nat.le_of_ble_eq_true rfl) trivial (Nat.le_of_ble_eq_true rfl) ?_  -- calls 91 cX5_isField
  refine w_b_ne rfl (fun _ => ?_) (fun z => absurd (h1) z)
  refine w_st rfl rfl rfl trivial ?_
  refine w_st rfl rfl rfl trivial ?_
  refine w_st rfl rfl rfl trivial ?_
  refine w_k31 (r_in0 7 (by decide) rfl) rfl ⟨rfl, by decide, by decide, by decide, Or.inr (Or.inl ⟨_, rfl⟩)⟩ (Nat.le_of_ble_eq_true rfl) trivial (Nat.le_of_ble_eq_true rfl) ?_  -- calls 90 cX5_in
  refine w_b_eq rfl (fun _ => ?_) (fun z => absurd z (h2))
  refine w_st rfl rfl rfl trivial ?_
  refine w_st rfl rfl rfl trivial ?_
  refine w_k21 (r_fails) rfl ⟨rfl, by decide, by decide, by decide, Or.inl ⟨_, rfl⟩⟩ (Nat.le_of_ble_eq_true rfl) (mm_foc rfl) (Nat.le_of_ble_eq_true rfl) ?_  -- calls 89 cX5_fails
  refine w_reti rfl ?_
  exact hF ▸ ⟨rfl, rfl, sp_th_k rfl⟩
theorem r_field (h : sp_N I σ) (ok : sp_ok σ) (hf : f < 4) (hw : w < 8) : ∃ I', mm_M 129 3 [.ref 61, .int (nI f), .int (nI w)] g I (some (.int (sp_fd σ f w))) I' ∧ sp_th 0 I I' := by
  refine w_MX ?_
  show mm_W 129 0 [.ref 61, .int (nI f), .int (nI w)] [] _ _ _
  generalize hF : mm_EQ _ _ _ = F
  refine w_st rfl rfl rfl trivial ?_
  refine w_st rfl rfl rfl trivial ?_
  refine w_pi rfl (mm_foc rfl) ?_
  show mm_W 129 5 _ _ g (sp_st6 I 0) F
  obtain ⟨I2, hM, h2⟩ := r_ofField (g := g) (sp_N_6 h) ok hf hw
  refine w_st rfl rfl rfl trivial ?_
  refine w_k11 (r_isField) rfl ⟨rfl, by decide, by decide, by decide, Or.inr (Or.inl ⟨_, rfl⟩)⟩ (Nat.le_of_ble_eq_true rfl) trivial (Nat.le_of_ble_eq_true rfl) ?_  -- calls 91 cX5_isField
  refine w_b_ne rfl (fun _ => ?_) (fun z => absurd (⟨f, hf, rfl⟩) z)
  refine w_st rfl rfl rfl trivial ?_
  refine w_st rfl rfl rfl trivial ?_
  refine w_st rfl rfl rfl trivial ?_
  refine w_k31 (r_in0 7 (by decide) rfl) rfl ⟨rfl, by decide, by decide, by decide, Or.inr (Or.inl ⟨_, rfl⟩)⟩ (Nat.le_of_ble_eq_true rfl) trivial (Nat.le_of_ble_eq_true rfl) ?_  -- calls 90 cX5_in
  refine w_b_eq rfl (fun z => absurd (⟨w, hw, rfl⟩) z) (fun _ => ?_)
  refine w_st rfl rfl rfl trivial ?_
  refine w_st rfl rfl rfl trivial ?_
  refine w_st rfl rfl rfl trivial ?_
  refine w_k31 (hM) rfl ⟨rfl, by decide, by decide, by decide, Or.inl ⟨_, rfl⟩⟩ (Nat.le_of_ble_eq_true rfl) (mm_foc rfl) (Nat.le_of_ble_eq_true rfl) ?_  -- calls 128 cX5_ofField
  refine w_st rfl rfl rfl trivial ?_
  refine w_reti rfl ?_
  exact hF ▸ ⟨rfl, rfl, sp_th_0 h2⟩
theorem r_lampOf_1 (h1 : ¬ (sp_lt 4 x ∧ sp_lt 15 y)) : ∃ I', mm_M 131 4 [.ref 61, .int x, .int y, .int z] g I (some (.int 0)) I' ∧ sp_th 1 I I' := by
  refine w_MX ?_
  show mm_W 131 0 [.ref 61, .int x, .int y, .int z] [] _ _ _
  generalize hF : mm_EQ _ _ _ = F
  refine w_st rfl rfl rfl trivial ?_
  refine w_st rfl rfl rfl trivial ?_
  refine w_pi rfl (mm_foc rfl) ?_
  show mm_W 131 5 _ _ g (sp_st6 I 0) F
  refine w_st rfl rfl rfl trivial ?_
  refine w_k11 (r_isField) rfl ⟨rfl, by decide, by decide, by decide, Or.inr (Or.inl ⟨_, rfl⟩)⟩ (Nat.le_of_ble_eq_true rfl) trivial (Nat.le_of_ble_eq_true rfl) ?_  -- calls 91 cX5_isField
  refine w_b_eq rfl (fun c => ?_) (fun c => ?_)
  · skip
    refine w_st rfl rfl rfl trivial ?_
    refine w_st rfl rfl rfl trivial ?_
    refine w_k21 (r_fails) rfl ⟨rfl, by decide, by decide, by decide, Or.inl ⟨_, rfl⟩⟩ (Nat.le_of_ble_eq_true rfl) (mm_foc rfl) (Nat.le_of_ble_eq_true rfl) ?_  -- calls 89 cX5_fails
    refine w_reti rfl ?_
    exact hF ▸ ⟨rfl, rfl, sp_th_k rfl⟩
  · skip
    refine w_st rfl rfl rfl trivial ?_
    refine w_k11 (r_isLamp) rfl ⟨rfl, by decide, by decide, by decide, Or.inr (Or.inl ⟨_, rfl⟩)⟩ (Nat.le_of_ble_eq_true rfl) trivial (Nat.le_of_ble_eq_true rfl) ?_  -- calls 92 cX5_isLamp
    refine w_b_ne rfl (fun z => absurd z (fun z => h1 ⟨c, z⟩)) (fun _ => ?_)
    refine w_st rfl rfl rfl trivial ?_
    refine w_st rfl rfl rfl trivial ?_
    refine w_k21 (r_fails) rfl ⟨rfl, by decide, by decide, by decide, Or.inl ⟨_, rfl⟩⟩ (Nat.le_of_ble_eq_true rfl) (mm_foc rfl) (Nat.le_of_ble_eq_true rfl) ?_  -- calls 89 cX5_fails
    refine w_reti rfl ?_
    exact hF ▸ ⟨rfl, rfl, sp_th_k rfl⟩
theorem r_lampOf_2 (h1 : sp_lt 4 x ∧ sp_lt 15 y) (h2 : ¬ sp_lt 4 z) : ∃ I', mm_M 131 4 [.ref 61, .int x, .int y, .int z] g I (some (.int 0)) I' ∧ sp_th 2 I I' := by
  refine w_MX ?_
  show mm_W 131 0 [.ref 61, .int x, .int y, .int z] [] _ _ _
  generalize hF : mm_EQ _ _ _ = F
  refine w_st rfl rfl rfl trivial ?_
  refine w_st rfl rfl rfl trivial ?_
  refine w_pi rfl (mm_foc rfl) ?_
  show mm_W 131 5 _ _ g (sp_st6 I 0) F
  refine w_st rfl rfl rfl trivial ?_
  refine w_k11 (r_isField) rfl ⟨rfl, by decide, by decide, by decide, Or.inr (Or.inl ⟨_, rfl⟩)⟩ (Nat.le_of_ble_eq_true rfl) trivial (Nat.le_of_ble_eq_true rfl) ?_  -- calls 91 cX5_isField
  refine w_b_eq rfl (fun z => absurd (h1.1) z) (fun _ => ?_)
  refine w_st rfl rfl rfl trivial ?_
  refine w_k11 (r_isLamp) rfl ⟨rfl, by decide, by decide, by decide, Or.inr (Or.inl ⟨_, rfl⟩)⟩ (Nat.le_of_ble_eq_true rfl) trivial (Nat.le_of_ble_eq_true rfl) ?_  -- calls 92 cX5_isLamp
  refine w_b_ne rfl (fun _ => ?_) (fun z => absurd (h1.2) z)
  refine w_st rfl rfl rfl trivial ?_
  refine w_st rfl rfl rfl trivial ?_
  refine w_st rfl rfl rfl trivial ?_
  refine w_k31 (r_in0 3 (by decide) rfl) rfl ⟨rfl, by decide, by decide, by decide, Or.inr (Or.inl ⟨_, rfl⟩)⟩ (Nat.le_of_ble_eq_true rfl) trivial (Nat.le_of_ble_eq_true rfl) ?_  -- calls 90 cX5_in
  refine w_b_eq rfl (fun _ => ?_) (fun z => absurd z (h2))
  refine w_st rfl rfl rfl trivial ?_
  refine w_st rfl rfl rfl trivial ?_
  refine w_k21 (r_fails) rfl ⟨rfl, by decide, by decide, by decide, Or.inl ⟨_, rfl⟩⟩ (Nat.le_of_ble_eq_true rfl) (mm_foc rfl) (Nat.le_of_ble_eq_true rfl) ?_  -- calls 89 cX5_fails
  refine w_reti rfl ?_
  exact hF ▸ ⟨rfl, rfl, sp_th_k rfl⟩
theorem r_lampOf (h : sp_N I σ) (ok : sp_ok σ) (hf : f < 4) (hl : l < 15) (hw : w < 4) : ∃ I', mm_M 131 4 [.ref 61, .int (nI f), .int (nI l), .int (nI w)] g I (some (.int (sp_lo σ f l w))) I' ∧ sp_th 0 I I' := by
  refine w_MX ?_
  show mm_W 131 0 [.ref 61, .int (nI f), .int (nI l), .int (nI w)] [] _ _ _
  generalize hF : mm_EQ _ _ _ = F
  refine w_st rfl rfl rfl trivial ?_
  refine w_st rfl rfl rfl trivial ?_
  refine w_pi rfl (mm_foc rfl) ?_
  show mm_W 131 5 _ _ g (sp_st6 I 0) F
  obtain ⟨I2, hM, h2⟩ := r_ofLamp (g := g) (sp_N_6 h) ok hf hl hw
  refine w_st rfl rfl rfl trivial ?_
  refine w_k11 (r_isField) rfl ⟨rfl, by decide, by decide, by decide, Or.inr (Or.inl ⟨_, rfl⟩)⟩ (Nat.le_of_ble_eq_true rfl) trivial (Nat.le_of_ble_eq_true rfl) ?_  -- calls 91 cX5_isField
  refine w_b_eq rfl (fun z => absurd (⟨f, hf, rfl⟩) z) (fun _ => ?_)
  refine w_st rfl rfl rfl trivial ?_
  refine w_k11 (r_isLamp) rfl ⟨rfl, by decide, by decide, by decide, Or.inr (Or.inl ⟨_, rfl⟩)⟩ (Nat.le_of_ble_eq_true rfl) trivial (Nat.le_of_ble_eq_true rfl) ?_  -- calls 92 cX5_isLamp
  refine w_b_ne rfl (fun _ => ?_) (fun z => absurd (⟨l, hl, rfl⟩) z)
  refine w_st rfl rfl rfl trivial ?_
  refine w_st rfl rfl rfl trivial ?_
  refine w_st rfl rfl rfl trivial ?_
  refine w_k31 (r_in0 3 (by decide) rfl) rfl ⟨rfl, by decide, by decide, by decide, Or.inr (Or.inl ⟨_, rfl⟩)⟩ (Nat.le_of_ble_eq_true rfl) trivial (Nat.le_of_ble_eq_true rfl) ?_  -- calls 90 cX5_in
  refine w_b_eq rfl (fun z => absurd (⟨w, hw, rfl⟩) z) (fun _ => ?_)
  refine w_st rfl rfl rfl trivial ?_
  refine w_st rfl rfl rfl trivial ?_
  refine w_st rfl rfl rfl trivial ?_
  refine w_st rfl rfl rfl trivial ?_
  refine w_k41 (hM) rfl ⟨rfl, by decide, by decide, by decide, Or.inl ⟨_, rfl⟩⟩ (Nat.le_of_ble_eq_true rfl) (mm_foc rfl) (Nat.le_of_ble_eq_true rfl) ?_  -- calls 130 cX5_ofLamp
  refine w_st rfl rfl rfl trivial ?_
  refine w_reti rfl ?_
  exact hF ▸ ⟨rfl, rfl, sp_th_0 h2⟩
theorem r_table_1 (h1 : ¬ sp_lt 4 x) : ∃ I', mm_M 133 4 [.ref 61, .int x, .int y, .int z] g I (some (.int 0)) I' ∧ sp_th 1 I I' := by
  refine w_MX ?_
  show mm_W 133 0 [.ref 61, .int x, .int y, .int z] [] _ _ _
  generalize hF : mm_EQ _ _ _ = F
  refine w_st rfl rfl rfl trivial ?_
  refine w_st rfl rfl rfl trivial ?_
  refine w_pi rfl (mm_foc rfl) ?_
  show mm_W 133 5 _ _ g (sp_st6 I 0) F
  refine w_st rfl rfl rfl trivial ?_
  refine w_k11 (r_isField) rfl ⟨rfl, by decide, by decide, by decide, Or.inr (Or.inl ⟨_, rfl⟩)⟩ (Nat.le_of_ble_eq_true rfl) trivial (Nat.le_of_ble_eq_true rfl) ?_  -- calls 91 cX5_isField
  refine w_b_ne rfl (fun z => absurd z (h1)) (fun _ => ?_)
  refine w_st rfl rfl rfl trivial ?_
  refine w_st rfl rfl rfl trivial ?_
  refine w_k21 (r_fails) rfl ⟨rfl, by decide, by decide, by decide, Or.inl ⟨_, rfl⟩⟩ (Nat.le_of_ble_eq_true rfl) (mm_foc rfl) (Nat.le_of_ble_eq_true rfl) ?_  -- calls 89 cX5_fails
  refine w_reti rfl ?_
  exact hF ▸ ⟨rfl, rfl, sp_th_k rfl⟩
theorem r_table_2 (h1 : sp_lt 4 x) (h2 : ¬ (sp_lt 10 y ∧ sp_lt 3 z)) : ∃ I', mm_M 133 4 [.ref 61, .int x, .int y, .int z] g I (some (.int 0)) I' ∧ sp_th 2 I I' := by
  refine w_MX ?_
  show mm_W 133 0 [.ref 61, .int x, .int y, .int z] [] _ _ _
  generalize hF : mm_EQ _ _ _ = F
  refine w_st rfl rfl rfl trivial ?_
  refine w_st rfl rfl rfl trivial ?_
  refine w_pi rfl (mm_foc rfl) ?_
  show mm_W 133 5 _ _ g (sp_st6 I 0) F
  refine w_st rfl rfl rfl trivial ?_
  refine w_k11 (r_isField) rfl ⟨rfl, by decide, by decide, by decide, Or.inr (Or.inl ⟨_, rfl⟩)⟩ (Nat.le_of_ble_eq_true rfl) trivial (Nat.le_of_ble_eq_true rfl) ?_  -- calls 91 cX5_isField
  refine w_b_ne rfl (fun _ => ?_) (fun z => absurd (h1) z)
  refine w_st rfl rfl rfl trivial ?_
  refine w_k11 (r_isDigit) rfl ⟨rfl, by decide, by decide, by decide, Or.inr (Or.inl ⟨_, rfl⟩)⟩ (Nat.le_of_ble_eq_true rfl) trivial (Nat.le_of_ble_eq_true rfl) ?_  -- calls 93 cX5_isDigit
  refine w_b_eq rfl (fun c => ?_) (fun c => ?_)
  · skip
    refine w_st rfl rfl rfl trivial ?_
    refine w_st rfl rfl rfl trivial ?_
    refine w_k21 (r_fails) rfl ⟨rfl, by decide, by decide, by decide, Or.inl ⟨_, rfl⟩⟩ (Nat.le_of_ble_eq_true rfl) (mm_foc rfl) (Nat.le_of_ble_eq_true rfl) ?_  -- calls 89 cX5_fails
    refine w_reti rfl ?_
    exact hF ▸ ⟨rfl, rfl, sp_th_k rfl⟩
  · skip
    refine w_st rfl rfl rfl trivial ?_
    refine w_st rfl rfl rfl trivial ?_
    refine w_st rfl rfl rfl trivial ?_
    refine w_k31 (r_in0 2 (by decide) rfl) rfl ⟨rfl, by decide, by decide, by decide, Or.inr (Or.inl ⟨_, rfl⟩)⟩ (Nat.le_of_ble_eq_true rfl) trivial (Nat.le_of_ble_eq_true rfl) ?_  -- calls 90 cX5_in
    refine w_b_eq rfl (fun _ => ?_) (fun z => absurd z (fun z => h2 ⟨c, z⟩))
    refine w_st rfl rfl rfl trivial ?_
    refine w_st rfl rfl rfl trivial ?_
    refine w_k21 (r_fails) rfl ⟨rfl, by decide, by decide, by decide, Or.inl ⟨_, rfl⟩⟩ (Nat.le_of_ble_eq_true rfl) (mm_foc rfl) (Nat.le_of_ble_eq_true rfl) ?_  -- calls 89 cX5_fails
    refine w_reti rfl ?_
    exact hF ▸ ⟨rfl, rfl, sp_th_k rfl⟩
theorem r_table (h : sp_N I σ) (ok : sp_ok σ) (hf : f < 4) (hd : d < 10) (hw : w < 3) : ∃ I', mm_M 133 4 [.ref 61, .int (nI f), .int (nI d), .int (nI w)] g I (some (.int (sp_tb σ f d w))) I' ∧ sp_th 0 I I' := by
  refine w_MX ?_
  show mm_W 133 0 [.ref 61, .int (nI f), .int (nI d), .int (nI w)] [] _ _ _
  generalize hF : mm_EQ _ _ _ = F
  refine w_st rfl rfl rfl trivial ?_
  refine w_st rfl rfl rfl trivial ?_
  refine w_pi rfl (mm_foc rfl) ?_
  show mm_W 133 5 _ _ g (sp_st6 I 0) F
  obtain ⟨I2, hM, h2⟩ := r_ofTable (g := g) (sp_N_6 h) ok hf hd hw
  refine w_st rfl rfl rfl trivial ?_
  refine w_k11 (r_isField) rfl ⟨rfl, by decide, by decide, by decide, Or.inr (Or.inl ⟨_, rfl⟩)⟩ (Nat.le_of_ble_eq_true rfl) trivial (Nat.le_of_ble_eq_true rfl) ?_  -- calls 91 cX5_isField
  refine w_b_ne rfl (fun _ => ?_) (fun z => absurd (⟨f, hf, rfl⟩) z)
  refine w_st rfl rfl rfl trivial ?_
  refine w_k11 (r_isDigit) rfl ⟨rfl, by decide, by decide, by decide, Or.inr (Or.inl ⟨_, rfl⟩)⟩ (Nat.le_of_ble_eq_true rfl) trivial (Nat.le_of_ble_eq_true rfl) ?_  -- calls 93 cX5_isDigit
  refine w_b_eq rfl (fun z => absurd (⟨d, hd, rfl⟩) z) (fun _ => ?_)
  refine w_st rfl rfl rfl trivial ?_
  refine w_st rfl rfl rfl trivial ?_
  refine w_st rfl rfl rfl trivial ?_
  refine w_k31 (r_in0 2 (by decide) rfl) rfl ⟨rfl, by decide, by decide, by decide, Or.inr (Or.inl ⟨_, rfl⟩)⟩ (Nat.le_of_ble_eq_true rfl) trivial (Nat.le_of_ble_eq_true rfl) ?_  -- calls 90 cX5_in
  refine w_b_eq rfl (fun z => absurd (⟨w, hw, rfl⟩) z) (fun _ => ?_)
  refine w_st rfl rfl rfl trivial ?_
  refine w_st rfl rfl rfl trivial ?_
  refine w_st rfl rfl rfl trivial ?_
  refine w_st rfl rfl rfl trivial ?_
  refine w_k41 (hM) rfl ⟨rfl, by decide, by decide, by decide, Or.inl ⟨_, rfl⟩⟩ (Nat.le_of_ble_eq_true rfl) (mm_foc rfl) (Nat.le_of_ble_eq_true rfl) ?_  -- calls 132 cX5_ofTable
  refine w_st rfl rfl rfl trivial ?_
  refine w_reti rfl ?_
  exact hF ▸ ⟨rfl, rfl, sp_th_0 h2⟩
theorem r_read_1 (h1 : ¬ sp_lt 4 x) : ∃ I', mm_M 135 3 [.ref 61, .int x, .int y] g I (some (.int 0)) I' ∧ sp_th 1 I I' := by
  refine w_MX ?_
  show mm_W 135 0 [.ref 61, .int x, .int y] [] _ _ _
  generalize hF : mm_EQ _ _ _ = F
  refine w_st rfl rfl rfl trivial ?_
  refine w_st rfl rfl rfl trivial ?_
  refine w_pi rfl (mm_foc rfl) ?_
  show mm_W 135 5 _ _ g (sp_st6 I 0) F
  refine w_st rfl rfl rfl trivial ?_
  refine w_k11 (r_isField) rfl ⟨rfl, by decide, by decide, by decide, Or.inr (Or.inl ⟨_, rfl⟩)⟩ (Nat.le_of_ble_eq_true rfl) trivial (Nat.le_of_ble_eq_true rfl) ?_  -- calls 91 cX5_isField
  refine w_b_ne rfl (fun z => absurd z (h1)) (fun _ => ?_)
  refine w_st rfl rfl rfl trivial ?_
  refine w_st rfl rfl rfl trivial ?_
  refine w_k21 (r_fails) rfl ⟨rfl, by decide, by decide, by decide, Or.inl ⟨_, rfl⟩⟩ (Nat.le_of_ble_eq_true rfl) (mm_foc rfl) (Nat.le_of_ble_eq_true rfl) ?_  -- calls 89 cX5_fails
  refine w_reti rfl ?_
  exact hF ▸ ⟨rfl, rfl, sp_th_k rfl⟩
theorem r_read_2 (h1 : sp_lt 4 x) (h2 : ¬ sp_lt 32768 y) : ∃ I', mm_M 135 3 [.ref 61, .int x, .int y] g I (some (.int 0)) I' ∧ sp_th 2 I I' := by
  refine w_MX ?_
  show mm_W 135 0 [.ref 61, .int x, .int y] [] _ _ _
  generalize hF : mm_EQ _ _ _ = F
  refine w_st rfl rfl rfl trivial ?_
  refine w_st rfl rfl rfl trivial ?_
  refine w_pi rfl (mm_foc rfl) ?_
  show mm_W 135 5 _ _ g (sp_st6 I 0) F
  refine w_st rfl rfl rfl trivial ?_
  refine w_k11 (r_isField) rfl ⟨rfl, by decide, by decide, by decide, Or.inr (Or.inl ⟨_, rfl⟩)⟩ (Nat.le_of_ble_eq_true rfl) trivial (Nat.le_of_ble_eq_true rfl) ?_  -- calls 91 cX5_isField
  refine w_b_ne rfl (fun _ => ?_) (fun z => absurd (h1) z)
  refine w_st rfl rfl rfl trivial ?_
  refine w_st rfl rfl rfl trivial ?_
  refine w_st rfl rfl rfl trivial ?_
  refine w_k31 (r_in0 32767 (by decide) rfl) rfl ⟨rfl, by decide, by decide, by decide, Or.inr (Or.inl ⟨_, rfl⟩)⟩ (Nat.le_of_ble_eq_true rfl) trivial (Nat.le_of_ble_eq_true rfl) ?_  -- calls 90 cX5_in
  refine w_b_eq rfl (fun _ => ?_) (fun z => absurd z (h2))
  refine w_st rfl rfl rfl trivial ?_
  refine w_st rfl rfl rfl trivial ?_
  refine w_k21 (r_fails) rfl ⟨rfl, by decide, by decide, by decide, Or.inl ⟨_, rfl⟩⟩ (Nat.le_of_ble_eq_true rfl) (mm_foc rfl) (Nat.le_of_ble_eq_true rfl) ?_  -- calls 89 cX5_fails
  refine w_reti rfl ?_
  exact hF ▸ ⟨rfl, rfl, sp_th_k rfl⟩
theorem r_read (h : sp_N I σ) (ok : sp_ok σ) (hf : f < 4) (hn : n < 32768) : ∃ I', mm_M 135 3 [.ref 61, .int (nI f), .int (nI n)] g I (some (.int (sp_nr (sp_R σ f) (σ (8 + f)) (nI n) 10).1)) I' ∧ sp_th 0 I I' := by
  refine w_MX ?_
  show mm_W 135 0 [.ref 61, .int (nI f), .int (nI n)] [] _ _ _
  generalize hF : mm_EQ _ _ _ = F
  refine w_st rfl rfl rfl trivial ?_
  refine w_st rfl rfl rfl trivial ?_
  refine w_pi rfl (mm_foc rfl) ?_
  show mm_W 135 5 _ _ g (sp_st6 I 0) F
  obtain ⟨I2, hM, h2⟩ := r_readAs (g := g) (x := nI n) (sp_N_6 h) ok hf ⟨n, hn, rfl⟩
  refine w_st rfl rfl rfl trivial ?_
  refine w_k11 (r_isField) rfl ⟨rfl, by decide, by decide, by decide, Or.inr (Or.inl ⟨_, rfl⟩)⟩ (Nat.le_of_ble_eq_true rfl) trivial (Nat.le_of_ble_eq_true rfl) ?_  -- calls 91 cX5_isField
  refine w_b_ne rfl (fun _ => ?_) (fun z => absurd (⟨f, hf, rfl⟩) z)
  refine w_st rfl rfl rfl trivial ?_
  refine w_st rfl rfl rfl trivial ?_
  refine w_st rfl rfl rfl trivial ?_
  refine w_k31 (r_in0 32767 (by decide) rfl) rfl ⟨rfl, by decide, by decide, by decide, Or.inr (Or.inl ⟨_, rfl⟩)⟩ (Nat.le_of_ble_eq_true rfl) trivial (Nat.le_of_ble_eq_true rfl) ?_  -- calls 90 cX5_in
  refine w_b_eq rfl (fun z => absurd (⟨n, hn, rfl⟩) z) (fun _ => ?_)
  refine w_st rfl rfl rfl trivial ?_
  refine w_st rfl rfl rfl trivial ?_
  refine w_st rfl rfl rfl trivial ?_
  refine w_k31 (hM) rfl ⟨rfl, by decide, by decide, by decide, Or.inl ⟨_, rfl⟩⟩ (Nat.le_of_ble_eq_true rfl) (mm_foc rfl) (Nat.le_of_ble_eq_true rfl) ?_  -- calls 134 cX5_readAs
  refine w_st rfl rfl rfl trivial ?_
  refine w_reti rfl ?_
  exact hF ▸ ⟨rfl, rfl, sp_th_0 h2⟩
theorem r_count_1 (h1 : ¬ sp_lt 8 x) : ∃ I', mm_M 140 2 [.ref 61, .int x] g I (some (.int 0)) I' ∧ sp_th 1 I I' := by
  refine w_MX ?_
  show mm_W 140 0 [.ref 61, .int x] [] _ _ _
  generalize hF : mm_EQ _ _ _ = F
  refine w_st rfl rfl rfl trivial ?_
  refine w_st rfl rfl rfl trivial ?_
  refine w_pi rfl (mm_foc rfl) ?_
  show mm_W 140 5 _ _ g (sp_st6 I 0) F
  refine w_st rfl rfl rfl trivial ?_
  refine w_st rfl rfl rfl trivial ?_
  refine w_st rfl rfl rfl trivial ?_
  refine w_k31 (r_in0 7 (by decide) rfl) rfl ⟨rfl, by decide, by decide, by decide, Or.inr (Or.inl ⟨_, rfl⟩)⟩ (Nat.le_of_ble_eq_true rfl) trivial (Nat.le_of_ble_eq_true rfl) ?_  -- calls 90 cX5_in
  refine w_b_eq rfl (fun _ => ?_) (fun z => absurd z (h1))
  refine w_st rfl rfl rfl trivial ?_
  refine w_st rfl rfl rfl trivial ?_
  refine w_k21 (r_fails) rfl ⟨rfl, by decide, by decide, by decide, Or.inl ⟨_, rfl⟩⟩ (Nat.le_of_ble_eq_true rfl) (mm_foc rfl) (Nat.le_of_ble_eq_true rfl) ?_  -- calls 89 cX5_fails
  refine w_reti rfl ?_
  exact hF ▸ ⟨rfl, rfl, sp_th_k rfl⟩
theorem r_count (h : sp_N I σ) (ok : sp_ok σ) (hk : I 61 3 = nI k) (hw : w < 8) : ∃ I', mm_M 140 2 [.ref 61, .int (nI w)] g I (some (.int (sp_cn σ k w))) I' ∧ sp_th 0 I I' := by
  refine w_MX ?_
  show mm_W 140 0 [.ref 61, .int (nI w)] [] _ _ _
  generalize hF : mm_EQ _ _ _ = F
  refine w_st rfl rfl rfl trivial ?_
  refine w_st rfl rfl rfl trivial ?_
  refine w_pi rfl (mm_foc rfl) ?_
  show mm_W 140 5 _ _ g (sp_st6 I 0) F
  obtain ⟨I2, hM, h2⟩ := r_counted (g := g) (k := k) (sp_N_6 (x := 0) h) ok ((mm_un (Or.inr (by decide))).trans hk) hw
  refine w_st rfl rfl rfl trivial ?_
  refine w_st rfl rfl rfl trivial ?_
  refine w_st rfl rfl rfl trivial ?_
  refine w_k31 (r_in0 7 (by decide) rfl) rfl ⟨rfl, by decide, by decide, by decide, Or.inr (Or.inl ⟨_, rfl⟩)⟩ (Nat.le_of_ble_eq_true rfl) trivial (Nat.le_of_ble_eq_true rfl) ?_  -- calls 90 cX5_in
  refine w_b_eq rfl (fun z => absurd (⟨w, hw, rfl⟩) z) (fun _ => ?_)
  refine w_st rfl rfl rfl trivial ?_
  refine w_st rfl rfl rfl trivial ?_
  refine w_k21 (hM) rfl ⟨rfl, by decide, by decide, by decide, Or.inl ⟨_, rfl⟩⟩ (Nat.le_of_ble_eq_true rfl) (mm_foc rfl) (Nat.le_of_ble_eq_true rfl) ?_  -- calls 139 cX5_counted
  refine w_st rfl rfl rfl trivial ?_
  refine w_reti rfl ?_
  exact hF ▸ ⟨rfl, rfl, sp_th_0 h2⟩
theorem r_setting_1 (h1 : ¬ sp_lt 2 x) : ∃ I', mm_M 141 2 [.ref 61, .int x] g I (some (.int 0)) I' ∧ sp_th 1 I I' := by
  refine w_MX ?_
  show mm_W 141 0 [.ref 61, .int x] [] _ _ _
  generalize hF : mm_EQ _ _ _ = F
  refine w_st rfl rfl rfl trivial ?_
  refine w_st rfl rfl rfl trivial ?_
  refine w_pi rfl (mm_foc rfl) ?_
  show mm_W 141 5 _ _ g (sp_st6 I 0) F
  refine w_st rfl rfl rfl trivial ?_
  refine w_st rfl rfl rfl trivial ?_
  refine w_st rfl rfl rfl trivial ?_
  refine w_k31 (r_in0 1 (by decide) rfl) rfl ⟨rfl, by decide, by decide, by decide, Or.inr (Or.inl ⟨_, rfl⟩)⟩ (Nat.le_of_ble_eq_true rfl) trivial (Nat.le_of_ble_eq_true rfl) ?_  -- calls 90 cX5_in
  refine w_b_eq rfl (fun _ => ?_) (fun z => absurd z (h1))
  refine w_st rfl rfl rfl trivial ?_
  refine w_st rfl rfl rfl trivial ?_
  refine w_k21 (r_fails) rfl ⟨rfl, by decide, by decide, by decide, Or.inl ⟨_, rfl⟩⟩ (Nat.le_of_ble_eq_true rfl) (mm_foc rfl) (Nat.le_of_ble_eq_true rfl) ?_  -- calls 89 cX5_fails
  refine w_reti rfl ?_
  exact hF ▸ ⟨rfl, rfl, sp_th_k rfl⟩
theorem r_setting (h : sp_N I σ) (hk : k < 2) : ∃ I', mm_M 141 2 [.ref 61, .int (nI k)] g I (some (.int (σ (1 + k)))) I' ∧ sp_th 0 I I' := by
  refine w_MX ?_
  show mm_W 141 0 [.ref 61, .int (nI k)] [] _ _ _
  generalize hF : mm_EQ _ _ _ = F
  refine w_st rfl rfl rfl trivial ?_
  refine w_st rfl rfl rfl trivial ?_
  refine w_pi rfl (mm_foc rfl) ?_
  show mm_W 141 5 _ _ g (sp_st6 I 0) F
  refine w_st rfl rfl rfl trivial ?_
  refine w_st rfl rfl rfl trivial ?_
  refine w_st rfl rfl rfl trivial ?_
  refine w_k31 (r_in0 1 (by decide) rfl) rfl ⟨rfl, by decide, by decide, by decide, Or.inr (Or.inl ⟨_, rfl⟩)⟩ (Nat.le_of_ble_eq_true rfl) trivial (Nat.le_of_ble_eq_true rfl) ?_  -- calls 90 cX5_in
  refine w_b_eq rfl (fun z => absurd (⟨k, hk, rfl⟩) z) (fun _ => ?_)
  refine w_st rfl rfl rfl trivial ?_
  refine w_gr (j := 63) rfl (mm_foc rfl) rfl (by decide) ?_
  refine w_st rfl rfl rfl trivial ?_
  refine w_st rfl rfl rfl trivial ?_
  refine w_iadd rfl ?_
  refine w_ia (1 + k) rfl (mm_fac (n := 72) rfl) (by first | rfl | assumption | (simp only [← nI_add, ← nI_mul]; rfl)) (by first | decide | omega) ?_
  rw [(sp_N_6 h).2 _ (by omega)]
  refine w_st rfl rfl rfl trivial ?_
  refine w_reti rfl ?_
  exact hF ▸ ⟨rfl, rfl, sp_th_0 sp_f2_rf⟩
theorem r_ifBurnt_1 (h1 : ¬ (sp_lt 4 x ∧ sp_lt 15 y)) : ∃ I', mm_M 143 4 [.ref 61, .int x, .int y, .int z] g I (some (.int 0)) I' ∧ sp_th 1 I I' := by
  refine w_MX ?_
  show mm_W 143 0 [.ref 61, .int x, .int y, .int z] [] _ _ _
  generalize hF : mm_EQ _ _ _ = F
  refine w_st rfl rfl rfl trivial ?_
  refine w_st rfl rfl rfl trivial ?_
  refine w_pi rfl (mm_foc rfl) ?_
  show mm_W 143 5 _ _ g (sp_st6 I 0) F
  refine w_st rfl rfl rfl trivial ?_
  refine w_k11 (r_isField) rfl ⟨rfl, by decide, by decide, by decide, Or.inr (Or.inl ⟨_, rfl⟩)⟩ (Nat.le_of_ble_eq_true rfl) trivial (Nat.le_of_ble_eq_true rfl) ?_  -- calls 91 cX5_isField
  refine w_b_eq rfl (fun c => ?_) (fun c => ?_)
  · skip
    refine w_st rfl rfl rfl trivial ?_
    refine w_st rfl rfl rfl trivial ?_
    refine w_k21 (r_fails) rfl ⟨rfl, by decide, by decide, by decide, Or.inl ⟨_, rfl⟩⟩ (Nat.le_of_ble_eq_true rfl) (mm_foc rfl) (Nat.le_of_ble_eq_true rfl) ?_  -- calls 89 cX5_fails
    refine w_reti rfl ?_
    exact hF ▸ ⟨rfl, rfl, sp_th_k rfl⟩
  · skip
    refine w_st rfl rfl rfl trivial ?_
    refine w_k11 (r_isLamp) rfl ⟨rfl, by decide, by decide, by decide, Or.inr (Or.inl ⟨_, rfl⟩)⟩ (Nat.le_of_ble_eq_true rfl) trivial (Nat.le_of_ble_eq_true rfl) ?_  -- calls 92 cX5_isLamp
    refine w_b_ne rfl (fun z => absurd z (fun z => h1 ⟨c, z⟩)) (fun _ => ?_)
    refine w_st rfl rfl rfl trivial ?_
    refine w_st rfl rfl rfl trivial ?_
    refine w_k21 (r_fails) rfl ⟨rfl, by decide, by decide, by decide, Or.inl ⟨_, rfl⟩⟩ (Nat.le_of_ble_eq_true rfl) (mm_foc rfl) (Nat.le_of_ble_eq_true rfl) ?_  -- calls 89 cX5_fails
    refine w_reti rfl ?_
    exact hF ▸ ⟨rfl, rfl, sp_th_k rfl⟩
theorem r_ifBurnt_2 (h1 : sp_lt 4 x ∧ sp_lt 15 y) (h2 : ¬ sp_lt 3 z) : ∃ I', mm_M 143 4 [.ref 61, .int x, .int y, .int z] g I (some (.int 0)) I' ∧ sp_th 2 I I' := by
  refine w_MX ?_
  show mm_W 143 0 [.ref 61, .int x, .int y, .int z] [] _ _ _
  generalize hF : mm_EQ _ _ _ = F
  refine w_st rfl rfl rfl trivial ?_
  refine w_st rfl rfl rfl trivial ?_
  refine w_pi rfl (mm_foc rfl) ?_
  show mm_W 143 5 _ _ g (sp_st6 I 0) F
  refine w_st rfl rfl rfl trivial ?_
  refine w_k11 (r_isField) rfl ⟨rfl, by decide, by decide, by decide, Or.inr (Or.inl ⟨_, rfl⟩)⟩ (Nat.le_of_ble_eq_true rfl) trivial (Nat.le_of_ble_eq_true rfl) ?_  -- calls 91 cX5_isField
  refine w_b_eq rfl (fun z => absurd (h1.1) z) (fun _ => ?_)
  refine w_st rfl rfl rfl trivial ?_
  refine w_k11 (r_isLamp) rfl ⟨rfl, by decide, by decide, by decide, Or.inr (Or.inl ⟨_, rfl⟩)⟩ (Nat.le_of_ble_eq_true rfl) trivial (Nat.le_of_ble_eq_true rfl) ?_  -- calls 92 cX5_isLamp
  refine w_b_ne rfl (fun _ => ?_) (fun z => absurd (h1.2) z)
  refine w_st rfl rfl rfl trivial ?_
  refine w_st rfl rfl rfl trivial ?_
  refine w_st rfl rfl rfl trivial ?_
  refine w_k31 (r_in0 2 (by decide) rfl) rfl ⟨rfl, by decide, by decide, by decide, Or.inr (Or.inl ⟨_, rfl⟩)⟩ (Nat.le_of_ble_eq_true rfl) trivial (Nat.le_of_ble_eq_true rfl) ?_  -- calls 90 cX5_in
  refine w_b_eq rfl (fun _ => ?_) (fun z => absurd z (h2))
  refine w_st rfl rfl rfl trivial ?_
  refine w_st rfl rfl rfl trivial ?_
  refine w_k21 (r_fails) rfl ⟨rfl, by decide, by decide, by decide, Or.inl ⟨_, rfl⟩⟩ (Nat.le_of_ble_eq_true rfl) (mm_foc rfl) (Nat.le_of_ble_eq_true rfl) ?_  -- calls 89 cX5_fails
  refine w_reti rfl ?_
  exact hF ▸ ⟨rfl, rfl, sp_th_k rfl⟩
theorem r_ifBurnt (h : sp_N I σ) (ok : sp_ok σ) (hf : f < 4) (hl : l < 15) (hw : w < 3) : ∃ I', mm_M 143 4 [.ref 61, .int (nI f), .int (nI l), .int (nI w)] g I (some (.int (sp_ib σ f l w))) I' ∧ sp_th 0 I I' := by
  refine w_MX ?_
  show mm_W 143 0 [.ref 61, .int (nI f), .int (nI l), .int (nI w)] [] _ _ _
  generalize hF : mm_EQ _ _ _ = F
  refine w_st rfl rfl rfl trivial ?_
  refine w_st rfl rfl rfl trivial ?_
  refine w_pi rfl (mm_foc rfl) ?_
  show mm_W 143 5 _ _ g (sp_st6 I 0) F
  obtain ⟨I2, hM, h2⟩ := r_byBurning (g := g) (sp_N_6 h) ok hf hl hw
  refine w_st rfl rfl rfl trivial ?_
  refine w_k11 (r_isField) rfl ⟨rfl, by decide, by decide, by decide, Or.inr (Or.inl ⟨_, rfl⟩)⟩ (Nat.le_of_ble_eq_true rfl) trivial (Nat.le_of_ble_eq_true rfl) ?_  -- calls 91 cX5_isField
  refine w_b_eq rfl (fun z => absurd (⟨f, hf, rfl⟩) z) (fun _ => ?_)
  refine w_st rfl rfl rfl trivial ?_
  refine w_k11 (r_isLamp) rfl ⟨rfl, by decide, by decide, by decide, Or.inr (Or.inl ⟨_, rfl⟩)⟩ (Nat.le_of_ble_eq_true rfl) trivial (Nat.le_of_ble_eq_true rfl) ?_  -- calls 92 cX5_isLamp
  refine w_b_ne rfl (fun _ => ?_) (fun z => absurd (⟨l, hl, rfl⟩) z)
  refine w_st rfl rfl rfl trivial ?_
  refine w_st rfl rfl rfl trivial ?_
  refine w_st rfl rfl rfl trivial ?_
  refine w_k31 (r_in0 2 (by decide) rfl) rfl ⟨rfl, by decide, by decide, by decide, Or.inr (Or.inl ⟨_, rfl⟩)⟩ (Nat.le_of_ble_eq_true rfl) trivial (Nat.le_of_ble_eq_true rfl) ?_  -- calls 90 cX5_in
  refine w_b_eq rfl (fun z => absurd (⟨w, hw, rfl⟩) z) (fun _ => ?_)
  refine w_st rfl rfl rfl trivial ?_
  refine w_st rfl rfl rfl trivial ?_
  refine w_st rfl rfl rfl trivial ?_
  refine w_st rfl rfl rfl trivial ?_
  refine w_k41 (hM) rfl ⟨rfl, by decide, by decide, by decide, Or.inl ⟨_, rfl⟩⟩ (Nat.le_of_ble_eq_true rfl) (mm_foc rfl) (Nat.le_of_ble_eq_true rfl) ?_  -- calls 142 cX5_byBurning
  refine w_st rfl rfl rfl trivial ?_
  refine w_reti rfl ?_
  exact hF ▸ ⟨rfl, rfl, sp_th_0 h2⟩
theorem r_worstLamp_1 (h1 : ¬ sp_lt 4 x) : ∃ I', mm_M 145 2 [.ref 61, .int x] g I (some (.int 0)) I' ∧ sp_th 1 I I' := by
  refine w_MX ?_
  show mm_W 145 0 [.ref 61, .int x] [] _ _ _
  generalize hF : mm_EQ _ _ _ = F
  refine w_st rfl rfl rfl trivial ?_
  refine w_st rfl rfl rfl trivial ?_
  refine w_pi rfl (mm_foc rfl) ?_
  show mm_W 145 5 _ _ g (sp_st6 I 0) F
  refine w_st rfl rfl rfl trivial ?_
  refine w_k11 (r_isField) rfl ⟨rfl, by decide, by decide, by decide, Or.inr (Or.inl ⟨_, rfl⟩)⟩ (Nat.le_of_ble_eq_true rfl) trivial (Nat.le_of_ble_eq_true rfl) ?_  -- calls 91 cX5_isField
  refine w_b_eq rfl (fun _ => ?_) (fun z => absurd z (h1))
  refine w_st rfl rfl rfl trivial ?_
  refine w_st rfl rfl rfl trivial ?_
  refine w_k21 (r_fails) rfl ⟨rfl, by decide, by decide, by decide, Or.inl ⟨_, rfl⟩⟩ (Nat.le_of_ble_eq_true rfl) (mm_foc rfl) (Nat.le_of_ble_eq_true rfl) ?_  -- calls 89 cX5_fails
  refine w_reti rfl ?_
  exact hF ▸ ⟨rfl, rfl, sp_th_k rfl⟩
theorem r_worstLamp (h : sp_N I σ) (ok : sp_ok σ) (hf : f < 4) : ∃ I', mm_M 145 2 [.ref 61, .int (nI f)] g I (some (.int (sp_wl σ f 15).1)) I' ∧ sp_th 0 I I' := by
  refine w_MX ?_
  show mm_W 145 0 [.ref 61, .int (nI f)] [] _ _ _
  generalize hF : mm_EQ _ _ _ = F
  refine w_st rfl rfl rfl trivial ?_
  refine w_st rfl rfl rfl trivial ?_
  refine w_pi rfl (mm_foc rfl) ?_
  show mm_W 145 5 _ _ g (sp_st6 I 0) F
  obtain ⟨I2, hM, h2⟩ := r_worst (g := g) (sp_N_6 h) ok hf
  refine w_st rfl rfl rfl trivial ?_
  refine w_k11 (r_isField) rfl ⟨rfl, by decide, by decide, by decide, Or.inr (Or.inl ⟨_, rfl⟩)⟩ (Nat.le_of_ble_eq_true rfl) trivial (Nat.le_of_ble_eq_true rfl) ?_  -- calls 91 cX5_isField
  refine w_b_eq rfl (fun z => absurd (⟨f, hf, rfl⟩) z) (fun _ => ?_)
  refine w_st rfl rfl rfl trivial ?_
  refine w_st rfl rfl rfl trivial ?_
  refine w_k21 (hM) rfl ⟨rfl, by decide, by decide, by decide, Or.inl ⟨_, rfl⟩⟩ (Nat.le_of_ble_eq_true rfl) (mm_foc rfl) (Nat.le_of_ble_eq_true rfl) ?_  -- calls 144 cX5_worst
  refine w_st rfl rfl rfl trivial ?_
  refine w_reti rfl ?_
  exact hF ▸ ⟨rfl, rfl, sp_th_0 h2⟩
theorem r_strictest_1 (h1 : ¬ sp_lt 4 x) : ∃ I', mm_M 147 2 [.ref 61, .int x] g I (some (.int 0)) I' ∧ sp_th 1 I I' := by
  refine w_MX ?_
  show mm_W 147 0 [.ref 61, .int x] [] _ _ _
  generalize hF : mm_EQ _ _ _ = F
  refine w_st rfl rfl rfl trivial ?_
  refine w_st rfl rfl rfl trivial ?_
  refine w_pi rfl (mm_foc rfl) ?_
  show mm_W 147 5 _ _ g (sp_st6 I 0) F
  refine w_st rfl rfl rfl trivial ?_
  refine w_k11 (r_isField) rfl ⟨rfl, by decide, by decide, by decide, Or.inr (Or.inl ⟨_, rfl⟩)⟩ (Nat.le_of_ble_eq_true rfl) trivial (Nat.le_of_ble_eq_true rfl) ?_  -- calls 91 cX5_isField
  refine w_b_eq rfl (fun _ => ?_) (fun z => absurd z (h1))
  refine w_st rfl rfl rfl trivial ?_
  refine w_st rfl rfl rfl trivial ?_
  refine w_k21 (r_fails) rfl ⟨rfl, by decide, by decide, by decide, Or.inl ⟨_, rfl⟩⟩ (Nat.le_of_ble_eq_true rfl) (mm_foc rfl) (Nat.le_of_ble_eq_true rfl) ?_  -- calls 89 cX5_fails
  refine w_reti rfl ?_
  exact hF ▸ ⟨rfl, rfl, sp_th_k rfl⟩
theorem r_strictest (h : sp_N I σ) (ok : sp_ok σ) (hf : f < 4) : ∃ I', mm_M 147 2 [.ref 61, .int (nI f)] g I (some (.int (sp_sr (σ (8 + f)) 5))) I' ∧ sp_th 0 I I' := by
  refine w_MX ?_
  show mm_W 147 0 [.ref 61, .int (nI f)] [] _ _ _
  generalize hF : mm_EQ _ _ _ = F
  refine w_st rfl rfl rfl trivial ?_
  refine w_st rfl rfl rfl trivial ?_
  refine w_pi rfl (mm_foc rfl) ?_
  show mm_W 147 5 _ _ g (sp_st6 I 0) F
  obtain ⟨I2, hM, h2⟩ := r_strict (g := g) (sp_N_6 h) ok hf
  refine w_st rfl rfl rfl trivial ?_
  refine w_k11 (r_isField) rfl ⟨rfl, by decide, by decide, by decide, Or.inr (Or.inl ⟨_, rfl⟩)⟩ (Nat.le_of_ble_eq_true rfl) trivial (Nat.le_of_ble_eq_true rfl) ?_  -- calls 91 cX5_isField
  refine w_b_eq rfl (fun z => absurd (⟨f, hf, rfl⟩) z) (fun _ => ?_)
  refine w_st rfl rfl rfl trivial ?_
  refine w_st rfl rfl rfl trivial ?_
  refine w_k21 (hM) rfl ⟨rfl, by decide, by decide, by decide, Or.inl ⟨_, rfl⟩⟩ (Nat.le_of_ble_eq_true rfl) (mm_foc rfl) (Nat.le_of_ble_eq_true rfl) ?_  -- calls 146 cX5_strict
  refine w_st rfl rfl rfl trivial ?_
  refine w_reti rfl ?_
  exact hF ▸ ⟨rfl, rfl, sp_th_0 h2⟩
theorem r_nextBurn (h : sp_N I σ) (ok : sp_ok σ) : ∃ I', mm_M 149 1 [.ref 61] g I (some (.int (sp_nb σ 4))) I' ∧ sp_th 0 I I' := by
  refine w_MX ?_
  show mm_W 149 0 [.ref 61] [] _ _ _
  generalize hF : mm_EQ _ _ _ = F
  refine w_st rfl rfl rfl trivial ?_
  refine w_st rfl rfl rfl trivial ?_
  refine w_pi rfl (mm_foc rfl) ?_
  show mm_W 149 5 _ _ g (sp_st6 I 0) F
  obtain ⟨I2, hM, h2⟩ := r_next (g := g) (sp_N_6 h) ok
  refine w_st rfl rfl rfl trivial ?_
  refine w_k11 (hM) rfl ⟨rfl, by decide, by decide, by decide, Or.inl ⟨_, rfl⟩⟩ (Nat.le_of_ble_eq_true rfl) (mm_foc rfl) (Nat.le_of_ble_eq_true rfl) ?_  -- calls 148 cX5_next
  refine w_reti rfl ?_
  exact hF ▸ ⟨rfl, rfl, sp_th_0 h2⟩
theorem r_clarity (h : sp_N I σ) (ok : sp_ok σ) : ∃ I', mm_M 151 1 [.ref 61] g I (some (.double (sp_cl (sp_ct σ 4)))) I' ∧ sp_th 0 I I' := by
  refine w_MX ?_
  show mm_W 151 0 [.ref 61] [] _ _ _
  generalize hF : mm_EQ _ _ _ = F
  refine w_st rfl rfl rfl trivial ?_
  refine w_st rfl rfl rfl trivial ?_
  refine w_pi rfl (mm_foc rfl) ?_
  show mm_W 151 5 _ _ g (sp_st6 I 0) F
  obtain ⟨I2, hM, h2⟩ := r_clear (g := g) (sp_N_6 h) ok
  refine w_st rfl rfl rfl trivial ?_
  refine w_k11 (hM) rfl ⟨rfl, by decide, by decide, by decide, Or.inl ⟨_, rfl⟩⟩ (Nat.le_of_ble_eq_true rfl) (mm_foc rfl) (Nat.le_of_ble_eq_true rfl) ?_  -- calls 150 cX5_clear
  refine w_retd rfl ?_
  exact hF ▸ ⟨rfl, rfl, sp_th_0 h2⟩
end SM
