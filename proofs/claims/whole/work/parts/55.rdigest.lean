/-! the reference's digest -/
theorem sp_nan : ∀ m, m < 41 → Op.cmpValue (FP.dcmp (sp_cl m) (sp_cl m)) .l = 0 := by decide +kernel
section SM
variable {g : mm_Gg} {I I1 : mm_Is} {n m : Nat} {σ : sp_St} {ps : Nat → sp_St} {tx : Nat → Int32}
theorem r_isNaN (hm : m < 41) : mm_M 153 2 [.double (sp_cl m)] g I (some (.int 0)) I := by
  refine w_M ?_
  show mm_W 153 0 [.double (sp_cl m), .null] [] _ _ _
  generalize hF : mm_EX _ _ _ = F
  refine w_st rfl rfl rfl trivial ?_
  refine w_st rfl rfl rfl trivial ?_
  refine w_st rfl rfl rfl trivial ?_
  refine w_z_eq rfl (fun _ => ?_) (fun z => by first | exact absurd (sp_nan m hm) z | exact absurd z (sp_nan m hm))
  refine w_st rfl rfl rfl trivial ?_
  refine w_retz rfl (by first | exact Or.inl rfl | exact Or.inr rfl | exact mm_bi_01 _ | assumption) ?_
  exact hF ▸ mm_EX_i (rfl)
theorem r_bits (hm : m < 41) : mm_M 154 2 [.double (sp_cl m)] g I (some (.long (sp_cl m).toInt64)) I := by
  refine w_M ?_
  show mm_W 154 0 [.double (sp_cl m), .null] [] _ _ _
  generalize hF : mm_EX _ _ _ = F
  refine w_st rfl rfl rfl trivial ?_
  refine w_k11 (r_isNaN hm) rfl ⟨rfl, by decide, by decide, by decide, Or.inr (Or.inl ⟨_, rfl⟩)⟩ (Nat.le_of_ble_eq_true rfl) trivial (Nat.le_of_ble_eq_true rfl) ?_  -- calls 153 cJxe99ae_isNaN_b9ae7
  refine w_z_ne rfl (fun z => by first | exact absurd z ((by decide : ¬ ¬ (0 : Int32) = 0)) | exact absurd ((by decide : ¬ ¬ (0 : Int32) = 0)) z) (fun _ => ?_)
  refine w_st rfl rfl rfl trivial ?_
  refine w_st rfl rfl rfl (Nat.le_of_ble_eq_true rfl) ?_
  refine w_retl rfl ?_
  exact hF ▸ ⟨rfl, rfl, rfl⟩
theorem r_digest (h : sp_M I σ n ps m tx) (ok : sp_ok σ) (hm : m ≤ 60) : ∃ I', mm_M 152 6 [.ref 61] g I (some (.long (sp_dg σ n m tx))) I' ∧ sp_th 0 I I' := by
  have hct : sp_ct σ 4 < 41 := by have := sp_nt_le σ 4; omega
  have hN := sp_N_6 (x := 0) h.1
  have e3 : sp_st6 I 0 61 3 = nI n := (mm_un (Or.inr (by decide))).trans h.2.1.1
  have e5 : sp_st6 I 0 61 5 = nI m := (mm_un (Or.inr (by decide))).trans h.2.2.1
  have e65 : ∀ i, i < m → sp_st6 I 0 65 i = tx i := fun i hi => by rw [sp_st6_o (by decide)]; exact h.2.2.2 i hi
  refine w_MX ?_
  show mm_W 152 0 [.ref 61, .null, .null, .null, .null, .null] [] _ _ _
  generalize hF : mm_EQ _ _ _ = F
  refine w_st rfl rfl rfl trivial ?_
  refine w_st rfl rfl rfl trivial ?_
  refine w_pi rfl (mm_foc rfl) ?_
  show mm_W 152 5 _ _ g (sp_st6 I 0) F
  refine w_st rfl rfl rfl trivial ?_
  refine w_st rfl rfl rfl (Nat.le_of_ble_eq_true rfl) ?_
  refine w_st rfl rfl rfl trivial ?_
  refine w_st rfl rfl rfl (Nat.le_of_ble_eq_true rfl) ?_
  have K9 : ∀ i, i ≤ m → ∀ I1 v4 v5, sp_f2 (sp_st6 I 0) I1 → mm_W 152 280 [.ref 61, .long (sp_hl tx (sp_d5 σ n m) i), .null, .int (nI i), v4, v5] [] g I1 F := by
    refine mm_dn m ?_ ?_
    · intro I1 v4 v5 h1
      refine w_st rfl rfl rfl trivial ?_
      refine w_st rfl rfl rfl trivial ?_
      refine w_gi rfl (mm_foc rfl) ?_
      rw [sp_f2_lt h1, e5]
      refine w_n_ge (a := m) (b := m) rfl (by first | decide | omega) (by first | decide | omega) (by first | rfl | assumption | (simp only [← nI_add, ← nI_mul]; rfl)) (by first | rfl | assumption | (simp only [← nI_add, ← nI_mul]; rfl)) (fun _ => ?_) (fun c => by exfalso; omega)
      refine w_st rfl rfl rfl trivial ?_
      refine w_retl rfl ?_
      exact hF ▸ ⟨rfl, rfl, sp_th_0 h1⟩
    · intro i hi ih I1 v4 v5 h1
      refine w_st rfl rfl rfl trivial ?_
      refine w_st rfl rfl rfl trivial ?_
      refine w_gi rfl (mm_foc rfl) ?_
      rw [sp_f2_lt h1, e5]
      refine w_n_ge (a := i) (b := m) rfl (by first | decide | omega) (by first | decide | omega) (by first | rfl | assumption | (simp only [← nI_add, ← nI_mul]; rfl)) (by first | rfl | assumption | (simp only [← nI_add, ← nI_mul]; rfl)) (fun c => by exfalso; omega) (fun _ => ?_)
      refine w_st rfl rfl rfl trivial ?_
      refine w_st rfl rfl rfl trivial ?_
      refine w_lmul rfl ?_
      refine w_st rfl rfl rfl trivial ?_
      refine w_gr (j := 65) rfl (mm_foc rfl) rfl (by decide) ?_
      refine w_st rfl rfl rfl trivial ?_
      refine w_ia (i) rfl (mm_fac (n := 60) rfl) (by first | rfl | assumption | (simp only [← nI_add, ← nI_mul]; rfl)) (by first | decide | omega) ?_
      rw [h1 65 (by decide) (by decide), e65 i hi]
      refine w_st rfl rfl rfl trivial ?_
      refine w_ladd rfl ?_
      refine w_st rfl rfl rfl (Nat.le_of_ble_eq_true rfl) ?_
      refine w_inc rfl rfl rfl (Nat.le_of_ble_eq_true rfl) (nI_1 _) ?_
      refine w_st rfl rfl rfl trivial ?_
      exact ih I1 v4 v5 h1
  have K8 : ∀ f, f ≤ 4 → ∀ I1 v4 v5, mm_pre [.null, v4] 1 = false → mm_pre [.null, v4] 2 = false → sp_f2 (sp_st6 I 0) I1 → mm_W 152 64 [.ref 61, .long (sp_d4 σ (sp_hl (fun s => σ (1 + s)) (sp_hl (sp_cn σ n) 2801 8) 2) f), .null, .int (nI f), v4, v5] [] g I1 F := by
    refine mm_dn 4 ?_ ?_
    · intro I1 v4 v5 _ _ h1
      obtain ⟨I2, hM2, f2⟩ := r_next (g := g) (sp_N_f2 hN h1) ok
      have h12 := sp_f2_t h1 f2
      obtain ⟨I3, hM3, f3⟩ := r_clear (g := g) (sp_N_f2 hN h12) ok
      have h13 := sp_f2_t h12 f3
      refine w_st rfl rfl rfl trivial ?_
      refine w_st rfl rfl rfl trivial ?_
      refine w_n_ge (a := 4) (b := 4) rfl (by first | decide | omega) (by first | decide | omega) (by first | rfl | assumption | (simp only [← nI_add, ← nI_mul]; rfl)) (by first | rfl | assumption | (simp only [← nI_add, ← nI_mul]; rfl)) (fun _ => ?_) (fun c => by exfalso; omega)
      refine w_st rfl rfl rfl trivial ?_
      refine w_st rfl rfl rfl trivial ?_
      refine w_lmul rfl ?_
      refine w_st rfl rfl rfl trivial ?_
      refine w_k11 (hM2) rfl ⟨rfl, by decide, by decide, by decide, Or.inl ⟨_, rfl⟩⟩ (Nat.le_of_ble_eq_true rfl) (mm_foc rfl) (Nat.le_of_ble_eq_true rfl) ?_  -- calls 148 cX5_next
      refine w_st rfl rfl rfl trivial ?_
      refine w_ladd rfl ?_
      refine w_st rfl rfl rfl (Nat.le_of_ble_eq_true rfl) ?_
      refine w_st rfl rfl rfl trivial ?_
      refine w_st rfl rfl rfl trivial ?_
      refine w_st rfl rfl rfl trivial ?_
      refine w_lmul rfl ?_
      refine w_st rfl rfl rfl trivial ?_
      refine w_k11 (hM3) rfl ⟨rfl, by decide, by decide, by decide, Or.inl ⟨_, rfl⟩⟩ (Nat.le_of_ble_eq_true rfl) (mm_foc rfl) (Nat.le_of_ble_eq_true rfl) ?_  -- calls 150 cX5_clear
      refine w_k11 (r_bits hct) rfl ⟨rfl, by decide, by decide, by decide, Or.inr (Or.inl ⟨_, rfl⟩)⟩ (Nat.le_of_ble_eq_true rfl) trivial (Nat.le_of_ble_eq_true rfl) ?_  -- calls 154 cJxe99ae_doubleToLongBits_ccdee
      refine w_ladd rfl ?_
      refine w_lmul rfl ?_
      refine w_st rfl rfl rfl trivial ?_
      refine w_gi rfl (mm_foc rfl) ?_
      rw [sp_f2_lt h13, e5]
      refine w_st rfl rfl rfl trivial ?_
      refine w_ladd rfl ?_
      refine w_st rfl rfl rfl (Nat.le_of_ble_eq_true rfl) ?_
      refine w_st rfl rfl rfl trivial ?_
      refine w_st rfl rfl rfl (Nat.le_of_ble_eq_true rfl) ?_
      exact K9 0 (Nat.zero_le _) I3 v4 v5 h13
    · intro f hf ih I1 v4 v5 _ _ h1
      -- the lamps
      have P3 : ∀ l, l ≤ 15 → ∀ I2 v5, sp_f2 (sp_st6 I 0) I2 → mm_W 152 151 [.ref 61, .long (sp_h2 (sp_lo σ f) 4 (sp_h2 (sp_tb σ f) 3 (sp_hl (sp_fd σ f) (sp_d4 σ (sp_hl (fun s => σ (1 + s)) (sp_hl (sp_cn σ n) 2801 8) 2) f) 8) 10) l), .null, .int (nI f), .int (nI l), v5] [] g I2 F := by
        refine mm_dn 15 ?_ ?_
        · intro I2 v5 h2
          obtain ⟨I3, hM3, f3⟩ := r_worst (g := g) (sp_N_f2 hN h2) ok hf
          have h23 := sp_f2_t h2 f3
          obtain ⟨I4, hM4, f4⟩ := r_strict (g := g) (sp_N_f2 hN h23) ok hf
          have h24 := sp_f2_t h23 f4
          obtain ⟨I5, hM5, f5⟩ := r_readAs (g := g) (x := nI 21845) (sp_N_f2 hN h24) ok hf ⟨21845, by decide, rfl⟩
          have h25 := sp_f2_t h24 f5
          refine w_st rfl rfl rfl trivial ?_
          refine w_st rfl rfl rfl trivial ?_
          refine w_n_ge (a := 15) (b := 15) rfl (by first | decide | omega) (by first | decide | omega) (by first | rfl | assumption | (simp only [← nI_add, ← nI_mul]; rfl)) (by first | rfl | assumption | (simp only [← nI_add, ← nI_mul]; rfl)) (fun _ => ?_) (fun c => by exfalso; omega)
          refine w_st rfl rfl rfl trivial ?_
          refine w_st rfl rfl rfl trivial ?_
          refine w_st rfl rfl rfl trivial ?_
          refine w_lmul rfl ?_
          refine w_st rfl rfl rfl trivial ?_
          refine w_st rfl rfl rfl trivial ?_
          refine w_k21 (hM3) rfl ⟨rfl, by decide, by decide, by decide, Or.inl ⟨_, rfl⟩⟩ (Nat.le_of_ble_eq_true rfl) (mm_foc rfl) (Nat.le_of_ble_eq_true rfl) ?_  -- calls 144 cX5_worst
          refine w_st rfl rfl rfl trivial ?_
          refine w_ladd rfl ?_
          refine w_lmul rfl ?_
          refine w_st rfl rfl rfl trivial ?_
          refine w_st rfl rfl rfl trivial ?_
          refine w_k21 (hM4) rfl ⟨rfl, by decide, by decide, by decide, Or.inl ⟨_, rfl⟩⟩ (Nat.le_of_ble_eq_true rfl) (mm_foc rfl) (Nat.le_of_ble_eq_true rfl) ?_  -- calls 146 cX5_strict
          refine w_st rfl rfl rfl trivial ?_
          refine w_ladd rfl ?_
          refine w_st rfl rfl rfl (Nat.le_of_ble_eq_true rfl) ?_
          refine w_st rfl rfl rfl trivial ?_
          refine w_st rfl rfl rfl trivial ?_
          refine w_lmul rfl ?_
          refine w_st rfl rfl rfl trivial ?_
          refine w_st rfl rfl rfl trivial ?_
          refine w_st rfl rfl rfl trivial ?_
          refine w_k31 (hM5) rfl ⟨rfl, by decide, by decide, by decide, Or.inl ⟨_, rfl⟩⟩ (Nat.le_of_ble_eq_true rfl) (mm_foc rfl) (Nat.le_of_ble_eq_true rfl) ?_  -- calls 134 cX5_readAs
          refine w_st rfl rfl rfl trivial ?_
          refine w_ladd rfl ?_
          refine w_st rfl rfl rfl (Nat.le_of_ble_eq_true rfl) ?_
          refine w_inc rfl rfl rfl (Nat.le_of_ble_eq_true rfl) (nI_1 _) ?_
          refine w_st rfl rfl rfl trivial ?_
          exact ih I5 _ v5 rfl rfl h25
        · intro l hl ih3 I2 v5 h2
          refine w_st rfl rfl rfl trivial ?_
          refine w_st rfl rfl rfl trivial ?_
          refine w_n_ge (a := l) (b := 15) rfl (by first | decide | omega) (by first | decide | omega) (by first | rfl | assumption | (simp only [← nI_add, ← nI_mul]; rfl)) (by first | rfl | assumption | (simp only [← nI_add, ← nI_mul]; rfl)) (fun c => by exfalso; omega) (fun _ => ?_)
          refine w_st rfl rfl rfl trivial ?_
          refine w_st rfl rfl rfl (Nat.le_of_ble_eq_true rfl) ?_
          have L : ∀ w, w ≤ 4 → ∀ I2, sp_f2 (sp_st6 I 0) I2 → mm_W 152 161 [.ref 61, .long (sp_hl (sp_lo σ f l) (sp_h2 (sp_lo σ f) 4 (sp_h2 (sp_tb σ f) 3 (sp_hl (sp_fd σ f) (sp_d4 σ (sp_hl (fun s => σ (1 + s)) (sp_hl (sp_cn σ n) 2801 8) 2) f) 8) 10) l) w), .null, .int (nI f), .int (nI l), .int (nI w)] [] g I2 F := by
            refine mm_dn 4 ?_ ?_
            · intro I2 h2
              refine w_st rfl rfl rfl trivial ?_
              refine w_st rfl rfl rfl trivial ?_
              refine w_n_ge (a := 4) (b := 4) rfl (by first | decide | omega) (by first | decide | omega) (by first | rfl | assumption | (simp only [← nI_add, ← nI_mul]; rfl)) (by first | rfl | assumption | (simp only [← nI_add, ← nI_mul]; rfl)) (fun _ => ?_) (fun c => by exfalso; omega)
              refine w_inc rfl rfl rfl (Nat.le_of_ble_eq_true rfl) (nI_1 _) ?_
              refine w_st rfl rfl rfl trivial ?_
              exact ih3 I2 (.int (nI 4)) h2
            · intro w hw ih4 I2 h2
              obtain ⟨I3, hM3, f3⟩ := r_ofLamp (g := g) (sp_N_f2 hN h2) ok hf hl hw
              refine w_st rfl rfl rfl trivial ?_
              refine w_st rfl rfl rfl trivial ?_
              refine w_n_ge (a := w) (b := 4) rfl (by first | decide | omega) (by first | decide | omega) (by first | rfl | assumption | (simp only [← nI_add, ← nI_mul]; rfl)) (by first | rfl | assumption | (simp only [← nI_add, ← nI_mul]; rfl)) (fun c => by exfalso; omega) (fun _ => ?_)
              refine w_st rfl rfl rfl trivial ?_
              refine w_st rfl rfl rfl trivial ?_
              refine w_lmul rfl ?_
              refine w_st rfl rfl rfl trivial ?_
              refine w_st rfl rfl rfl trivial ?_
              refine w_st rfl rfl rfl trivial ?_
              refine w_st rfl rfl rfl trivial ?_
              refine w_k41 (hM3) rfl ⟨rfl, by decide, by decide, by decide, Or.inl ⟨_, rfl⟩⟩ (Nat.le_of_ble_eq_true rfl) (mm_foc rfl) (Nat.le_of_ble_eq_true rfl) ?_  -- calls 130 cX5_ofLamp
              refine w_st rfl rfl rfl trivial ?_
              refine w_ladd rfl ?_
              refine w_st rfl rfl rfl (Nat.le_of_ble_eq_true rfl) ?_
              refine w_inc rfl rfl rfl (Nat.le_of_ble_eq_true rfl) (nI_1 _) ?_
              refine w_st rfl rfl rfl trivial ?_
              exact ih4 I3 (sp_f2_t h2 f3)
          exact L 0 (by decide) I2 h2
      have P2 : ∀ d, d ≤ 10 → ∀ I2 v5, sp_f2 (sp_st6 I 0) I2 → mm_W 152 103 [.ref 61, .long (sp_h2 (sp_tb σ f) 3 (sp_hl (sp_fd σ f) (sp_d4 σ (sp_hl (fun s => σ (1 + s)) (sp_hl (sp_cn σ n) 2801 8) 2) f) 8) d), .null, .int (nI f), .int (nI d), v5] [] g I2 F := by
        refine mm_dn 10 ?_ ?_
        · intro I2 v5 h2
          refine w_st rfl rfl rfl trivial ?_
          refine w_st rfl rfl rfl trivial ?_
          refine w_n_ge (a := 10) (b := 10) rfl (by first | decide | omega) (by first | decide | omega) (by first | rfl | assumption | (simp only [← nI_add, ← nI_mul]; rfl)) (by first | rfl | assumption | (simp only [← nI_add, ← nI_mul]; rfl)) (fun _ => ?_) (fun c => by exfalso; omega)
          refine w_st rfl rfl rfl trivial ?_
          refine w_st rfl rfl rfl (Nat.le_of_ble_eq_true rfl) ?_
          exact P3 0 (by decide) I2 v5 h2
        · intro d hd ih3 I2 v5 h2
          refine w_st rfl rfl rfl trivial ?_
          refine w_st rfl rfl rfl trivial ?_
          refine w_n_ge (a := d) (b := 10) rfl (by first | decide | omega) (by first | decide | omega) (by first | rfl | assumption | (simp only [← nI_add, ← nI_mul]; rfl)) (by first | rfl | assumption | (simp only [← nI_add, ← nI_mul]; rfl)) (fun c => by exfalso; omega) (fun _ => ?_)
          refine w_st rfl rfl rfl trivial ?_
          refine w_st rfl rfl rfl (Nat.le_of_ble_eq_true rfl) ?_
          have L : ∀ w, w ≤ 3 → ∀ I2, sp_f2 (sp_st6 I 0) I2 → mm_W 152 113 [.ref 61, .long (sp_hl (sp_tb σ f d) (sp_h2 (sp_tb σ f) 3 (sp_hl (sp_fd σ f) (sp_d4 σ (sp_hl (fun s => σ (1 + s)) (sp_hl (sp_cn σ n) 2801 8) 2) f) 8) d) w), .null, .int (nI f), .int (nI d), .int (nI w)] [] g I2 F := by
            refine mm_dn 3 ?_ ?_
            · intro I2 h2
              refine w_st rfl rfl rfl trivial ?_
              refine w_st rfl rfl rfl trivial ?_
              refine w_n_ge (a := 3) (b := 3) rfl (by first | decide | omega) (by first | decide | omega) (by first | rfl | assumption | (simp only [← nI_add, ← nI_mul]; rfl)) (by first | rfl | assumption | (simp only [← nI_add, ← nI_mul]; rfl)) (fun _ => ?_) (fun c => by exfalso; omega)
              refine w_inc rfl rfl rfl (Nat.le_of_ble_eq_true rfl) (nI_1 _) ?_
              refine w_st rfl rfl rfl trivial ?_
              exact ih3 I2 (.int (nI 3)) h2
            · intro w hw ih4 I2 h2
              obtain ⟨I3, hM3, f3⟩ := r_ofTable (g := g) (sp_N_f2 hN h2) ok hf hd hw
              refine w_st rfl rfl rfl trivial ?_
              refine w_st rfl rfl rfl trivial ?_
              refine w_n_ge (a := w) (b := 3) rfl (by first | decide | omega) (by first | decide | omega) (by first | rfl | assumption | (simp only [← nI_add, ← nI_mul]; rfl)) (by first | rfl | assumption | (simp only [← nI_add, ← nI_mul]; rfl)) (fun c => by exfalso; omega) (fun _ => ?_)
              refine w_st rfl rfl rfl trivial ?_
              refine w_st rfl rfl rfl trivial ?_
              refine w_lmul rfl ?_
              refine w_st rfl rfl rfl trivial ?_
              refine w_st rfl rfl rfl trivial ?_
              refine w_st rfl rfl rfl trivial ?_
              refine w_st rfl rfl rfl trivial ?_
              refine w_k41 (hM3) rfl ⟨rfl, by decide, by decide, by decide, Or.inl ⟨_, rfl⟩⟩ (Nat.le_of_ble_eq_true rfl) (mm_foc rfl) (Nat.le_of_ble_eq_true rfl) ?_  -- calls 132 cX5_ofTable
              refine w_st rfl rfl rfl trivial ?_
              refine w_ladd rfl ?_
              refine w_st rfl rfl rfl (Nat.le_of_ble_eq_true rfl) ?_
              refine w_inc rfl rfl rfl (Nat.le_of_ble_eq_true rfl) (nI_1 _) ?_
              refine w_st rfl rfl rfl trivial ?_
              exact ih4 I3 (sp_f2_t h2 f3)
          exact L 0 (by decide) I2 h2
      have P1 : ∀ w, w ≤ 8 → ∀ I2 v5, sp_f2 (sp_st6 I 0) I2 → mm_W 152 72 [.ref 61, .long (sp_hl (sp_fd σ f) (sp_d4 σ (sp_hl (fun s => σ (1 + s)) (sp_hl (sp_cn σ n) 2801 8) 2) f) w), .null, .int (nI f), .int (nI w), v5] [] g I2 F := by
        refine mm_dn 8 ?_ ?_
        · intro I2 v5 h2
          refine w_st rfl rfl rfl trivial ?_
          refine w_st rfl rfl rfl trivial ?_
          refine w_n_ge (a := 8) (b := 8) rfl (by first | decide | omega) (by first | decide | omega) (by first | rfl | assumption | (simp only [← nI_add, ← nI_mul]; rfl)) (by first | rfl | assumption | (simp only [← nI_add, ← nI_mul]; rfl)) (fun _ => ?_) (fun c => by exfalso; omega)
          refine w_st rfl rfl rfl trivial ?_
          refine w_st rfl rfl rfl (Nat.le_of_ble_eq_true rfl) ?_
          exact P2 0 (by decide) I2 v5 h2
        · intro w hw ih3 I2 v5 h2
          obtain ⟨I3, hM3, f3⟩ := r_ofField (g := g) (sp_N_f2 hN h2) ok hf hw
          refine w_st rfl rfl rfl trivial ?_
          refine w_st rfl rfl rfl trivial ?_
          refine w_n_ge (a := w) (b := 8) rfl (by first | decide | omega) (by first | decide | omega) (by first | rfl | assumption | (simp only [← nI_add, ← nI_mul]; rfl)) (by first | rfl | assumption | (simp only [← nI_add, ← nI_mul]; rfl)) (fun c => by exfalso; omega) (fun _ => ?_)
          refine w_st rfl rfl rfl trivial ?_
          refine w_st rfl rfl rfl trivial ?_
          refine w_lmul rfl ?_
          refine w_st rfl rfl rfl trivial ?_
          refine w_st rfl rfl rfl trivial ?_
          refine w_st rfl rfl rfl trivial ?_
          refine w_k31 (hM3) rfl ⟨rfl, by decide, by decide, by decide, Or.inl ⟨_, rfl⟩⟩ (Nat.le_of_ble_eq_true rfl) (mm_foc rfl) (Nat.le_of_ble_eq_true rfl) ?_  -- calls 128 cX5_ofField
          refine w_st rfl rfl rfl trivial ?_
          refine w_ladd rfl ?_
          refine w_st rfl rfl rfl (Nat.le_of_ble_eq_true rfl) ?_
          refine w_inc rfl rfl rfl (Nat.le_of_ble_eq_true rfl) (nI_1 _) ?_
          refine w_st rfl rfl rfl trivial ?_
          exact ih3 I3 v5 (sp_f2_t h2 f3)
      refine w_st rfl rfl rfl trivial ?_
      refine w_st rfl rfl rfl trivial ?_
      refine w_n_ge (a := f) (b := 4) rfl (by first | decide | omega) (by first | decide | omega) (by first | rfl | assumption | (simp only [← nI_add, ← nI_mul]; rfl)) (by first | rfl | assumption | (simp only [← nI_add, ← nI_mul]; rfl)) (fun c => by exfalso; omega) (fun _ => ?_)
      refine w_st rfl rfl rfl trivial ?_
      refine w_st rfl rfl rfl (Nat.le_of_ble_eq_true rfl) ?_
      exact P1 0 (by decide) I1 v5 h1
  have K1 : ∀ w, w ≤ 8 → ∀ I1, sp_f2 (sp_st6 I 0) I1 → mm_W 152 11 [.ref 61, .long (sp_hl (sp_cn σ n) 2801 w), .null, .int (nI w), .null, .null] [] g I1 F := by
    refine mm_dn 8 ?_ ?_
    · intro I1 h1
      have hN1 := sp_N_f2 hN h1
      refine w_st rfl rfl rfl trivial ?_
      refine w_st rfl rfl rfl trivial ?_
      refine w_n_ge (a := 8) (b := 8) rfl (by first | decide | omega) (by first | decide | omega) (by first | rfl | assumption | (simp only [← nI_add, ← nI_mul]; rfl)) (by first | rfl | assumption | (simp only [← nI_add, ← nI_mul]; rfl)) (fun _ => ?_) (fun c => by exfalso; omega)
      refine w_st rfl rfl rfl trivial ?_
      refine w_st rfl rfl rfl trivial ?_
      refine w_st rfl rfl rfl trivial ?_
      refine w_lmul rfl ?_
      refine w_st rfl rfl rfl trivial ?_
      refine w_gr (j := 63) rfl (mm_foc rfl) rfl (by decide) ?_
      refine w_st rfl rfl rfl trivial ?_
      refine w_ia (1) rfl (mm_fac (n := 72) rfl) (by first | rfl | assumption | (simp only [← nI_add, ← nI_mul]; rfl)) (by first | decide | omega) ?_
      rw [hN1.2 _ (by omega)]
      refine w_st rfl rfl rfl trivial ?_
      refine w_ladd rfl ?_
      refine w_lmul rfl ?_
      refine w_st rfl rfl rfl trivial ?_
      refine w_gr (j := 63) rfl (mm_foc rfl) rfl (by decide) ?_
      refine w_st rfl rfl rfl trivial ?_
      refine w_ia (2) rfl (mm_fac (n := 72) rfl) (by first | rfl | assumption | (simp only [← nI_add, ← nI_mul]; rfl)) (by first | decide | omega) ?_
      rw [hN1.2 _ (by omega)]
      refine w_st rfl rfl rfl trivial ?_
      refine w_ladd rfl ?_
      refine w_st rfl rfl rfl (Nat.le_of_ble_eq_true rfl) ?_
      refine w_st rfl rfl rfl trivial ?_
      refine w_st rfl rfl rfl (Nat.le_of_ble_eq_true rfl) ?_
      exact K8 0 (by decide) I1 .null .null rfl rfl h1
    · intro w hw ih I1 h1
      obtain ⟨I2, hM2, f2⟩ := r_counted (g := g) (k := n) (sp_N_f2 hN h1) ok (by rw [sp_f2_lt h1]; exact e3) hw
      refine w_st rfl rfl rfl trivial ?_
      refine w_st rfl rfl rfl trivial ?_
      refine w_n_ge (a := w) (b := 8) rfl (by first | decide | omega) (by first | decide | omega) (by first | rfl | assumption | (simp only [← nI_add, ← nI_mul]; rfl)) (by first | rfl | assumption | (simp only [← nI_add, ← nI_mul]; rfl)) (fun c => by exfalso; omega) (fun _ => ?_)
      refine w_st rfl rfl rfl trivial ?_
      refine w_st rfl rfl rfl trivial ?_
      refine w_lmul rfl ?_
      refine w_st rfl rfl rfl trivial ?_
      refine w_st rfl rfl rfl trivial ?_
      refine w_k21 (hM2) rfl ⟨rfl, by decide, by decide, by decide, Or.inl ⟨_, rfl⟩⟩ (Nat.le_of_ble_eq_true rfl) (mm_foc rfl) (Nat.le_of_ble_eq_true rfl) ?_  -- calls 139 cX5_counted
      refine w_st rfl rfl rfl trivial ?_
      refine w_ladd rfl ?_
      refine w_st rfl rfl rfl (Nat.le_of_ble_eq_true rfl) ?_
      refine w_inc rfl rfl rfl (Nat.le_of_ble_eq_true rfl) (nI_1 _) ?_
      refine w_st rfl rfl rfl trivial ?_
      exact ih I2 (sp_f2_t h1 f2)
  exact K1 0 (by decide) _ sp_f2_rf
end SM
