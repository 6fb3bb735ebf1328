/-! the reference: worst lamp, next burning, and its public looks -/
theorem sp_bit_tw {l : Nat} (h : l < 15) : (sp_bit l).toBitVec = BitVec.twoPow 32 (14 - l) := by
  revert l
  decide +kernel
theorem sp_tw0 {i : Nat} (h : i < 15) : ¬ BitVec.twoPow 32 i = 0#32 := by
  revert i
  decide +kernel
theorem sp_and_bit {x : Int32} {l : Nat} (h : l < 15) : x &&& sp_bit l = 0 ↔ x.toBitVec.getLsbD (14 - l) = false := by
  rw [← Int32.toBitVec_inj, Int32.toBitVec_and, sp_bit_tw h, BitVec.and_twoPow]
  show (if _ then _ else _) = 0#32 ↔ _
  cases c : x.toBitVec.getLsbD (14 - l)
  · simp
  · simp only [if_true]
    exact ⟨fun z => absurd z (sp_tw0 (by omega)), fun z => by cases z⟩
theorem sp_not_bit {b : Int32} {l : Nat} (h : l < 15) : (b ^^^ (-1)) &&& sp_bit l = 0 ↔ ¬ b &&& sp_bit l = 0 := by
  rw [sp_and_bit h, sp_and_bit h, Int32.toBitVec_xor, show (-1 : Int32).toBitVec = BitVec.allOnes 32 from by decide]
  simp only [BitVec.getLsbD_xor, BitVec.getLsbD_allOnes]
  rw [show decide (14 - l < 32) = true from by simp; omega]
  cases b.toBitVec.getLsbD (14 - l) <;> simp
theorem sp_and_bit2 {x y : Int32} {l : Nat} (h : l < 15) : x &&& y &&& sp_bit l = 0 ↔ (x &&& sp_bit l = 0 ∨ y &&& sp_bit l = 0) := by
  rw [sp_and_bit h, sp_and_bit h, sp_and_bit h, Int32.toBitVec_and, BitVec.getLsbD_and, Bool.and_eq_false_iff]
theorem sp_lit_nb {σ : sp_St} {f l : Nat} (hl : l < 15) (h : ¬ sp_lit σ f &&& sp_bit l = 0) : σ (8 + f) &&& sp_bit l = 0 := by
  unfold sp_lit at h
  by_cases c : sp_vis σ f
  · rw [sp_if_t c] at h
    unfold sp_sh at h
    rw [sp_and_bit2 hl] at h
    exact Classical.byContradiction (fun z => h (Or.inr ((sp_not_bit hl).2 z)))
  · rw [sp_if_f c] at h
    exact absurd Int32.zero_and h
theorem nI_sub_lt {a b : Nat} (h : a ≤ b) (hb : b < 2 ^ 30) : nI a - nI b < 1 := by
  rw [Int32.lt_iff_toInt_lt, Int32.toInt_sub, nI_toInt (by omega), nI_toInt (by omega), show (1 : Int32).toInt = 1 from by decide]
  unfold Int.bmod
  dsimp only
  split <;> omega
theorem sp_f2_lt {I I' : mm_Is} (h : sp_f2 I I') : I' 61 = I 61 := h 61 (by decide) (by decide)
section SM
variable {g : mm_Gg} {I : mm_Is} {x y z : Int32} {l d k t u f w n : Nat} {σ : sp_St}
theorem r_worst (h : sp_N I σ) (ok : sp_ok σ) (hf : f < 4) : ∃ I', mm_M 144 6 [.ref 61, .int (nI f)] g I (some (.int (sp_wl σ f 15).1)) I' ∧ sp_f2 I I' := by
  refine w_MX ?_
  show mm_W 144 0 [.ref 61, .int (nI f), .null, .null, .null, .null] [] _ _ _
  generalize hF : mm_EQ _ _ _ = F
  refine w_st rfl rfl rfl trivial ?_
  refine w_st rfl rfl rfl (Nat.le_of_ble_eq_true rfl) ?_
  refine w_st rfl rfl rfl trivial ?_
  refine w_st rfl rfl rfl (Nat.le_of_ble_eq_true rfl) ?_
  refine w_st rfl rfl rfl trivial ?_
  refine w_st rfl rfl rfl (Nat.le_of_ble_eq_true rfl) ?_
  have K : ∀ l, l ≤ 15 → ∀ I1 v5 m, sp_f2 I I1 → ((m = -1 ∧ (sp_wl σ f l).2.1 = -1 ∧ (sp_wl σ f l).2.2 = -1) ∨ ∃ H C, H ≤ 10 ∧ C ≤ 10 ∧ m = nI (20 * H + C) ∧ (sp_wl σ f l).2.1 = nI H ∧ (sp_wl σ f l).2.2 = nI C) → mm_W 144 7 [.ref 61, .int (nI f), .int (sp_wl σ f l).1, .int m, .int (nI l), v5] [] g I1 F := by
    refine mm_dn 15 ?_ ?_
    · intro I1 v5 m h1 _
      refine w_st rfl rfl rfl trivial ?_
      refine w_st rfl rfl rfl trivial ?_
      refine w_n_ge (a := 15) (b := 15) rfl (by first | decide | omega) (by first | decide | omega) (by first | rfl | assumption | (simp only [← nI_add, ← nI_mul]; rfl)) (by first | rfl | assumption | (simp only [← nI_add, ← nI_mul]; rfl)) (fun _ => ?_) (fun c => by exfalso; omega)
      refine w_st rfl rfl rfl trivial ?_
      refine w_reti rfl ?_
      exact hF ▸ ⟨rfl, rfl, h1⟩
    · intro l hl ih I1 v5 m h1 hm
      have e : sp_wl σ f (l + 1) = sp_if (¬ σ (8 + f) &&& sp_bit l = 0) (sp_wl σ f l) (sp_if ((sp_wl σ f l).2.1 < sp_ib σ f l 0 ∨ (sp_ib σ f l 0 = (sp_wl σ f l).2.1 ∧ (sp_wl σ f l).2.2 < sp_ib σ f l 1)) (nI l, sp_ib σ f l 0, sp_ib σ f l 1) (sp_wl σ f l)) := rfl
      obtain ⟨I2, hM2, h2⟩ := r_byBurning (g := g) (sp_N_f2 h h1) ok hf hl (w := 0) (by decide)
      have h12 := sp_f2_t h1 h2
      obtain ⟨I3, hM3, h3⟩ := r_byBurning (g := g) (sp_N_f2 h h12) ok hf hl (w := 1) (by decide)
      have h13 := sp_f2_t h12 h3
      have e0 : sp_ib σ f l 0 = nI (sp_no (sp_Q σ f l) 10) := rfl
      have e1 : sp_ib σ f l 1 = nI (sp_cg (sp_Q σ f l) (sp_R σ f) 10) := rfl
      have b0 := sp_no_le (sp_Q σ f l) 10
      have b1 := sp_cg_le (sp_Q σ f l) (sp_R σ f) 10
      rw [e0] at hM2
      rw [e1] at hM3
      rw [e0, e1] at e
      generalize sp_no (sp_Q σ f l) 10 = H1 at *
      generalize sp_cg (sp_Q σ f l) (sp_R σ f) 10 = C1 at *
      refine w_st rfl rfl rfl trivial ?_
      refine w_st rfl rfl rfl trivial ?_
      refine w_n_ge (a := l) (b := 15) rfl (by first | decide | omega) (by first | decide | omega) (by first | rfl | assumption | (simp only [← nI_add, ← nI_mul]; rfl)) (by first | rfl | assumption | (simp only [← nI_add, ← nI_mul]; rfl)) (fun c => by exfalso; omega) (fun _ => ?_)
      refine w_st rfl rfl rfl trivial ?_
      refine w_st rfl rfl rfl trivial ?_
      refine w_st rfl rfl rfl trivial ?_
      refine w_st rfl rfl rfl trivial ?_
      refine w_st rfl rfl rfl trivial ?_
      refine w_k41 (hM2) rfl ⟨rfl, by decide, by decide, by decide, Or.inl ⟨_, rfl⟩⟩ (Nat.le_of_ble_eq_true rfl) (mm_foc rfl) (Nat.le_of_ble_eq_true rfl) ?_  -- calls 142 cX5_byBurning
      refine w_imul rfl ?_
      refine w_st rfl rfl rfl trivial ?_
      refine w_st rfl rfl rfl trivial ?_
      refine w_st rfl rfl rfl trivial ?_
      refine w_st rfl rfl rfl trivial ?_
      refine w_k41 (hM3) rfl ⟨rfl, by decide, by decide, by decide, Or.inl ⟨_, rfl⟩⟩ (Nat.le_of_ble_eq_true rfl) (mm_foc rfl) (Nat.le_of_ble_eq_true rfl) ?_  -- calls 142 cX5_byBurning
      refine w_iadd rfl ?_
      refine w_hd (show (20 : Int32) * nI H1 + nI C1 = nI (20 * H1 + C1) from by rw [← nI_add, ← nI_mul]; rfl) ?_
      refine w_st rfl rfl rfl (Nat.le_of_ble_eq_true rfl) ?_
      refine w_st rfl rfl rfl trivial ?_
      refine w_gr (j := 63) rfl (mm_foc rfl) rfl (by decide) ?_
      refine w_st rfl rfl rfl trivial ?_
      refine w_st rfl rfl rfl trivial ?_
      refine w_iadd rfl ?_
      refine w_ia (8 + f) rfl (mm_fac (n := 72) rfl) (by first | rfl | assumption | (simp only [← nI_add, ← nI_mul]; rfl)) (by first | decide | omega) ?_
      rw [(sp_N_f2 h h13).2 _ (by omega)]
      refine w_st rfl rfl rfl trivial ?_
      refine w_k11 (r_bit) rfl ⟨rfl, by decide, by decide, by decide, Or.inr (Or.inl ⟨_, rfl⟩)⟩ (Nat.le_of_ble_eq_true rfl) trivial (Nat.le_of_ble_eq_true rfl) ?_  -- calls 94 cX5_bit
      refine w_iand rfl ?_
      refine w_z_ne rfl (fun c => ?_) (fun c => ?_)
      · rw [sp_if_t c] at e
        rw [e] at ih
        refine w_inc rfl rfl rfl (Nat.le_of_ble_eq_true rfl) (nI_1 _) ?_
        refine w_st rfl rfl rfl trivial ?_
        exact ih I3 _ m h13 hm
      · rw [sp_if_f (fun z => z c)] at e
        rcases hm with ⟨m1, m2, m3⟩ | ⟨H, C, hH, hC, m1, m2, m3⟩
        · rw [m2, sp_if_t (Or.inl (by rw [show (-1 : Int32) < nI H1 ↔ ((-1 : Int32)).toInt < (nI H1).toInt from Int32.lt_iff_toInt_lt, nI_toInt (by omega)]; exact Int.lt_of_lt_of_le (show (-1 : Int32).toInt < 0 by decide) (Int.natCast_nonneg _)))] at e
          rw [e] at ih
          rw [m1]
          refine w_st rfl rfl rfl trivial ?_
          refine w_st rfl rfl rfl trivial ?_
          refine w_v_le rfl (fun z => by first | exact absurd z (by rw [Int32.not_le, show (-1 : Int32) < nI (20 * H1 + C1) ↔ ((-1 : Int32)).toInt < (nI (20 * H1 + C1)).toInt from Int32.lt_iff_toInt_lt, nI_toInt (by omega)]; exact Int.lt_of_lt_of_le (show (-1 : Int32).toInt < 0 by decide) (Int.natCast_nonneg _)) | exact absurd (by rw [Int32.not_le, show (-1 : Int32) < nI (20 * H1 + C1) ↔ ((-1 : Int32)).toInt < (nI (20 * H1 + C1)).toInt from Int32.lt_iff_toInt_lt, nI_toInt (by omega)]; exact Int.lt_of_lt_of_le (show (-1 : Int32).toInt < 0 by decide) (Int.natCast_nonneg _)) z) (fun _ => ?_)
          refine w_st rfl rfl rfl trivial ?_
          refine w_st rfl rfl rfl (Nat.le_of_ble_eq_true rfl) ?_
          refine w_st rfl rfl rfl trivial ?_
          refine w_st rfl rfl rfl (Nat.le_of_ble_eq_true rfl) ?_
          refine w_inc rfl rfl rfl (Nat.le_of_ble_eq_true rfl) (nI_1 _) ?_
          refine w_st rfl rfl rfl trivial ?_
          exact ih I3 _ _ h13 (Or.inr ⟨H1, C1, b0, b1, rfl, rfl, rfl⟩)
        · rw [m2, m3] at e
          rw [m1]
          refine w_st rfl rfl rfl trivial ?_
          refine w_st rfl rfl rfl trivial ?_
          refine w_n_le (a := 20 * H1 + C1) (b := 20 * H + C) rfl (by first | decide | omega) (by first | decide | omega) (by first | rfl | assumption | (simp only [← nI_add, ← nI_mul]; rfl)) (by first | rfl | assumption | (simp only [← nI_add, ← nI_mul]; rfl)) (fun c2 => ?_) (fun c2 => ?_)
          · rw [sp_if_f (fun z => by
              rcases z with z | ⟨z1, z2⟩
              · have := (nI_ltI (by omega) (by omega)).1 z; omega
              · have := (nI_eq (by omega) (by omega)).1 z1; have := (nI_ltI (by omega) (by omega)).1 z2; omega)] at e
            rw [e] at ih
            refine w_inc rfl rfl rfl (Nat.le_of_ble_eq_true rfl) (nI_1 _) ?_
            refine w_st rfl rfl rfl trivial ?_
            exact ih I3 _ _ h13 (Or.inr ⟨H, C, hH, hC, rfl, m2, m3⟩)
          · rw [sp_if_t (by
              by_cases z : H < H1
              · exact Or.inl (nI_lt z (by omega))
              · have : H1 = H := by omega
                subst this
                exact Or.inr ⟨rfl, nI_lt (by omega) (by omega)⟩)] at e
            rw [e] at ih
            refine w_st rfl rfl rfl trivial ?_
            refine w_st rfl rfl rfl (Nat.le_of_ble_eq_true rfl) ?_
            refine w_st rfl rfl rfl trivial ?_
            refine w_st rfl rfl rfl (Nat.le_of_ble_eq_true rfl) ?_
            refine w_inc rfl rfl rfl (Nat.le_of_ble_eq_true rfl) (nI_1 _) ?_
            refine w_st rfl rfl rfl trivial ?_
            exact ih I3 _ _ h13 (Or.inr ⟨H1, C1, b0, b1, rfl, rfl, rfl⟩)
  exact K 0 (by decide) I .null (-1) sp_f2_rf (Or.inl ⟨rfl, rfl, rfl⟩)
theorem r_isOld (h : sp_N I σ) (hf : f < 4) (hl : l < 15) : mm_M 115 3 [.ref 61, .int (nI f), .int (nI l)] g I (some (.int (mm_bi (σ (8 + f) &&& sp_bit l = 0 ∧ 100 * σ 2 ≤ σ (12 + (15 * f + l)))))) I := by
  refine w_M ?_
  show mm_W 115 0 [.ref 61, .int (nI f), .int (nI l)] [] _ _ _
  generalize hF : mm_EX _ _ _ = F
  refine w_st rfl rfl rfl trivial ?_
  refine w_gr (j := 63) rfl (mm_foc rfl) rfl (by decide) ?_
  refine w_st rfl rfl rfl trivial ?_
  refine w_st rfl rfl rfl trivial ?_
  refine w_iadd rfl ?_
  refine w_ia (8 + f) rfl (mm_fac (n := 72) rfl) (by first | rfl | assumption | (simp only [← nI_add, ← nI_mul]; rfl)) (by first | decide | omega) ?_
  rw [h.2 _ (by omega)]
  refine w_st rfl rfl rfl trivial ?_
  refine w_k11 (r_bit) rfl ⟨rfl, by decide, by decide, by decide, Or.inr (Or.inl ⟨_, rfl⟩)⟩ (Nat.le_of_ble_eq_true rfl) trivial (Nat.le_of_ble_eq_true rfl) ?_  -- calls 94 cX5_bit
  refine w_iand rfl ?_
  refine w_z_ne rfl (fun c => ?_) (fun c => ?_)
  · skip
    refine w_st rfl rfl rfl trivial ?_
    refine w_retz rfl (by first | exact Or.inl rfl | exact Or.inr rfl | exact mm_bi_01 _ | assumption) ?_
    exact hF ▸ mm_EX_i ((mm_bi_f (fun z => c z.1)).symm)
  · skip
    refine w_st rfl rfl rfl trivial ?_
    refine w_gr (j := 63) rfl (mm_foc rfl) rfl (by decide) ?_
    refine w_st rfl rfl rfl trivial ?_
    refine w_st rfl rfl rfl trivial ?_
    refine w_st rfl rfl rfl trivial ?_
    refine w_imul rfl ?_
    refine w_iadd rfl ?_
    refine w_st rfl rfl rfl trivial ?_
    refine w_iadd rfl ?_
    refine w_ia (12 + (15 * f + l)) rfl (mm_fac (n := 72) rfl) (by simp only [← nI_add, ← nI_mul]; exact Int32.add_assoc _ _ _) (by first | decide | omega) ?_
    rw [h.2 _ (by omega)]
    refine w_st rfl rfl rfl trivial ?_
    refine w_st rfl rfl rfl trivial ?_
    refine w_gr (j := 63) rfl (mm_foc rfl) rfl (by decide) ?_
    refine w_st rfl rfl rfl trivial ?_
    refine w_ia (2) rfl (mm_fac (n := 72) rfl) (by first | rfl | assumption | (simp only [← nI_add, ← nI_mul]; rfl)) (by first | decide | omega) ?_
    rw [h.2 _ (by omega)]
    refine w_imul rfl ?_
    refine w_v_lt rfl (fun c2 => ?_) (fun c2 => ?_)
    · skip
      refine w_st rfl rfl rfl trivial ?_
      refine w_retz rfl (by first | exact Or.inl rfl | exact Or.inr rfl | exact mm_bi_01 _ | assumption) ?_
      exact hF ▸ mm_EX_i ((mm_bi_f (fun z => absurd z.2 (Int32.not_le.2 c2))).symm)
    · skip
      refine w_st rfl rfl rfl trivial ?_
      refine w_st rfl rfl rfl trivial ?_
      refine w_retz rfl (by first | exact Or.inl rfl | exact Or.inr rfl | exact mm_bi_01 _ | assumption) ?_
      exact hF ▸ mm_EX_i ((mm_bi_t ⟨c, Int32.not_lt.1 c2⟩).symm)
theorem sp_n2_0 {a : Int32} (h : σ 2 = 0) (f n : Nat) : sp_n2 σ f a n = a := by
  induction n with
  | zero => rfl
  | succ n ih =>
    show sp_n1 (sp_n2 σ f a n) (sp_hu σ f n) = a
    rw [ih, show sp_hu σ f n = -1 from sp_if_t (Or.inl h) _ _]
    exact sp_if_f (fun z => z.1 rfl) _ _
theorem sp_nb_0 (h : σ 2 = 0) (n : Nat) : sp_nb σ n = -1 := by
  induction n with
  | zero => rfl
  | succ n ih =>
    show sp_n2 σ n (sp_nb σ n) 15 = -1
    rw [sp_n2_0 h, ih]
theorem sp_n1_no (a : Int32) : sp_n1 a (-1) = a := sp_if_f (fun z => z.1 rfl) _ _
theorem r_next (h : sp_N I σ) (ok : sp_ok σ) : ∃ I', mm_M 148 7 [.ref 61] g I (some (.int (sp_nb σ 4))) I' ∧ sp_f2 I I' := by
  obtain ⟨L, hL, eL⟩ := ok.2.2.2.1
  refine w_MX ?_
  show mm_W 148 0 [.ref 61, .null, .null, .null, .null, .null, .null] [] _ _ _
  generalize hF : mm_EQ _ _ _ = F
  refine w_st rfl rfl rfl trivial ?_
  refine w_st rfl rfl rfl (Nat.le_of_ble_eq_true rfl) ?_
  refine w_st rfl rfl rfl trivial ?_
  refine w_st rfl rfl rfl (Nat.le_of_ble_eq_true rfl) ?_
  rcases Nat.eq_zero_or_pos L with rfl | L0
  · skip
    refine w_st rfl rfl rfl trivial ?_
    refine w_st rfl rfl rfl trivial ?_
    refine w_n_ge (a := 0) (b := 4) rfl (by first | decide | omega) (by first | decide | omega) (by first | rfl | assumption | (simp only [← nI_add, ← nI_mul]; rfl)) (by first | rfl | assumption | (simp only [← nI_add, ← nI_mul]; rfl)) (fun c => by exfalso; omega) (fun _ => ?_)
    refine w_st rfl rfl rfl trivial ?_
    refine w_gr (j := 63) rfl (mm_foc rfl) rfl (by decide) ?_
    refine w_st rfl rfl rfl trivial ?_
    refine w_ia (2) rfl (mm_fac (n := 72) rfl) (by first | rfl | assumption | (simp only [← nI_add, ← nI_mul]; rfl)) (by first | decide | omega) ?_
    rw [h.2 _ (by omega), eL]
    refine w_m_le (a := 0) rfl (by first | decide | omega) (by first | rfl | assumption | (simp only [← nI_add, ← nI_mul]; rfl)) (fun _ => ?_) (fun c => by exfalso; omega)
    refine w_st rfl rfl rfl trivial ?_
    refine w_reti rfl ?_
    exact hF ▸ ⟨by rw [sp_nb_0 eL], rfl, sp_f2_rf⟩
  have e100 : 100 * σ 2 = nI (100 * L) := by rw [eL]; exact nI_mul 100 L
  have K : ∀ f, f ≤ 4 → ∀ I1 v3 v4 v5 v6, sp_f2 I I1 → mm_W 148 4 [.ref 61, .int (sp_nb σ f), .int (nI f), v3, v4, v5, v6] [] g I1 F := by
    refine mm_dn 4 ?_ ?_
    · intro I1 v3 v4 v5 v6 h1
      refine w_st rfl rfl rfl trivial ?_
      refine w_st rfl rfl rfl trivial ?_
      refine w_n_ge (a := 4) (b := 4) rfl (by first | decide | omega) (by first | decide | omega) (by first | rfl | assumption | (simp only [← nI_add, ← nI_mul]; rfl)) (by first | rfl | assumption | (simp only [← nI_add, ← nI_mul]; rfl)) (fun _ => ?_) (fun c => by exfalso; omega)
      refine w_st rfl rfl rfl trivial ?_
      refine w_reti rfl ?_
      exact hF ▸ ⟨rfl, rfl, h1⟩
    · intro f hf ih I1 v3 v4 v5 v6 h1
      obtain ⟨I2, hM2, _, h2⟩ := r_lights (g := g) (sp_N_f2 h h1) ok hf
      have h12 := sp_f2_t h1 h2
      have hn := sp_N_f2 h h12
      refine w_st rfl rfl rfl trivial ?_
      refine w_st rfl rfl rfl trivial ?_
      refine w_n_ge (a := f) (b := 4) rfl (by first | decide | omega) (by first | decide | omega) (by first | rfl | assumption | (simp only [← nI_add, ← nI_mul]; rfl)) (by first | rfl | assumption | (simp only [← nI_add, ← nI_mul]; rfl)) (fun c => by exfalso; omega) (fun _ => ?_)
      refine w_st rfl rfl rfl trivial ?_
      refine w_gr (j := 63) rfl (mm_foc rfl) rfl (by decide) ?_
      refine w_st rfl rfl rfl trivial ?_
      refine w_ia (2) rfl (mm_fac (n := 72) rfl) (by first | rfl | assumption | (simp only [← nI_add, ← nI_mul]; rfl)) (by first | decide | omega) ?_
      rw [(sp_N_f2 h h1).2 _ (by omega), eL]
      refine w_m_le (a := L) rfl (by first | decide | omega) (by first | rfl | assumption | (simp only [← nI_add, ← nI_mul]; rfl)) (fun c => by exfalso; omega) (fun _ => ?_)
      refine w_st rfl rfl rfl trivial ?_
      refine w_st rfl rfl rfl trivial ?_
      refine w_k21 (hM2) rfl ⟨rfl, by decide, by decide, by decide, Or.inl ⟨_, rfl⟩⟩ (Nat.le_of_ble_eq_true rfl) (mm_foc rfl) (Nat.le_of_ble_eq_true rfl) ?_  -- calls 105 cX5_lights
      refine w_st rfl rfl rfl (Nat.le_of_ble_eq_true rfl) ?_
      refine w_st rfl rfl rfl trivial ?_
      refine w_st rfl rfl rfl (Nat.le_of_ble_eq_true rfl) ?_
      have K2 : ∀ l, l ≤ 15 → ∀ v5 v6, mm_W 148 27 [.ref 61, .int (sp_n2 σ f (sp_nb σ f) l), .int (nI f), .int (sp_lit σ f), .int (nI l), v5, v6] [] g I2 F := by
        refine mm_dn 15 ?_ ?_
        · intro v5 v6
          refine w_st rfl rfl rfl trivial ?_
          refine w_st rfl rfl rfl trivial ?_
          refine w_n_ge (a := 15) (b := 15) rfl (by first | decide | omega) (by first | decide | omega) (by first | rfl | assumption | (simp only [← nI_add, ← nI_mul]; rfl)) (by first | rfl | assumption | (simp only [← nI_add, ← nI_mul]; rfl)) (fun _ => ?_) (fun c => by exfalso; omega)
          refine w_inc rfl rfl rfl (Nat.le_of_ble_eq_true rfl) (nI_1 _) ?_
          refine w_st rfl rfl rfl trivial ?_
          exact ih I2 _ _ _ _ h12
        · intro l hl ih2 v5 v6
          have e : sp_n2 σ f (sp_nb σ f) (l + 1) = sp_n1 (sp_n2 σ f (sp_nb σ f) l) (sp_hu σ f l) := rfl
          generalize sp_n2 σ f (sp_nb σ f) l = a at *
          obtain ⟨N0, hN0, _, hh⟩ := ok.2.2.2.2
          obtain ⟨H, hH, eH⟩ := hh (15 * f + l) (by omega)
          have e2 : sp_hu σ f l = sp_if (σ 2 = 0 ∨ ¬ σ (8 + f) &&& sp_bit l = 0) (-1) (sp_if (sp_wn σ f l) 1 (sp_if (¬ sp_lit σ f &&& sp_bit l = 0) (100 * σ 2 - σ (12 + (15 * f + l))) (-1))) := rfl
          unfold sp_wn at e2
          rw [e100, eH] at e2
          have s2 : ¬ σ 2 = 0 := by rw [eL]; exact nI_ne0 L0 (by omega)
          -- the lamp burns in x hours
          have Y : ∀ (v6 : Int32) (x : Int32), sp_hu σ f l = x → ¬ x = -1 → ¬ v6 = 0 → mm_W 148 102 [.ref 61, .int a, .int (nI f), .int (sp_lit σ f), .int (nI l), .int x, .int v6] [] g I2 F := by
            intro v6 x hx x1 h6
            rw [hx] at e
            unfold sp_n1 at e
            refine w_st rfl rfl rfl trivial ?_
            refine w_z_eq rfl (fun z => by first | exact absurd z (h6) | exact absurd (h6) z) (fun _ => ?_)
            refine w_st rfl rfl rfl trivial ?_
            refine w_st rfl rfl rfl trivial ?_
            refine w_v_eq rfl (fun c1 => ?_) (fun c1 => ?_)
            · rw [sp_if_t ⟨x1, Or.inl c1⟩] at e
              rw [e] at ih2
              refine w_st rfl rfl rfl trivial ?_
              refine w_st rfl rfl rfl trivial ?_
              refine w_st rfl rfl rfl (Nat.le_of_ble_eq_true rfl) ?_
              refine w_inc rfl rfl rfl (Nat.le_of_ble_eq_true rfl) (nI_1 _) ?_
              refine w_st rfl rfl rfl trivial ?_
              exact ih2 _ _
            · skip
              refine w_st rfl rfl rfl trivial ?_
              refine w_st rfl rfl rfl trivial ?_
              refine w_v_ge rfl (fun c2 => ?_) (fun c2 => ?_)
              · rw [sp_if_f (fun z => z.2.elim c1 (fun z => absurd c2 (Int32.not_le.2 z)))] at e
                rw [e] at ih2
                refine w_st rfl rfl rfl trivial ?_
                refine w_st rfl rfl rfl (Nat.le_of_ble_eq_true rfl) ?_
                refine w_inc rfl rfl rfl (Nat.le_of_ble_eq_true rfl) (nI_1 _) ?_
                refine w_st rfl rfl rfl trivial ?_
                exact ih2 _ _
              · rw [sp_if_t ⟨x1, Or.inr (Int32.not_le.1 c2)⟩] at e
                rw [e] at ih2
                refine w_st rfl rfl rfl trivial ?_
                refine w_st rfl rfl rfl trivial ?_
                refine w_st rfl rfl rfl (Nat.le_of_ble_eq_true rfl) ?_
                refine w_inc rfl rfl rfl (Nat.le_of_ble_eq_true rfl) (nI_1 _) ?_
                refine w_st rfl rfl rfl trivial ?_
                exact ih2 _ _
          have B : ∀ (x : Int32), ((H < 100 * L ∧ x = nI (100 * L) - nI H) ∨ (100 * L ≤ H ∧ x = 1)) → mm_W 148 75 [.ref 61, .int a, .int (nI f), .int (sp_lit σ f), .int (nI l), .int x, v6] [] g I2 F := by
            intro x hx
            have x1 : ¬ x = -1 := by
              rcases hx with ⟨z, z2⟩ | ⟨z, z2⟩
              · rw [z2, nI_sub (by omega)]; exact nI_ne1 (by omega)
              · rw [z2]; decide
            refine w_st rfl rfl rfl trivial ?_
            refine w_st rfl rfl rfl trivial ?_
            refine w_k11 (r_bit) rfl ⟨rfl, by decide, by decide, by decide, Or.inr (Or.inl ⟨_, rfl⟩)⟩ (Nat.le_of_ble_eq_true rfl) trivial (Nat.le_of_ble_eq_true rfl) ?_  -- calls 94 cX5_bit
            refine w_iand rfl ?_
            refine w_z_ne rfl (fun c1 => ?_) (fun c1 => ?_)
            · have nb := sp_lit_nb hl c1
              refine w_st rfl rfl rfl trivial ?_
              refine w_st rfl rfl rfl trivial ?_
              refine w_st rfl rfl rfl (Nat.le_of_ble_eq_true rfl) ?_
              refine Y 1 x ?_ x1 (by decide)
              rw [e2, sp_if_f (fun z => z.elim s2 (fun z => z nb))]
              rcases hx with ⟨z, z2⟩ | ⟨z, z2⟩
              · rw [sp_if_f (fun q => absurd q.2 (nI_ge z (by omega))), sp_if_t c1, z2]
              · rw [sp_if_t ⟨nI_lt (a := 0) (by omega) (by omega), nI_le z (by omega)⟩, z2]
            · skip
              refine w_st rfl rfl rfl trivial ?_
              refine w_st rfl rfl rfl trivial ?_
              refine w_st rfl rfl rfl trivial ?_
              refine w_k31 (r_isOld hn hf hl) rfl ⟨rfl, by decide, by decide, by decide, Or.inl ⟨_, rfl⟩⟩ (Nat.le_of_ble_eq_true rfl) (mm_foc rfl) (Nat.le_of_ble_eq_true rfl) ?_  -- calls 115 cX5_isOld
              rw [e100, eH]
              refine w_b_eq rfl (fun c2 => ?_) (fun c2 => ?_)
              · have e3 : sp_hu σ f l = -1 := by
                  rw [e2]
                  by_cases z : σ (8 + f) &&& sp_bit l = 0
                  · rw [sp_if_f (fun q => q.elim s2 (fun q => q z)), sp_if_f (fun q => c2 ⟨z, q.2⟩), sp_if_f (fun q => q c1)]
                  · rw [sp_if_t (Or.inr z)]
                rw [e3, sp_n1_no] at e
                rw [e] at ih2
                refine w_st rfl rfl rfl trivial ?_
                refine w_st rfl rfl rfl (Nat.le_of_ble_eq_true rfl) ?_
                refine w_st rfl rfl rfl trivial ?_
                refine w_z_eq rfl (fun _ => ?_) (fun z => by first | exact absurd (rfl) z | exact absurd z (rfl))
                refine w_st rfl rfl rfl trivial ?_
                refine w_st rfl rfl rfl (Nat.le_of_ble_eq_true rfl) ?_
                refine w_inc rfl rfl rfl (Nat.le_of_ble_eq_true rfl) (nI_1 _) ?_
                refine w_st rfl rfl rfl trivial ?_
                exact ih2 _ _
              · skip
                refine w_st rfl rfl rfl trivial ?_
                refine w_st rfl rfl rfl trivial ?_
                refine w_st rfl rfl rfl (Nat.le_of_ble_eq_true rfl) ?_
                refine Y 1 x ?_ x1 (by decide)
                have : 100 * L ≤ H := (nI_leI (by omega) (by omega)).1 c2.2
                rw [e2, sp_if_f (fun z => z.elim s2 (fun z => z c2.1)), sp_if_t ⟨nI_lt (a := 0) (by omega) (by omega), c2.2⟩]
                rcases hx with ⟨z, z2⟩ | ⟨z, z2⟩
                · omega
                · exact z2.symm
          refine w_st rfl rfl rfl trivial ?_
          refine w_st rfl rfl rfl trivial ?_
          refine w_n_ge (a := l) (b := 15) rfl (by first | decide | omega) (by first | decide | omega) (by first | rfl | assumption | (simp only [← nI_add, ← nI_mul]; rfl)) (by first | rfl | assumption | (simp only [← nI_add, ← nI_mul]; rfl)) (fun c => by exfalso; omega) (fun _ => ?_)
          refine w_st rfl rfl rfl trivial ?_
          refine w_st rfl rfl rfl trivial ?_
          refine w_gr (j := 63) rfl (mm_foc rfl) rfl (by decide) ?_
          refine w_st rfl rfl rfl trivial ?_
          refine w_ia (2) rfl (mm_fac (n := 72) rfl) (by first | rfl | assumption | (simp only [← nI_add, ← nI_mul]; rfl)) (by first | decide | omega) ?_
          rw [hn.2 _ (by omega)]
          refine w_imul rfl ?_
          refine w_st rfl rfl rfl trivial ?_
          refine w_gr (j := 63) rfl (mm_foc rfl) rfl (by decide) ?_
          refine w_st rfl rfl rfl trivial ?_
          refine w_st rfl rfl rfl trivial ?_
          refine w_st rfl rfl rfl trivial ?_
          refine w_imul rfl ?_
          refine w_iadd rfl ?_
          refine w_st rfl rfl rfl trivial ?_
          refine w_iadd rfl ?_
          refine w_ia (12 + (15 * f + l)) rfl (mm_fac (n := 72) rfl) (by simp only [← nI_add, ← nI_mul]; exact Int32.add_assoc _ _ _) (by first | decide | omega) ?_
          rw [hn.2 _ (by omega), e100, eH]
          by_cases hc : H < 100 * L
          · skip
            refine w_isub rfl ?_
            refine w_st rfl rfl rfl (Nat.le_of_ble_eq_true rfl) ?_
            refine w_st rfl rfl rfl trivial ?_
            refine w_st rfl rfl rfl trivial ?_
            refine w_v_ge rfl (fun _ => ?_) (fun z => by first | exact absurd (by rw [nI_sub (by omega)]; exact nI_le (a := 1) (by omega) (by omega)) z | exact absurd z (by rw [nI_sub (by omega)]; exact nI_le (a := 1) (by omega) (by omega)))
            refine w_st rfl rfl rfl trivial ?_
            refine w_st rfl rfl rfl (Nat.le_of_ble_eq_true rfl) ?_
            exact B _ (Or.inl ⟨hc, rfl⟩)
          · skip
            refine w_isub rfl ?_
            refine w_st rfl rfl rfl (Nat.le_of_ble_eq_true rfl) ?_
            refine w_st rfl rfl rfl trivial ?_
            refine w_st rfl rfl rfl trivial ?_
            refine w_v_ge rfl (fun z => by first | exact absurd z (Int32.not_le.2 (nI_sub_lt (by omega) (by omega))) | exact absurd (Int32.not_le.2 (nI_sub_lt (by omega) (by omega))) z) (fun _ => ?_)
            refine w_st rfl rfl rfl trivial ?_
            refine w_st rfl rfl rfl trivial ?_
            refine w_st rfl rfl rfl (Nat.le_of_ble_eq_true rfl) ?_
            exact B _ (Or.inr ⟨by omega, rfl⟩)
      exact K2 0 (by decide) _ _
  exact K 0 (by decide) I .null .null .null .null sp_f2_rf
end SM
