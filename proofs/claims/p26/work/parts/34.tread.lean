/-! what a laid table answers, on the class's side -/
def sp_can (r : Nat → Int32) (x : Int32) : Prop := ∃ d, d < 10 ∧ x = nI d ∧ ¬ r d = -1
noncomputable def sp_mk (r : Nat → Int32) : Nat → Int32
  | 0 => 0
  | n + 1 => sp_mk r n ||| sp_if (r n = -1) (0 : Int32) ((1 : Int32) <<< (nI n &&& 31))
noncomputable def sp_no (r : Nat → Int32) : Nat → Nat
  | 0 => 0
  | n + 1 => sp_no r n + sp_if (r n = -1) 1 0
theorem sp_no_le (r : Nat → Int32) (n : Nat) : sp_no r n ≤ n := by
  induction n with
  | zero => exact Nat.le_refl _
  | succ n ih =>
    show sp_no r n + sp_if _ 1 0 ≤ _
    by_cases c : r n = -1
    · rw [sp_if_t c]; omega
    · rw [sp_if_f c]; omega
theorem sp_mk_ck : ∀ n, n < 10 → ∀ m, m < 2 ^ n → sp_qq (m ||| 2 ^ n) = sp_qq m + 1 := by decide +kernel
theorem sp_bit_n : ∀ n, n < 10 → (1 : Int32) <<< (nI n &&& 31) = nI (2 ^ n) := by decide +kernel
theorem nI_or (a b : Nat) : nI a ||| nI b = nI (a ||| b) := by
  apply Int32.toBitVec_inj.1
  rw [Int32.toBitVec_or, nI_bv, nI_bv, nI_bv]
  exact BitVec.ofNat_or.symm
theorem sp_mk_n (r : Nat → Int32) : ∀ n, n ≤ 10 → ∃ m, m < 2 ^ n ∧ sp_mk r n = nI m ∧ sp_qq m + sp_no r n = n := by
  intro n
  induction n with
  | zero => intro _; exact ⟨0, by decide, rfl, by show sp_qq 0 + 0 = 0; decide +kernel⟩
  | succ n ih =>
    intro hn
    obtain ⟨m, h1, h2, h3⟩ := ih (by omega)
    have hp : 2 ^ (n + 1) = 2 ^ n + 2 ^ n := by rw [Nat.pow_succ]; omega
    by_cases c : r n = -1
    · refine ⟨m, by omega, ?_, ?_⟩
      · show sp_mk r n ||| sp_if _ _ _ = _
        rw [sp_if_t c, h2]
        exact Int32.or_zero
      · show sp_qq m + (sp_no r n + sp_if _ 1 0) = _
        rw [sp_if_t c]; omega
    · refine ⟨m ||| 2 ^ n, ?_, ?_, ?_⟩
      · exact Nat.or_lt_two_pow (by omega) (by omega)
      · show sp_mk r n ||| sp_if _ _ _ = _
        rw [sp_if_f c, h2, sp_bit_n n (by omega), nI_or]
      · show _ + (sp_no r n + sp_if _ 1 0) = _
        rw [sp_if_f c, sp_mk_ck n (by omega) m h1]; omega
theorem sp_mk_10 (r : Nat → Int32) : (10 : Int32) - sp_pop (sp_mk r 10) = nI (sp_no r 10) := by
  obtain ⟨m, h1, h2, h3⟩ := sp_mk_n r 10 (Nat.le_refl _)
  rw [h2, sp_pop_n (by omega)]
  show nI 10 - nI _ = _
  rw [nI_sub (by omega)]
  congr 1
  omega
/-- the first of the last j digits that has no shape -/
noncomputable def sp_fh (r : Nat → Int32) : Nat → Int32
  | 0 => -1
  | j + 1 => sp_if (r (9 - j) = -1) (nI (9 - j)) (sp_fh r j)
noncomputable def sp_df (r : Nat → Int32) (b : Int32) (d e : Nat) : Int32 := sp_pop (sp_sh b d (r d) ^^^ sp_sh b e (r e))
noncomputable def sp_cs (r : Nat → Int32) (b : Int32) (d e : Nat) (a : Int32) : Int32 := sp_if (r d = -1 ∨ r e = -1) a (sp_if (a = -1 ∨ sp_df r b d e < a) (sp_df r b d e) a)
noncomputable def sp_ci (r : Nat → Int32) (b : Int32) (d : Nat) (a : Int32) : Nat → Int32
  | 0 => a
  | e + 1 => sp_cs r b d e (sp_ci r b d a e)
noncomputable def sp_co (r : Nat → Int32) (b : Int32) : Nat → Int32
  | 0 => -1
  | d + 1 => sp_ci r b d (sp_co r b d) d
noncomputable def sp_dw (r : Nat → Int32) (l : Nat) : Nat → Nat
  | 0 => 0
  | d + 1 => sp_dw r l d + sp_if (¬ r d = -1 ∧ ¬ mm_SHP (3 * d + (r d).toNatClampNeg) &&& sp_bit l = 0) 1 0
noncomputable def sp_cg (r r' : Nat → Int32) : Nat → Nat
  | 0 => 0
  | d + 1 => sp_cg r r' d + sp_if (r d = r' d) 0 1
theorem sp_cg_comm (r r' : Nat → Int32) (n : Nat) : sp_cg r r' n = sp_cg r' r n := by
  induction n with
  | zero => rfl
  | succ n ih =>
    show _ + sp_if _ 0 1 = _ + sp_if _ 0 1
    rw [ih, show (r n = r' n) = (r' n = r n) from propext ⟨Eq.symm, Eq.symm⟩]
theorem sp_cg_le (r r' : Nat → Int32) (n : Nat) : sp_cg r r' n ≤ n := by
  induction n with
  | zero => exact Nat.le_refl _
  | succ n ih =>
    show _ + sp_if _ 0 1 ≤ _
    by_cases c : r n = r' n
    · rw [sp_if_t c]; omega
    · rw [sp_if_f c]; omega
/-- nearest and least after n digits -/
noncomputable def sp_nr (r : Nat → Int32) (b L : Int32) : Nat → Int32 × Int32
  | 0 => (-1, 16)
  | d + 1 => sp_if (r d = -1) (sp_nr r b L d) (sp_if (sp_pop (L ^^^ sp_sh b d (r d)) < (sp_nr r b L d).2) (nI d, sp_pop (L ^^^ sp_sh b d (r d))) (sp_if (sp_pop (L ^^^ sp_sh b d (r d)) = (sp_nr r b L d).2) (-1, (sp_nr r b L d).2) (sp_nr r b L d)))
section SM
variable {g : mm_Gg} {I : mm_Is} {x y z b s L b' s' : Int32} {l d k t u : Nat}
theorem c_canShow (hT : mm_T t) (h : sp_tt I t b s) : mm_M 14 2 [.ref t, .int x] g I (some (.int (mm_bi (sp_can (sp_row b s) x)))) I := by
  refine w_M ?_
  show mm_W 14 0 [.ref t, .int x] [] _ _ _
  generalize hF : mm_EX _ _ _ = F
  refine w_st rfl rfl rfl trivial ?_
  refine w_k11 (c_isDigit) rfl ⟨rfl, by decide, by decide, by decide, Or.inr (Or.inl ⟨_, rfl⟩)⟩ (Nat.le_of_ble_eq_true rfl) trivial (Nat.le_of_ble_eq_true rfl) ?_  -- calls 46 cX4_isDigit
  refine w_b_eq rfl (fun c1 => ?_) (fun c1 => ?_)
  · skip
    refine w_st rfl rfl rfl trivial ?_
    refine w_retz rfl (by first | exact Or.inl rfl | exact Or.inr rfl | exact mm_bi_01 _ | assumption) ?_
    exact hF ▸ mm_EX_i ((mm_bi_f (fun ⟨d, h1, h2, _⟩ => c1 ⟨d, h1, h2⟩)).symm)
  · obtain ⟨d, hd, rfl⟩ := c1
    refine w_st rfl rfl rfl trivial ?_
    refine w_gr (j := (t + 1 + 0)) rfl (mm_T_o hT) (mm_T_r hT (by decide)) mm_T_0 ?_
    refine w_st rfl rfl rfl trivial ?_
    refine w_ia (d) rfl (mm_T_a hT (by decide)) (by first | rfl | assumption | (simp only [← nI_add, ← nI_mul]; rfl)) (by first | decide | omega) ?_
    rw [(h d hd).1]
    refine w_st rfl rfl rfl trivial ?_
    refine w_v_eq rfl (fun c2 => ?_) (fun c2 => ?_)
    · skip
      refine w_st rfl rfl rfl trivial ?_
      refine w_retz rfl (by first | exact Or.inl rfl | exact Or.inr rfl | exact mm_bi_01 _ | assumption) ?_
      exact hF ▸ mm_EX_i ((mm_bi_f (fun ⟨e, h1, h2, h3⟩ => h3 (by rw [← (nI_eq (by omega) (by omega)).1 h2]; exact c2))).symm)
    · skip
      refine w_st rfl rfl rfl trivial ?_
      refine w_st rfl rfl rfl trivial ?_
      refine w_retz rfl (by first | exact Or.inl rfl | exact Or.inr rfl | exact mm_bi_01 _ | assumption) ?_
      exact hF ▸ mm_EX_i ((mm_bi_t ⟨d, hd, rfl, c2⟩).symm)
theorem c_shapeOf (hT : mm_T t) (h : sp_tt I t b s) : mm_M 15 2 [.ref t, .int x] g I (some (.int (sp_if (sp_can (sp_row b s) x) (sp_row b s x.toNatClampNeg) (-1)))) I := by
  refine w_M ?_
  show mm_W 15 0 [.ref t, .int x] [] _ _ _
  generalize hF : mm_EX _ _ _ = F
  refine w_st rfl rfl rfl trivial ?_
  refine w_st rfl rfl rfl trivial ?_
  refine w_k21 (c_canShow hT h) rfl ⟨rfl, by decide, by decide, by decide, Or.inl ⟨_, rfl⟩⟩ (Nat.le_of_ble_eq_true rfl) (mm_T_o hT) (Nat.le_of_ble_eq_true rfl) ?_  -- calls 14 cX2_canShow
  refine w_b_eq rfl (fun c1 => ?_) (fun c1 => ?_)
  · skip
    refine w_st rfl rfl rfl trivial ?_
    refine w_reti rfl ?_
    exact hF ▸ mm_EX_i ((sp_if_f c1 _ _).symm)
  · rw [sp_if_t c1] at hF
    obtain ⟨d, hd, rfl, c2⟩ := c1
    rw [nI_clamp (by omega)] at hF
    refine w_st rfl rfl rfl trivial ?_
    refine w_gr (j := (t + 1 + 0)) rfl (mm_T_o hT) (mm_T_r hT (by decide)) mm_T_0 ?_
    refine w_st rfl rfl rfl trivial ?_
    refine w_ia (d) rfl (mm_T_a hT (by decide)) (by first | rfl | assumption | (simp only [← nI_add, ← nI_mul]; rfl)) (by first | decide | omega) ?_
    rw [(h d hd).1]
    refine w_st rfl rfl rfl trivial ?_
    refine w_reti rfl ?_
    exact hF ▸ mm_EX_i (rfl)
theorem c_shownOf (hT : mm_T t) (h : sp_tt I t b s) : mm_M 16 2 [.ref t, .int x] g I (some (.int (sp_if (sp_can (sp_row b s) x) (sp_sh b x.toNatClampNeg (sp_row b s x.toNatClampNeg)) (-1)))) I := by
  refine w_M ?_
  show mm_W 16 0 [.ref t, .int x] [] _ _ _
  generalize hF : mm_EX _ _ _ = F
  refine w_st rfl rfl rfl trivial ?_
  refine w_st rfl rfl rfl trivial ?_
  refine w_k21 (c_canShow hT h) rfl ⟨rfl, by decide, by decide, by decide, Or.inl ⟨_, rfl⟩⟩ (Nat.le_of_ble_eq_true rfl) (mm_T_o hT) (Nat.le_of_ble_eq_true rfl) ?_  -- calls 14 cX2_canShow
  refine w_b_eq rfl (fun c1 => ?_) (fun c1 => ?_)
  · skip
    refine w_st rfl rfl rfl trivial ?_
    refine w_reti rfl ?_
    exact hF ▸ mm_EX_i ((sp_if_f c1 _ _).symm)
  · rw [sp_if_t c1] at hF
    obtain ⟨d, hd, rfl, c2⟩ := c1
    rw [nI_clamp (by omega)] at hF
    refine w_st rfl rfl rfl trivial ?_
    refine w_gr (j := (t + 1 + 1)) rfl (mm_T_o hT) (mm_T_r hT (by decide)) mm_T_0 ?_
    refine w_st rfl rfl rfl trivial ?_
    refine w_ia (d) rfl (mm_T_a hT (by decide)) (by first | rfl | assumption | (simp only [← nI_add, ← nI_mul]; rfl)) (by first | decide | omega) ?_
    rw [((h d hd).2 c2).1]
    refine w_st rfl rfl rfl trivial ?_
    refine w_reti rfl ?_
    exact hF ▸ mm_EX_i (rfl)
theorem c_missingOf (hT : mm_T t) (h : sp_tt I t b s) : mm_M 17 2 [.ref t, .int x] g I (some (.int (sp_if (sp_can (sp_row b s) x) (sp_mi b x.toNatClampNeg (sp_row b s x.toNatClampNeg)) (-1)))) I := by
  refine w_M ?_
  show mm_W 17 0 [.ref t, .int x] [] _ _ _
  generalize hF : mm_EX _ _ _ = F
  refine w_st rfl rfl rfl trivial ?_
  refine w_st rfl rfl rfl trivial ?_
  refine w_k21 (c_canShow hT h) rfl ⟨rfl, by decide, by decide, by decide, Or.inl ⟨_, rfl⟩⟩ (Nat.le_of_ble_eq_true rfl) (mm_T_o hT) (Nat.le_of_ble_eq_true rfl) ?_  -- calls 14 cX2_canShow
  refine w_b_eq rfl (fun c1 => ?_) (fun c1 => ?_)
  · skip
    refine w_st rfl rfl rfl trivial ?_
    refine w_reti rfl ?_
    exact hF ▸ mm_EX_i ((sp_if_f c1 _ _).symm)
  · rw [sp_if_t c1] at hF
    obtain ⟨d, hd, rfl, c2⟩ := c1
    rw [nI_clamp (by omega)] at hF
    refine w_st rfl rfl rfl trivial ?_
    refine w_gr (j := (t + 1 + 2)) rfl (mm_T_o hT) (mm_T_r hT (by decide)) mm_T_0 ?_
    refine w_st rfl rfl rfl trivial ?_
    refine w_ia (d) rfl (mm_T_a hT (by decide)) (by first | rfl | assumption | (simp only [← nI_add, ← nI_mul]; rfl)) (by first | decide | omega) ?_
    rw [((h d hd).2 c2).2]
    refine w_st rfl rfl rfl trivial ?_
    refine w_reti rfl ?_
    exact hF ▸ mm_EX_i (rfl)
theorem c_digitsAsMask (hT : mm_T t) (h : sp_tt I t b s) : mm_M 18 3 [.ref t] g I (some (.int (sp_mk (sp_row b s) 10))) I := by
  refine w_M ?_
  show mm_W 18 0 [.ref t, .null, .null] [] _ _ _
  generalize hF : mm_EX _ _ _ = F
  refine w_st rfl rfl rfl trivial ?_
  refine w_st rfl rfl rfl (Nat.le_of_ble_eq_true rfl) ?_
  refine w_st rfl rfl rfl trivial ?_
  refine w_st rfl rfl rfl (Nat.le_of_ble_eq_true rfl) ?_
  refine mm_dn (P := fun j => mm_W 18 4 [.ref t, .int (sp_mk (sp_row b s) j), .int (nI j)] [] g I F) (10) ?_ ?_ 0 (by first | decide | omega)
  · try dsimp only
    refine w_st rfl rfl rfl trivial ?_
    refine w_st rfl rfl rfl trivial ?_
    refine w_n_ge (a := 10) (b := 10) rfl (by first | decide | omega) (by first | decide | omega) (by first | rfl | assumption | (simp only [← nI_add, ← nI_mul]; rfl)) (by first | rfl | assumption | (simp only [← nI_add, ← nI_mul]; rfl)) (fun _ => ?_) (fun c => by exfalso; omega)
    refine w_st rfl rfl rfl trivial ?_
    refine w_reti rfl ?_
    exact hF ▸ mm_EX_i (rfl)
  · intro j hj ih
    try dsimp only at ih ⊢
    refine w_st rfl rfl rfl trivial ?_
    refine w_st rfl rfl rfl trivial ?_
    refine w_n_ge (a := j) (b := 10) rfl (by first | decide | omega) (by first | decide | omega) (by first | rfl | assumption | (simp only [← nI_add, ← nI_mul]; rfl)) (by first | rfl | assumption | (simp only [← nI_add, ← nI_mul]; rfl)) (fun c => by exfalso; omega) (fun _ => ?_)
    refine w_st rfl rfl rfl trivial ?_
    refine w_st rfl rfl rfl trivial ?_
    refine w_gr (j := (t + 1 + 0)) rfl (mm_T_o hT) (mm_T_r hT (by decide)) mm_T_0 ?_
    refine w_st rfl rfl rfl trivial ?_
    refine w_ia (j) rfl (mm_T_a hT (by decide)) (by first | rfl | assumption | (simp only [← nI_add, ← nI_mul]; rfl)) (by first | decide | omega) ?_
    rw [(h j hj).1]
    have e : sp_mk (sp_row b s) (j + 1) = sp_mk (sp_row b s) j ||| sp_if (sp_row b s j = -1) (0 : Int32) ((1 : Int32) <<< (nI j &&& 31)) := rfl
    refine w_st rfl rfl rfl trivial ?_
    refine w_v_ne rfl (fun c => ?_) (fun c => ?_)
    · rw [sp_if_f c] at e
      refine w_st rfl rfl rfl trivial ?_
      refine w_st rfl rfl rfl trivial ?_
      refine w_ishl rfl ?_
      refine w_ior rfl ?_
      refine w_st rfl rfl rfl (Nat.le_of_ble_eq_true rfl) ?_
      refine w_inc rfl rfl rfl (Nat.le_of_ble_eq_true rfl) (nI_1 _) ?_
      refine w_st rfl rfl rfl trivial ?_
      rw [e] at ih; exact ih
    · rw [sp_if_t c] at e
      refine w_st rfl rfl rfl trivial ?_
      refine w_st rfl rfl rfl trivial ?_
      refine w_ior rfl ?_
      refine w_st rfl rfl rfl (Nat.le_of_ble_eq_true rfl) ?_
      refine w_inc rfl rfl rfl (Nat.le_of_ble_eq_true rfl) (nI_1 _) ?_
      refine w_st rfl rfl rfl trivial ?_
      rw [e] at ih; exact ih
theorem c_hiddenDigits (hT : mm_T t) (h : sp_tt I t b s) : mm_M 19 1 [.ref t] g I (some (.int (nI (sp_no (sp_row b s) 10)))) I := by
  refine w_M ?_
  show mm_W 19 0 [.ref t] [] _ _ _
  generalize hF : mm_EX _ _ _ = F
  refine w_st rfl rfl rfl trivial ?_
  refine w_st rfl rfl rfl trivial ?_
  refine w_k11 (c_digitsAsMask hT h) rfl ⟨rfl, by decide, by decide, by decide, Or.inl ⟨_, rfl⟩⟩ (Nat.le_of_ble_eq_true rfl) (mm_T_o hT) (Nat.le_of_ble_eq_true rfl) ?_  -- calls 18 cX2_digitsAsMask
  refine w_k11 (c_bitCount) rfl ⟨rfl, by decide, by decide, by decide, Or.inr (Or.inl ⟨_, rfl⟩)⟩ (Nat.le_of_ble_eq_true rfl) trivial (Nat.le_of_ble_eq_true rfl) ?_  -- calls 67 cJ6_bitCount_0f7a4
  refine w_isub rfl ?_
  refine w_reti rfl ?_
  exact hF ▸ mm_EX_i (sp_mk_10 _)
theorem c_firstHidden (hT : mm_T t) (h : sp_tt I t b s) : mm_M 20 2 [.ref t] g I (some (.int (sp_fh (sp_row b s) 10))) I := by
  refine w_M ?_
  show mm_W 20 0 [.ref t, .null] [] _ _ _
  generalize hF : mm_EX _ _ _ = F
  refine w_st rfl rfl rfl trivial ?_
  refine w_st rfl rfl rfl (Nat.le_of_ble_eq_true rfl) ?_
  have K : ∀ j, j ≤ 10 → sp_fh (sp_row b s) 10 = sp_fh (sp_row b s) (10 - j) → mm_W 20 2 [.ref t, .int (nI j)] [] g I F := by
    refine mm_dn 10 ?_ ?_
    · intro e
      refine w_st rfl rfl rfl trivial ?_
      refine w_st rfl rfl rfl trivial ?_
      refine w_n_ge (a := 10) (b := 10) rfl (by first | decide | omega) (by first | decide | omega) (by first | rfl | assumption | (simp only [← nI_add, ← nI_mul]; rfl)) (by first | rfl | assumption | (simp only [← nI_add, ← nI_mul]; rfl)) (fun _ => ?_) (fun c => by exfalso; omega)
      refine w_st rfl rfl rfl trivial ?_
      refine w_reti rfl ?_
      exact hF ▸ mm_EX_i (e.symm)
    · intro j hj ih e
      refine w_st rfl rfl rfl trivial ?_
      refine w_st rfl rfl rfl trivial ?_
      refine w_n_ge (a := j) (b := 10) rfl (by first | decide | omega) (by first | decide | omega) (by first | rfl | assumption | (simp only [← nI_add, ← nI_mul]; rfl)) (by first | rfl | assumption | (simp only [← nI_add, ← nI_mul]; rfl)) (fun c => by exfalso; omega) (fun _ => ?_)
      refine w_st rfl rfl rfl trivial ?_
      refine w_gr (j := (t + 1 + 0)) rfl (mm_T_o hT) (mm_T_r hT (by decide)) mm_T_0 ?_
      refine w_st rfl rfl rfl trivial ?_
      refine w_ia (j) rfl (mm_T_a hT (by decide)) (by first | rfl | assumption | (simp only [← nI_add, ← nI_mul]; rfl)) (by first | decide | omega) ?_
      rw [(h j hj).1]
      have e1 : sp_fh (sp_row b s) (10 - j) = sp_if (sp_row b s j = -1) (nI j) (sp_fh (sp_row b s) (10 - (j + 1))) := by
        obtain ⟨i, hi⟩ : ∃ i, 10 - j = i + 1 := ⟨9 - j, by omega⟩
        rw [hi]
        show sp_if (sp_row b s (9 - i) = -1) _ _ = _
        rw [show 9 - i = j from by omega, show 10 - (j + 1) = i from by omega]
      refine w_st rfl rfl rfl trivial ?_
      refine w_v_ne rfl (fun c => ?_) (fun c => ?_)
      · rw [sp_if_f c] at e1
        refine w_inc rfl rfl rfl (Nat.le_of_ble_eq_true rfl) (nI_1 _) ?_
        refine w_st rfl rfl rfl trivial ?_
        exact ih (e.trans e1)
      · rw [sp_if_t c] at e1
        refine w_st rfl rfl rfl trivial ?_
        refine w_reti rfl ?_
        exact hF ▸ mm_EX_i ((e.trans e1).symm)
  exact K 0 (by decide) rfl
theorem c_leastDifference (hT : mm_T t) (h : sp_tt I t b s) : mm_M 21 5 [.ref t] g I (some (.int (sp_co (sp_row b s) b 10))) I := by
  refine w_M ?_
  show mm_W 21 0 [.ref t, .null, .null, .null, .null] [] _ _ _
  generalize hF : mm_EX _ _ _ = F
  refine w_st rfl rfl rfl trivial ?_
  refine w_st rfl rfl rfl (Nat.le_of_ble_eq_true rfl) ?_
  refine w_st rfl rfl rfl trivial ?_
  refine w_st rfl rfl rfl (Nat.le_of_ble_eq_true rfl) ?_
  have K : ∀ d, d ≤ 10 → ∀ v3 v4, mm_pre [.ref t, .int 0, .int 0, v3, v4] 4 = false → mm_W 21 4 [.ref t, .int (sp_co (sp_row b s) b d), .int (nI d), v3, v4] [] g I F := by
    refine mm_dn 10 ?_ ?_
    · intro v3 v4 _
      refine w_st rfl rfl rfl trivial ?_
      refine w_st rfl rfl rfl trivial ?_
      refine w_n_ge (a := 10) (b := 10) rfl (by first | decide | omega) (by first | decide | omega) (by first | rfl | assumption | (simp only [← nI_add, ← nI_mul]; rfl)) (by first | rfl | assumption | (simp only [← nI_add, ← nI_mul]; rfl)) (fun _ => ?_) (fun c => by exfalso; omega)
      refine w_st rfl rfl rfl trivial ?_
      refine w_reti rfl ?_
      exact hF ▸ mm_EX_i (rfl)
    · intro d hd ih v3 v4 _
      refine w_st rfl rfl rfl trivial ?_
      refine w_st rfl rfl rfl trivial ?_
      refine w_n_ge (a := d) (b := 10) rfl (by first | decide | omega) (by first | decide | omega) (by first | rfl | assumption | (simp only [← nI_add, ← nI_mul]; rfl)) (by first | rfl | assumption | (simp only [← nI_add, ← nI_mul]; rfl)) (fun c => by exfalso; omega) (fun _ => ?_)
      refine w_st rfl rfl rfl trivial ?_
      refine w_st rfl rfl rfl (Nat.le_of_ble_eq_true rfl) ?_
      have K2 : ∀ e, e ≤ d → ∀ v4, mm_W 21 12 [.ref t, .int (sp_ci (sp_row b s) b d (sp_co (sp_row b s) b d) e), .int (nI d), .int (nI e), v4] [] g I F := by
        refine mm_dn d ?_ ?_
        · intro v4
          refine w_st rfl rfl rfl trivial ?_
          refine w_st rfl rfl rfl trivial ?_
          refine w_n_ge (a := d) (b := d) rfl (by first | decide | omega) (by first | decide | omega) (by first | rfl | assumption | (simp only [← nI_add, ← nI_mul]; rfl)) (by first | rfl | assumption | (simp only [← nI_add, ← nI_mul]; rfl)) (fun _ => ?_) (fun c => by exfalso; omega)
          refine w_inc rfl rfl rfl (Nat.le_of_ble_eq_true rfl) (nI_1 _) ?_
          refine w_st rfl rfl rfl trivial ?_
          exact ih (.int (nI d)) v4 rfl
        · intro e he ih2 v4
          have e1 : sp_ci (sp_row b s) b d (sp_co (sp_row b s) b d) (e + 1) = sp_cs (sp_row b s) b d e (sp_ci (sp_row b s) b d (sp_co (sp_row b s) b d) e) := rfl
          unfold sp_cs at e1
          refine w_st rfl rfl rfl trivial ?_
          refine w_st rfl rfl rfl trivial ?_
          refine w_n_ge (a := e) (b := d) rfl (by first | decide | omega) (by first | decide | omega) (by first | rfl | assumption | (simp only [← nI_add, ← nI_mul]; rfl)) (by first | rfl | assumption | (simp only [← nI_add, ← nI_mul]; rfl)) (fun c => by exfalso; omega) (fun _ => ?_)
          refine w_st rfl rfl rfl trivial ?_
          refine w_gr (j := (t + 1 + 0)) rfl (mm_T_o hT) (mm_T_r hT (by decide)) mm_T_0 ?_
          refine w_st rfl rfl rfl trivial ?_
          refine w_ia (d) rfl (mm_T_a hT (by decide)) (by first | rfl | assumption | (simp only [← nI_add, ← nI_mul]; rfl)) (by first | decide | omega) ?_
          rw [(h d hd).1]
          refine w_st rfl rfl rfl trivial ?_
          refine w_v_eq rfl (fun c1 => ?_) (fun c1 => ?_)
          · rw [sp_if_t (Or.inl c1)] at e1
            refine w_inc rfl rfl rfl (Nat.le_of_ble_eq_true rfl) (nI_1 _) ?_
            refine w_st rfl rfl rfl trivial ?_
            rw [e1] at ih2; exact ih2 v4
          · skip
            refine w_st rfl rfl rfl trivial ?_
            refine w_gr (j := (t + 1 + 0)) rfl (mm_T_o hT) (mm_T_r hT (by decide)) mm_T_0 ?_
            refine w_st rfl rfl rfl trivial ?_
            refine w_ia (e) rfl (mm_T_a hT (by decide)) (by first | rfl | assumption | (simp only [← nI_add, ← nI_mul]; rfl)) (by first | decide | omega) ?_
            rw [(h e (by omega)).1]
            refine w_st rfl rfl rfl trivial ?_
            refine w_v_ne rfl (fun c2 => ?_) (fun c2 => ?_)
            · rw [sp_if_f (fun z => z.elim c1 c2)] at e1
              refine w_st rfl rfl rfl trivial ?_
              refine w_gr (j := (t + 1 + 1)) rfl (mm_T_o hT) (mm_T_r hT (by decide)) mm_T_0 ?_
              refine w_st rfl rfl rfl trivial ?_
              refine w_ia (d) rfl (mm_T_a hT (by decide)) (by first | rfl | assumption | (simp only [← nI_add, ← nI_mul]; rfl)) (by first | decide | omega) ?_
              refine w_st rfl rfl rfl trivial ?_
              refine w_gr (j := (t + 1 + 1)) rfl (mm_T_o hT) (mm_T_r hT (by decide)) mm_T_0 ?_
              refine w_st rfl rfl rfl trivial ?_
              refine w_ia (e) rfl (mm_T_a hT (by decide)) (by first | rfl | assumption | (simp only [← nI_add, ← nI_mul]; rfl)) (by first | decide | omega) ?_
              refine w_ixor rfl ?_
              refine w_k11 (c_bitCount) rfl ⟨rfl, by decide, by decide, by decide, Or.inr (Or.inl ⟨_, rfl⟩)⟩ (Nat.le_of_ble_eq_true rfl) trivial (Nat.le_of_ble_eq_true rfl) ?_  -- calls 67 cJ6_bitCount_0f7a4
              rw [((h d hd).2 c1).1, ((h e (by omega)).2 c2).1]
              refine w_st rfl rfl rfl (Nat.le_of_ble_eq_true rfl) ?_
              refine w_st rfl rfl rfl trivial ?_
              refine w_st rfl rfl rfl trivial ?_
              refine w_v_eq rfl (fun c3 => ?_) (fun c3 => ?_)
              · rw [sp_if_t (Or.inl c3)] at e1
                refine w_st rfl rfl rfl trivial ?_
                refine w_st rfl rfl rfl (Nat.le_of_ble_eq_true rfl) ?_
                refine w_inc rfl rfl rfl (Nat.le_of_ble_eq_true rfl) (nI_1 _) ?_
                refine w_st rfl rfl rfl trivial ?_
                rw [e1] at ih2; exact ih2 (.int (sp_df (sp_row b s) b d e))
              · skip
                refine w_st rfl rfl rfl trivial ?_
                refine w_st rfl rfl rfl trivial ?_
                refine w_v_ge rfl (fun c4 => ?_) (fun c4 => ?_)
                · rw [sp_if_f (fun z => z.elim c3 (fun z => absurd c4 (Int32.not_le.2 z)))] at e1
                  refine w_inc rfl rfl rfl (Nat.le_of_ble_eq_true rfl) (nI_1 _) ?_
                  refine w_st rfl rfl rfl trivial ?_
                  rw [e1] at ih2; exact ih2 (.int (sp_df (sp_row b s) b d e))
                · rw [sp_if_t (Or.inr (show sp_df (sp_row b s) b d e < _ from Int32.not_le.1 c4))] at e1
                  refine w_st rfl rfl rfl trivial ?_
                  refine w_st rfl rfl rfl (Nat.le_of_ble_eq_true rfl) ?_
                  refine w_inc rfl rfl rfl (Nat.le_of_ble_eq_true rfl) (nI_1 _) ?_
                  refine w_st rfl rfl rfl trivial ?_
                  rw [e1] at ih2; exact ih2 (.int (sp_df (sp_row b s) b d e))
            · rw [sp_if_t (Or.inr c2)] at e1
              refine w_st rfl rfl rfl trivial ?_
              refine w_inc rfl rfl rfl (Nat.le_of_ble_eq_true rfl) (nI_1 _) ?_
              refine w_st rfl rfl rfl trivial ?_
              rw [e1] at ih2; exact ih2 v4
      exact K2 0 (Nat.zero_le _) v4
  exact K 0 (by decide) .null .null rfl
theorem c_digitsWith (hT : mm_T t) (h : sp_tt I t b s) : mm_M 22 4 [.ref t, .int (nI l)] g I (some (.int (nI (sp_dw (sp_row b s) l 10)))) I := by
  refine w_M ?_
  show mm_W 22 0 [.ref t, .int (nI l), .null, .null] [] _ _ _
  generalize hF : mm_EX _ _ _ = F
  refine w_st rfl rfl rfl trivial ?_
  refine w_st rfl rfl rfl (Nat.le_of_ble_eq_true rfl) ?_
  refine w_st rfl rfl rfl trivial ?_
  refine w_st rfl rfl rfl (Nat.le_of_ble_eq_true rfl) ?_
  refine mm_dn (P := fun j => mm_W 22 4 [.ref t, .int (nI l), .int (nI (sp_dw (sp_row b s) l j)), .int (nI j)] [] g I F) (10) ?_ ?_ 0 (by first | decide | omega)
  · try dsimp only
    refine w_st rfl rfl rfl trivial ?_
    refine w_st rfl rfl rfl trivial ?_
    refine w_n_ge (a := 10) (b := 10) rfl (by first | decide | omega) (by first | decide | omega) (by first | rfl | assumption | (simp only [← nI_add, ← nI_mul]; rfl)) (by first | rfl | assumption | (simp only [← nI_add, ← nI_mul]; rfl)) (fun _ => ?_) (fun c => by exfalso; omega)
    refine w_st rfl rfl rfl trivial ?_
    refine w_reti rfl ?_
    exact hF ▸ mm_EX_i (rfl)
  · intro j hj ih
    try dsimp only at ih ⊢
    have e : sp_dw (sp_row b s) l (j + 1) = sp_dw (sp_row b s) l j + sp_if (¬ sp_row b s j = -1 ∧ ¬ mm_SHP (3 * j + (sp_row b s j).toNatClampNeg) &&& sp_bit l = 0) 1 0 := rfl
    refine w_st rfl rfl rfl trivial ?_
    refine w_st rfl rfl rfl trivial ?_
    refine w_n_ge (a := j) (b := 10) rfl (by first | decide | omega) (by first | decide | omega) (by first | rfl | assumption | (simp only [← nI_add, ← nI_mul]; rfl)) (by first | rfl | assumption | (simp only [← nI_add, ← nI_mul]; rfl)) (fun c => by exfalso; omega) (fun _ => ?_)
    refine w_st rfl rfl rfl trivial ?_
    refine w_gr (j := (t + 1 + 0)) rfl (mm_T_o hT) (mm_T_r hT (by decide)) mm_T_0 ?_
    refine w_st rfl rfl rfl trivial ?_
    refine w_ia (j) rfl (mm_T_a hT (by decide)) (by first | rfl | assumption | (simp only [← nI_add, ← nI_mul]; rfl)) (by first | decide | omega) ?_
    rw [(h j hj).1]
    refine w_st rfl rfl rfl trivial ?_
    refine w_v_eq rfl (fun c => ?_) (fun c => ?_)
    · rw [sp_if_f (fun z => z.1 c)] at e
      refine w_inc rfl rfl rfl (Nat.le_of_ble_eq_true rfl) (nI_1 _) ?_
      refine w_st rfl rfl rfl trivial ?_
      rw [e] at ih; exact ih
    · skip
      refine w_st rfl rfl rfl trivial ?_
      refine w_st rfl rfl rfl trivial ?_
      refine w_gr (j := (t + 1 + 0)) rfl (mm_T_o hT) (mm_T_r hT (by decide)) mm_T_0 ?_
      refine w_st rfl rfl rfl trivial ?_
      refine w_ia (j) rfl (mm_T_a hT (by decide)) (by first | rfl | assumption | (simp only [← nI_add, ← nI_mul]; rfl)) (by first | decide | omega) ?_
      rw [(h j hj).1]
      obtain ⟨k, hk, hr⟩ := (sp_row_k (b := b) (s := s) hj).resolve_left c
      rw [hr] at e ⊢
      rw [nI_clamp (by omega)] at e
      refine w_k21 (c_lampsOf hj hk) rfl ⟨rfl, by decide, by decide, by decide, Or.inr (Or.inl ⟨_, rfl⟩)⟩ (Nat.le_of_ble_eq_true rfl) trivial (Nat.le_of_ble_eq_true rfl) ?_  -- calls 13 cX2_lampsOf
      refine w_st rfl rfl rfl trivial ?_
      refine w_k21 (c_has) rfl ⟨rfl, by decide, by decide, by decide, Or.inr (Or.inl ⟨_, rfl⟩)⟩ (Nat.le_of_ble_eq_true rfl) trivial (Nat.le_of_ble_eq_true rfl) ?_  -- calls 50 cX4_has
      refine w_b_eq rfl (fun c2 => ?_) (fun c2 => ?_)
      · rw [sp_if_f (fun z => c2 z.2)] at e
        refine w_inc rfl rfl rfl (Nat.le_of_ble_eq_true rfl) (nI_1 _) ?_
        refine w_st rfl rfl rfl trivial ?_
        rw [e] at ih; exact ih
      · rw [sp_if_t ⟨nI_ne1 (by omega), c2⟩] at e
        refine w_inc rfl rfl rfl (Nat.le_of_ble_eq_true rfl) (nI_1 _) ?_
        refine w_inc rfl rfl rfl (Nat.le_of_ble_eq_true rfl) (nI_1 _) ?_
        refine w_st rfl rfl rfl trivial ?_
        rw [e] at ih; exact ih
theorem c_changesFrom (hT : mm_T t) (hU : mm_T u) (h : sp_tt I t b s) (h' : sp_tt I u b' s') : mm_M 23 4 [.ref t, .ref u] g I (some (.int (nI (sp_cg (sp_row b s) (sp_row b' s') 10)))) I := by
  refine w_M ?_
  show mm_W 23 0 [.ref t, .ref u, .null, .null] [] _ _ _
  generalize hF : mm_EX _ _ _ = F
  refine w_st rfl rfl rfl trivial ?_
  refine w_st rfl rfl rfl (Nat.le_of_ble_eq_true rfl) ?_
  refine w_st rfl rfl rfl trivial ?_
  refine w_st rfl rfl rfl (Nat.le_of_ble_eq_true rfl) ?_
  refine mm_dn (P := fun j => mm_W 23 4 [.ref t, .ref u, .int (nI (sp_cg (sp_row b s) (sp_row b' s') j)), .int (nI j)] [] g I F) (10) ?_ ?_ 0 (by first | decide | omega)
  · try dsimp only
    refine w_st rfl rfl rfl trivial ?_
    refine w_st rfl rfl rfl trivial ?_
    refine w_n_ge (a := 10) (b := 10) rfl (by first | decide | omega) (by first | decide | omega) (by first | rfl | assumption | (simp only [← nI_add, ← nI_mul]; rfl)) (by first | rfl | assumption | (simp only [← nI_add, ← nI_mul]; rfl)) (fun _ => ?_) (fun c => by exfalso; omega)
    refine w_st rfl rfl rfl trivial ?_
    refine w_reti rfl ?_
    exact hF ▸ mm_EX_i (rfl)
  · intro j hj ih
    try dsimp only at ih ⊢
    have e : sp_cg (sp_row b s) (sp_row b' s') (j + 1) = sp_cg (sp_row b s) (sp_row b' s') j + sp_if (sp_row b s j = sp_row b' s' j) 0 1 := rfl
    refine w_st rfl rfl rfl trivial ?_
    refine w_st rfl rfl rfl trivial ?_
    refine w_n_ge (a := j) (b := 10) rfl (by first | decide | omega) (by first | decide | omega) (by first | rfl | assumption | (simp only [← nI_add, ← nI_mul]; rfl)) (by first | rfl | assumption | (simp only [← nI_add, ← nI_mul]; rfl)) (fun c => by exfalso; omega) (fun _ => ?_)
    refine w_st rfl rfl rfl trivial ?_
    refine w_st rfl rfl rfl trivial ?_
    refine w_gr (j := (t + 1 + 0)) rfl (mm_T_o hT) (mm_T_r hT (by decide)) mm_T_0 ?_
    refine w_st rfl rfl rfl trivial ?_
    refine w_ia (j) rfl (mm_T_a hT (by decide)) (by first | rfl | assumption | (simp only [← nI_add, ← nI_mul]; rfl)) (by first | decide | omega) ?_
    refine w_st rfl rfl rfl trivial ?_
    refine w_gr (j := (u + 1 + 0)) rfl (mm_T_o hU) (mm_T_r hU (by decide)) mm_T_0 ?_
    refine w_st rfl rfl rfl trivial ?_
    refine w_ia (j) rfl (mm_T_a hU (by decide)) (by first | rfl | assumption | (simp only [← nI_add, ← nI_mul]; rfl)) (by first | decide | omega) ?_
    rw [(h j hj).1, (h' j hj).1]
    refine w_v_ne rfl (fun c => ?_) (fun c => ?_)
    · rw [sp_if_f c] at e
      refine w_st rfl rfl rfl trivial ?_
      refine w_iadd rfl ?_
      refine w_hd (nI_1 _) ?_
      refine w_st rfl rfl rfl (Nat.le_of_ble_eq_true rfl) ?_
      refine w_inc rfl rfl rfl (Nat.le_of_ble_eq_true rfl) (nI_1 _) ?_
      refine w_st rfl rfl rfl trivial ?_
      rw [e] at ih; exact ih
    · rw [sp_if_t c] at e
      refine w_st rfl rfl rfl trivial ?_
      refine w_st rfl rfl rfl trivial ?_
      refine w_iadd rfl ?_
      refine w_hd (nI_add _ 0) ?_
      refine w_st rfl rfl rfl (Nat.le_of_ble_eq_true rfl) ?_
      refine w_inc rfl rfl rfl (Nat.le_of_ble_eq_true rfl) (nI_1 _) ?_
      refine w_st rfl rfl rfl trivial ?_
      rw [e] at ih; exact ih
theorem c_nearestTo (hT : mm_T t) (h : sp_tt I t b s) : mm_M 24 6 [.ref t, .int L] g I (some (.int (sp_nr (sp_row b s) b L 10).1)) I := by
  refine w_M ?_
  show mm_W 24 0 [.ref t, .int L, .null, .null, .null, .null] [] _ _ _
  generalize hF : mm_EX _ _ _ = F
  refine w_st rfl rfl rfl trivial ?_
  refine w_st rfl rfl rfl (Nat.le_of_ble_eq_true rfl) ?_
  refine w_st rfl rfl rfl trivial ?_
  refine w_st rfl rfl rfl (Nat.le_of_ble_eq_true rfl) ?_
  refine w_st rfl rfl rfl trivial ?_
  refine w_st rfl rfl rfl (Nat.le_of_ble_eq_true rfl) ?_
  have K : ∀ j, j ≤ 10 → ∀ v, mm_W 24 8 [.ref t, .int L, .int (sp_nr (sp_row b s) b L j).1, .int (sp_nr (sp_row b s) b L j).2, .int (nI j), v] [] g I F := by
    refine mm_dn 10 ?_ ?_
    · intro v
      refine w_st rfl rfl rfl trivial ?_
      refine w_st rfl rfl rfl trivial ?_
      refine w_n_ge (a := 10) (b := 10) rfl (by first | decide | omega) (by first | decide | omega) (by first | rfl | assumption | (simp only [← nI_add, ← nI_mul]; rfl)) (by first | rfl | assumption | (simp only [← nI_add, ← nI_mul]; rfl)) (fun _ => ?_) (fun c => by exfalso; omega)
      refine w_st rfl rfl rfl trivial ?_
      refine w_reti rfl ?_
      exact hF ▸ mm_EX_i (rfl)
    · intro j hj ih v
      have e : sp_nr (sp_row b s) b L (j + 1) = sp_if (sp_row b s j = -1) (sp_nr (sp_row b s) b L j) (sp_if (sp_pop (L ^^^ sp_sh b j (sp_row b s j)) < (sp_nr (sp_row b s) b L j).2) (nI j, sp_pop (L ^^^ sp_sh b j (sp_row b s j))) (sp_if (sp_pop (L ^^^ sp_sh b j (sp_row b s j)) = (sp_nr (sp_row b s) b L j).2) (-1, (sp_nr (sp_row b s) b L j).2) (sp_nr (sp_row b s) b L j))) := rfl
      refine w_st rfl rfl rfl trivial ?_
      refine w_st rfl rfl rfl trivial ?_
      refine w_n_ge (a := j) (b := 10) rfl (by first | decide | omega) (by first | decide | omega) (by first | rfl | assumption | (simp only [← nI_add, ← nI_mul]; rfl)) (by first | rfl | assumption | (simp only [← nI_add, ← nI_mul]; rfl)) (fun c => by exfalso; omega) (fun _ => ?_)
      refine w_st rfl rfl rfl trivial ?_
      refine w_gr (j := (t + 1 + 0)) rfl (mm_T_o hT) (mm_T_r hT (by decide)) mm_T_0 ?_
      refine w_st rfl rfl rfl trivial ?_
      refine w_ia (j) rfl (mm_T_a hT (by decide)) (by first | rfl | assumption | (simp only [← nI_add, ← nI_mul]; rfl)) (by first | decide | omega) ?_
      rw [(h j hj).1]
      refine w_st rfl rfl rfl trivial ?_
      refine w_v_ne rfl (fun c1 => ?_) (fun c1 => ?_)
      · rw [sp_if_f c1] at e
        refine w_st rfl rfl rfl trivial ?_
        refine w_st rfl rfl rfl trivial ?_
        refine w_gr (j := (t + 1 + 1)) rfl (mm_T_o hT) (mm_T_r hT (by decide)) mm_T_0 ?_
        refine w_st rfl rfl rfl trivial ?_
        refine w_ia (j) rfl (mm_T_a hT (by decide)) (by first | rfl | assumption | (simp only [← nI_add, ← nI_mul]; rfl)) (by first | decide | omega) ?_
        refine w_ixor rfl ?_
        refine w_k11 (c_bitCount) rfl ⟨rfl, by decide, by decide, by decide, Or.inr (Or.inl ⟨_, rfl⟩)⟩ (Nat.le_of_ble_eq_true rfl) trivial (Nat.le_of_ble_eq_true rfl) ?_  -- calls 67 cJ6_bitCount_0f7a4
        rw [((h j hj).2 c1).1]
        refine w_st rfl rfl rfl (Nat.le_of_ble_eq_true rfl) ?_
        refine w_st rfl rfl rfl trivial ?_
        refine w_st rfl rfl rfl trivial ?_
        refine w_v_ge rfl (fun c2 => ?_) (fun c2 => ?_)
        · rw [sp_if_f (Int32.not_lt.2 c2)] at e
          refine w_st rfl rfl rfl trivial ?_
          refine w_st rfl rfl rfl trivial ?_
          refine w_v_ne rfl (fun c3 => ?_) (fun c3 => ?_)
          · rw [sp_if_f c3] at e
            rw [e] at ih
            refine w_inc rfl rfl rfl (Nat.le_of_ble_eq_true rfl) (nI_1 _) ?_
            refine w_st rfl rfl rfl trivial ?_
            exact ih _
          · rw [sp_if_t c3] at e
            rw [e] at ih
            refine w_st rfl rfl rfl trivial ?_
            refine w_st rfl rfl rfl (Nat.le_of_ble_eq_true rfl) ?_
            refine w_inc rfl rfl rfl (Nat.le_of_ble_eq_true rfl) (nI_1 _) ?_
            refine w_st rfl rfl rfl trivial ?_
            exact ih _
        · rw [sp_if_t (Int32.not_le.1 c2)] at e
          rw [e] at ih
          refine w_st rfl rfl rfl trivial ?_
          refine w_st rfl rfl rfl (Nat.le_of_ble_eq_true rfl) ?_
          refine w_st rfl rfl rfl trivial ?_
          refine w_st rfl rfl rfl (Nat.le_of_ble_eq_true rfl) ?_
          refine w_st rfl rfl rfl trivial ?_
          refine w_inc rfl rfl rfl (Nat.le_of_ble_eq_true rfl) (nI_1 _) ?_
          refine w_st rfl rfl rfl trivial ?_
          exact ih _
      · rw [sp_if_t c1] at e
        rw [e] at ih
        refine w_st rfl rfl rfl trivial ?_
        refine w_inc rfl rfl rfl (Nat.le_of_ble_eq_true rfl) (nI_1 _) ?_
        refine w_st rfl rfl rfl trivial ?_
        exact ih _
  exact K 0 (by decide) .null
end SM
