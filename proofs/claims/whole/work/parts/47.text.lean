/-! the buffer, on both sides; the class's way to read it -/
theorem sp_i2c : ∀ c, c < 127 → ((nI c).toUInt32 % 65536).toInt32 = nI c := by decide +kernel
theorem sp_chr : ∀ c, c < 127 → vp_nar .char (nI c) = nI c := by decide +kernel
/-- a character that may be in a text -/
def sp_c33 (x : Int32) : Prop := ∃ c, 33 ≤ c ∧ c ≤ 126 ∧ x = nI c
def sp_tk (m : Nat) (tx : Nat → Int32) : Prop := ∀ i, i < m → sp_c33 (tx i)
theorem sp_in_n {a b : Nat} {x y z : Int32} (hb : b + 1 < 2 ^ 31) (ha : a ≤ b) (hy : y = nI a) (hz : z = nI b) : (y ≤ x ∧ x ≤ z) ↔ ∃ c, a ≤ c ∧ c ≤ b ∧ x = nI c := by
  subst hy hz
  constructor
  · rintro ⟨h1, h2⟩
    have h0 : 0 ≤ x := Int32.le_trans (nI_le (a := 0) (Nat.zero_le a) (by omega)) h1
    obtain ⟨c, hc, rfl⟩ := sp_le_i (n := b) (x := x) (y := nI b) hb rfl h0 h2
    exact ⟨c, (nI_leI (by omega) (by omega)).1 h1, by omega, rfl⟩
  · rintro ⟨c, h1, h2, rfl⟩
    exact ⟨nI_le h1 (by omega), nI_le h2 (by omega)⟩
def sp_isF (x : Int32) : Prop := ∃ c, 48 ≤ c ∧ c ≤ 51 ∧ x = nI c
def sp_isA (x : Int32) : Prop := x = nI 45 ∨ x = nI 43
def sp_isL (x : Int32) : Prop := ∃ c, 97 ≤ c ∧ c ≤ 111 ∧ x = nI c
/-- what may come next: 0 a field, 1 an action, 2 a letter, 3 a letter or a part, 4 nothing -/
noncomputable def sp_nx (s : Nat) (x : Int32) : Nat := sp_if (s = 0 ∧ sp_isF x) 1 (sp_if (s = 1 ∧ sp_isA x) 2 (sp_if ((s = 2 ∨ s = 3) ∧ sp_isL x) 3 (sp_if (s = 3 ∧ x = nI 59) 0 4)))
noncomputable def sp_rn (tx : Nat → Int32) : Nat → Nat
  | 0 => 0
  | i + 1 => sp_nx (sp_rn tx i) (tx i)
theorem sp_nx_le (s : Nat) (x : Int32) : sp_nx s x ≤ 4 := by
  unfold sp_nx
  by_cases a : s = 0 ∧ sp_isF x
  · rw [sp_if_t a]; decide
  · rw [sp_if_f a]
    by_cases b : s = 1 ∧ sp_isA x
    · rw [sp_if_t b]; decide
    · rw [sp_if_f b]
      by_cases c : (s = 2 ∨ s = 3) ∧ sp_isL x
      · rw [sp_if_t c]; decide
      · rw [sp_if_f c]
        by_cases d : s = 3 ∧ x = nI 59
        · rw [sp_if_t d]; decide
        · rw [sp_if_f d]; decide
theorem sp_nx4 (x : Int32) : sp_nx 4 x = 4 := by
  unfold sp_nx
  rw [sp_if_f (fun z => absurd z.1 (by decide)), sp_if_f (fun z => absurd z.1 (by decide)), sp_if_f (fun z => absurd z.1 (by decide)), sp_if_f (fun z => absurd z.1 (by decide))]
theorem sp_rn_le (tx : Nat → Int32) (i : Nat) : sp_rn tx i ≤ 4 := by
  cases i with
  | zero => exact Nat.zero_le _
  | succ i => exact sp_nx_le _ _
theorem sp_rn4 {tx : Nat → Int32} {i : Nat} (h : sp_rn tx i = 4) (k : Nat) : sp_rn tx (i + k) = 4 := by
  induction k with
  | zero => exact h
  | succ k ih => show sp_nx (sp_rn tx (i + k)) _ = 4; rw [ih, sp_nx4]
/-- the length of the text without an error, of the first n -/
noncomputable def sp_fe (tx : Nat → Int32) : Nat → Nat
  | 0 => 0
  | n + 1 => sp_if (sp_rn tx (n + 1) = 4) (sp_fe tx n) (n + 1)
theorem sp_fe_ok {tx : Nat → Int32} {n : Nat} (h : ¬ sp_rn tx n = 4) : sp_fe tx n = n := by
  cases n with
  | zero => rfl
  | succ n => exact sp_if_f h _ _
theorem sp_fe_at {tx : Nat → Int32} {i : Nat} (h : ¬ sp_rn tx i = 4) (h4 : sp_rn tx (i + 1) = 4) (k : Nat) : sp_fe tx (i + 1 + k) = i := by
  induction k with
  | zero =>
    show sp_if _ (sp_fe tx i) _ = i
    rw [sp_if_t h4, sp_fe_ok h]
  | succ k ih =>
    have e : sp_fe tx (i + 1 + (k + 1)) = sp_if (sp_rn tx (i + 1 + (k + 1)) = 4) (sp_fe tx (i + 1 + k)) (i + 1 + (k + 1)) := rfl
    rw [e, sp_if_t (sp_rn4 h4 (k + 1)), ih]
section SM
variable {g : mm_Gg} {I : mm_Is} {x y z : Int32} {l d k t u f w n b o m N c s : Nat} {σ τ : sp_St} {ps : Nat → sp_St} {tx : Nat → Int32}
theorem c_isFull (h : sp_X I m tx) : mm_M 26 1 [.ref 11] g I (some (.int (mm_bi (60 ≤ m)))) I := by
  have hm := h.2.1
  refine w_M ?_
  show mm_W 26 0 [.ref 11] [] _ _ _
  generalize hF : mm_EX _ _ _ = F
  refine w_st rfl rfl rfl trivial ?_
  refine w_gi rfl (mm_foc rfl) ?_
  rw [h.1]
  refine w_st rfl rfl rfl trivial ?_
  refine w_n_lt (a := m) (b := 60) rfl (by first | decide | omega) (by first | decide | omega) (by first | rfl | assumption | (simp only [← nI_add, ← nI_mul]; rfl)) (by first | rfl | assumption | (simp only [← nI_add, ← nI_mul]; rfl)) (fun c => ?_) (fun c => ?_)
  · skip
    refine w_st rfl rfl rfl trivial ?_
    refine w_retz rfl (by first | exact Or.inl rfl | exact Or.inr rfl | exact mm_bi_01 _ | assumption) ?_
    exact hF ▸ mm_EX_i ((mm_bi_f (by omega)).symm)
  · skip
    refine w_st rfl rfl rfl trivial ?_
    refine w_st rfl rfl rfl trivial ?_
    refine w_retz rfl (by first | exact Or.inl rfl | exact Or.inr rfl | exact mm_bi_01 _ | assumption) ?_
    exact hF ▸ mm_EX_i ((mm_bi_t c).symm)
theorem c_put (h : sp_X I m tx) (hm : m < 60) (hc : c < 127) : ∃ I', mm_M 27 2 [.ref 11, .int (nI c)] g I none I' ∧ (sp_X I' (m + 1) (upd tx m (nI c)) ∧ ∀ p, ¬ p = 11 → ¬ p = 12 → I' p = I p) := by
  refine w_MX ?_
  show mm_W 27 0 [.ref 11, .int (nI c)] [] _ _ _
  generalize hF : mm_EQ _ _ _ = F
  refine w_st rfl rfl rfl trivial ?_
  refine w_k11 (c_isFull h) rfl ⟨rfl, by decide, by decide, by decide, Or.inl ⟨_, rfl⟩⟩ (Nat.le_of_ble_eq_true rfl) (mm_foc rfl) (Nat.le_of_ble_eq_true rfl) ?_  -- calls 26 cX3_isFull
  refine w_b_ne rfl (fun z => absurd z (by omega)) (fun _ => ?_)
  refine w_st rfl rfl rfl trivial ?_
  refine w_gr (j := 12) rfl (mm_foc rfl) rfl (by decide) ?_
  refine w_st rfl rfl rfl trivial ?_
  refine w_gi rfl (mm_foc rfl) ?_
  rw [h.1]
  refine w_st rfl rfl rfl trivial ?_
  refine w_cs (m) rfl (mm_fac (n := 60) rfl) (by first | rfl | assumption | (simp only [← nI_add, ← nI_mul]; rfl)) (by first | decide | omega) (sp_chr c hc) ?_
  refine w_st rfl rfl rfl trivial ?_
  refine w_st rfl rfl rfl trivial ?_
  refine w_gi rfl (mm_foc rfl) ?_
  refine w_st rfl rfl rfl trivial ?_
  refine w_iadd rfl ?_
  refine w_hd (show va_up I 12 (upd (I 12) m (nI c)) 11 1 + 1 = nI (m + 1) from by rw [va_up_ne _ _ (by decide), h.1]; exact nI_1 m) ?_
  refine w_pi rfl (mm_foc rfl) ?_
  refine w_retv rfl ?_
  subst hF
  refine ⟨rfl, rfl, ?_⟩
  refine ⟨⟨mm_uu, by omega, fun i hi => ?_⟩, fun p a b => ?_⟩
  · rw [mm_un (Or.inl (by decide))]
    by_cases e : i = m
    · subst e; rw [mm_uu, upd_s]
    · rw [mm_un (Or.inr e), upd_n e]; exact h.2.2 i (by omega)
  · rw [va_up_ne _ _ a, va_up_ne _ _ b]
theorem c_empty : mm_M 28 1 [.ref 11] g I none (va_up I 11 (upd (I 11) 1 0)) := by
  refine w_M ?_
  show mm_W 28 0 [.ref 11] [] _ _ _
  generalize hF : mm_EX _ _ _ = F
  refine w_st rfl rfl rfl trivial ?_
  refine w_st rfl rfl rfl trivial ?_
  refine w_pi rfl (mm_foc rfl) ?_
  refine w_retv rfl ?_
  exact hF ▸ ⟨rfl, rfl, rfl⟩
theorem c_append_1 (h1 : ¬ sp_c33 x) : mm_TH 43 2 [.ref 0, .int x] g I 2 := by
  refine w_MT ?_
  show mm_W 43 0 [.ref 0, .int x] [] _ _ _
  generalize hF : mm_TX _ _ _ = F
  refine w_st rfl rfl rfl trivial ?_
  refine w_st rfl rfl rfl trivial ?_
  refine w_v_lt rfl (fun c1 => ?_) (fun c1 => ?_)
  · skip
    refine w_thr rfl (Nat.le_of_ble_eq_true rfl) ?_
    exact hF ▸ ⟨rfl, rfl, rfl⟩
  · skip
    refine w_st rfl rfl rfl trivial ?_
    refine w_st rfl rfl rfl trivial ?_
    refine w_v_le rfl (fun z => by first | exact absurd z (fun c2 => h1 ((sp_in_n (a := 33) (b := 126) (by decide) (by decide) rfl rfl).1 ⟨Int32.not_lt.1 c1, c2⟩)) | exact absurd (fun c2 => h1 ((sp_in_n (a := 33) (b := 126) (by decide) (by decide) rfl rfl).1 ⟨Int32.not_lt.1 c1, c2⟩)) z) (fun _ => ?_)
    refine w_thr rfl (Nat.le_of_ble_eq_true rfl) ?_
    exact hF ▸ ⟨rfl, rfl, rfl⟩
theorem c_append_2 (h : sp_X I 60 tx) (h1 : sp_c33 x) : mm_TH 43 2 [.ref 0, .int x] g I 3 := by
  obtain ⟨c, h33, h126, rfl⟩ := h1
  refine w_MT ?_
  show mm_W 43 0 [.ref 0, .int (nI c)] [] _ _ _
  generalize hF : mm_TX _ _ _ = F
  refine w_st rfl rfl rfl trivial ?_
  refine w_st rfl rfl rfl trivial ?_
  refine w_n_lt (a := c) (b := 33) rfl (by first | decide | omega) (by first | decide | omega) (by first | rfl | assumption | (simp only [← nI_add, ← nI_mul]; rfl)) (by first | rfl | assumption | (simp only [← nI_add, ← nI_mul]; rfl)) (fun c => by exfalso; omega) (fun _ => ?_)
  refine w_st rfl rfl rfl trivial ?_
  refine w_st rfl rfl rfl trivial ?_
  refine w_n_le (a := c) (b := 126) rfl (by first | decide | omega) (by first | decide | omega) (by first | rfl | assumption | (simp only [← nI_add, ← nI_mul]; rfl)) (by first | rfl | assumption | (simp only [← nI_add, ← nI_mul]; rfl)) (fun _ => ?_) (fun c => by exfalso; omega)
  refine w_st rfl rfl rfl trivial ?_
  refine w_gr (j := 11) rfl (mm_foc rfl) rfl (by decide) ?_
  refine w_k11 (c_isFull h) rfl ⟨rfl, by decide, by decide, by decide, Or.inl ⟨_, rfl⟩⟩ (Nat.le_of_ble_eq_true rfl) (mm_foc rfl) (Nat.le_of_ble_eq_true rfl) ?_  -- calls 26 cX3_isFull
  refine w_b_eq rfl (fun z => absurd (Nat.le_refl 60) z) (fun _ => ?_)
  refine w_thr rfl (Nat.le_of_ble_eq_true rfl) ?_
  exact hF ▸ ⟨rfl, rfl, rfl⟩
theorem c_append (h : sp_C I σ n ps m tx) (hm : m < 60) (h1 : 33 ≤ c) (h2 : c ≤ 126) : ∃ I', mm_M 43 2 [.ref 0, .int (nI c)] g I (some (.int (nI (m + 1)))) I' ∧ (sp_C I' σ n ps (m + 1) (upd tx m (nI c)) ∧ sp_cf I I') := by
  obtain ⟨I1, hM, hX, hf⟩ := c_put (g := g) h.2.2 hm (show c < 127 by omega)
  refine w_MX ?_
  show mm_W 43 0 [.ref 0, .int (nI c)] [] _ _ _
  generalize hF : mm_EQ _ _ _ = F
  refine w_st rfl rfl rfl trivial ?_
  refine w_st rfl rfl rfl trivial ?_
  refine w_n_lt (a := c) (b := 33) rfl (by first | decide | omega) (by first | decide | omega) (by first | rfl | assumption | (simp only [← nI_add, ← nI_mul]; rfl)) (by first | rfl | assumption | (simp only [← nI_add, ← nI_mul]; rfl)) (fun c => by exfalso; omega) (fun _ => ?_)
  refine w_st rfl rfl rfl trivial ?_
  refine w_st rfl rfl rfl trivial ?_
  refine w_n_le (a := c) (b := 126) rfl (by first | decide | omega) (by first | decide | omega) (by first | rfl | assumption | (simp only [← nI_add, ← nI_mul]; rfl)) (by first | rfl | assumption | (simp only [← nI_add, ← nI_mul]; rfl)) (fun _ => ?_) (fun c => by exfalso; omega)
  refine w_st rfl rfl rfl trivial ?_
  refine w_gr (j := 11) rfl (mm_foc rfl) rfl (by decide) ?_
  refine w_k11 (c_isFull h.2.2) rfl ⟨rfl, by decide, by decide, by decide, Or.inl ⟨_, rfl⟩⟩ (Nat.le_of_ble_eq_true rfl) (mm_foc rfl) (Nat.le_of_ble_eq_true rfl) ?_  -- calls 26 cX3_isFull
  refine w_b_eq rfl (fun _ => ?_) (fun z => absurd z (by omega))
  refine w_st rfl rfl rfl trivial ?_
  refine w_gr (j := 11) rfl (mm_foc rfl) rfl (by decide) ?_
  refine w_st rfl rfl rfl trivial ?_
  refine w_st rfl rfl rfl trivial ?_
  refine w_hd (sp_i2c c (by omega)) ?_
  refine w_k20 (hM) rfl ⟨rfl, by decide, by decide, by decide, Or.inl ⟨_, rfl⟩⟩ (Nat.le_of_ble_eq_true rfl) (mm_foc rfl) (Nat.le_of_ble_eq_true rfl) ?_  -- calls 27 cX3_put
  refine w_st rfl rfl rfl trivial ?_
  refine w_gr (j := 11) rfl (mm_foc rfl) rfl (by decide) ?_
  refine w_gi rfl (mm_foc rfl) ?_
  rw [hX.1]
  refine w_reti rfl ?_
  subst hF
  refine ⟨rfl, rfl, ?_⟩
  exact ⟨⟨sp_D_c (fun p hp => hf p (by omega) (by omega)) h.1, sp_H_c (fun p hp => hf p (by omega) (by omega)) h.2.1, hX⟩, fun p hp => hf p (by omega) (by omega)⟩
theorem sp_C_e (h : sp_C I σ n ps m tx) : sp_C (va_up I 11 (upd (I 11) 1 0)) σ n ps 0 tx ∧ sp_cf I (va_up I 11 (upd (I 11) 1 0)) :=
  ⟨⟨sp_D_c (fun p hp => va_up_ne _ _ (by omega)) h.1, sp_H_c (fun p hp => va_up_ne _ _ (by omega)) h.2.1, mm_uu, by decide, fun i hi => absurd hi (Nat.not_lt_zero _)⟩, fun p hp => va_up_ne _ _ (by omega)⟩
theorem c_clearBuffer (h : sp_C I σ n ps m tx) : ∃ I', mm_M 44 2 [.ref 0] g I (some (.int (nI m))) I' ∧ (sp_C I' σ n ps 0 tx ∧ sp_cf I I') := by
  refine w_MX ?_
  show mm_W 44 0 [.ref 0, .null] [] _ _ _
  generalize hF : mm_EQ _ _ _ = F
  refine w_st rfl rfl rfl trivial ?_
  refine w_gr (j := 11) rfl (mm_foc rfl) rfl (by decide) ?_
  refine w_gi rfl (mm_foc rfl) ?_
  rw [h.2.2.1]
  refine w_st rfl rfl rfl (Nat.le_of_ble_eq_true rfl) ?_
  refine w_st rfl rfl rfl trivial ?_
  refine w_gr (j := 11) rfl (mm_foc rfl) rfl (by decide) ?_
  refine w_k10 (c_empty) rfl ⟨rfl, by decide, by decide, by decide, Or.inl ⟨_, rfl⟩⟩ (Nat.le_of_ble_eq_true rfl) (mm_foc rfl) (Nat.le_of_ble_eq_true rfl) ?_  -- calls 28 cX3_empty
  refine w_st rfl rfl rfl trivial ?_
  refine w_reti rfl ?_
  exact hF ▸ ⟨rfl, rfl, sp_C_e h⟩
-- the automaton
theorem c_isFieldSign : mm_M 33 1 [.int x] g I (some (.int (mm_bi (sp_isF x)))) I := by
  refine w_M ?_
  show mm_W 33 0 [.int x] [] _ _ _
  generalize hF : mm_EX _ _ _ = F
  refine w_st rfl rfl rfl trivial ?_
  refine w_st rfl rfl rfl trivial ?_
  refine w_v_lt rfl (fun c1 => ?_) (fun c1 => ?_)
  · skip
    refine w_st rfl rfl rfl trivial ?_
    refine w_retz rfl (by first | exact Or.inl rfl | exact Or.inr rfl | exact mm_bi_01 _ | assumption) ?_
    exact hF ▸ mm_EX_i ((mm_bi_f (fun z => absurd ((sp_in_n (a := 48) (b := 51) (y := 48) (z := 51) (by decide) (by decide) rfl rfl).2 z).1 (Int32.not_le.2 c1))).symm)
  · skip
    refine w_st rfl rfl rfl trivial ?_
    refine w_st rfl rfl rfl trivial ?_
    refine w_v_gt rfl (fun c2 => ?_) (fun c2 => ?_)
    · skip
      refine w_st rfl rfl rfl trivial ?_
      refine w_retz rfl (by first | exact Or.inl rfl | exact Or.inr rfl | exact mm_bi_01 _ | assumption) ?_
      exact hF ▸ mm_EX_i ((mm_bi_f (fun z => absurd ((sp_in_n (a := 48) (b := 51) (y := 48) (z := 51) (by decide) (by decide) rfl rfl).2 z).2 (Int32.not_le.2 c2))).symm)
    · skip
      refine w_st rfl rfl rfl trivial ?_
      refine w_st rfl rfl rfl trivial ?_
      refine w_retz rfl (by first | exact Or.inl rfl | exact Or.inr rfl | exact mm_bi_01 _ | assumption) ?_
      exact hF ▸ mm_EX_i ((mm_bi_t ((sp_in_n (a := 48) (b := 51) (y := 48) (z := 51) (by decide) (by decide) rfl rfl).1 ⟨Int32.not_lt.1 c1, Int32.not_lt.1 c2⟩)).symm)
theorem c_isLetter : mm_M 35 1 [.int x] g I (some (.int (mm_bi (sp_isL x)))) I := by
  refine w_M ?_
  show mm_W 35 0 [.int x] [] _ _ _
  generalize hF : mm_EX _ _ _ = F
  refine w_st rfl rfl rfl trivial ?_
  refine w_st rfl rfl rfl trivial ?_
  refine w_v_lt rfl (fun c1 => ?_) (fun c1 => ?_)
  · skip
    refine w_st rfl rfl rfl trivial ?_
    refine w_retz rfl (by first | exact Or.inl rfl | exact Or.inr rfl | exact mm_bi_01 _ | assumption) ?_
    exact hF ▸ mm_EX_i ((mm_bi_f (fun z => absurd ((sp_in_n (a := 97) (b := 111) (y := 97) (z := 111) (by decide) (by decide) rfl rfl).2 z).1 (Int32.not_le.2 c1))).symm)
  · skip
    refine w_st rfl rfl rfl trivial ?_
    refine w_st rfl rfl rfl trivial ?_
    refine w_v_gt rfl (fun c2 => ?_) (fun c2 => ?_)
    · skip
      refine w_st rfl rfl rfl trivial ?_
      refine w_retz rfl (by first | exact Or.inl rfl | exact Or.inr rfl | exact mm_bi_01 _ | assumption) ?_
      exact hF ▸ mm_EX_i ((mm_bi_f (fun z => absurd ((sp_in_n (a := 97) (b := 111) (y := 97) (z := 111) (by decide) (by decide) rfl rfl).2 z).2 (Int32.not_le.2 c2))).symm)
    · skip
      refine w_st rfl rfl rfl trivial ?_
      refine w_st rfl rfl rfl trivial ?_
      refine w_retz rfl (by first | exact Or.inl rfl | exact Or.inr rfl | exact mm_bi_01 _ | assumption) ?_
      exact hF ▸ mm_EX_i ((mm_bi_t ((sp_in_n (a := 97) (b := 111) (y := 97) (z := 111) (by decide) (by decide) rfl rfl).1 ⟨Int32.not_lt.1 c1, Int32.not_lt.1 c2⟩)).symm)
theorem c_isAction : mm_M 34 1 [.int x] g I (some (.int (mm_bi (sp_isA x)))) I := by
  refine w_M ?_
  show mm_W 34 0 [.int x] [] _ _ _
  generalize hF : mm_EX _ _ _ = F
  refine w_st rfl rfl rfl trivial ?_
  refine w_st rfl rfl rfl trivial ?_
  refine w_v_eq rfl (fun c1 => ?_) (fun c1 => ?_)
  · skip
    refine w_st rfl rfl rfl trivial ?_
    refine w_st rfl rfl rfl trivial ?_
    refine w_retz rfl (by first | exact Or.inl rfl | exact Or.inr rfl | exact mm_bi_01 _ | assumption) ?_
    exact hF ▸ mm_EX_i ((mm_bi_t (Or.inl c1)).symm)
  · skip
    refine w_st rfl rfl rfl trivial ?_
    refine w_st rfl rfl rfl trivial ?_
    refine w_v_ne rfl (fun c2 => ?_) (fun c2 => ?_)
    · skip
      refine w_st rfl rfl rfl trivial ?_
      refine w_retz rfl (by first | exact Or.inl rfl | exact Or.inr rfl | exact mm_bi_01 _ | assumption) ?_
      exact hF ▸ mm_EX_i ((mm_bi_f (fun z => z.elim c1 c2)).symm)
    · skip
      refine w_st rfl rfl rfl trivial ?_
      refine w_st rfl rfl rfl trivial ?_
      refine w_retz rfl (by first | exact Or.inl rfl | exact Or.inr rfl | exact mm_bi_01 _ | assumption) ?_
      exact hF ▸ mm_EX_i ((mm_bi_t (Or.inr c2)).symm)
theorem c_nextAfter (hs : s ≤ 4) : mm_M 32 2 [.int (nI s), .int x] g I (some (.int (nI (sp_nx s x)))) I := by
  have e : sp_nx s x = sp_if (s = 0 ∧ sp_isF x) 1 (sp_if (s = 1 ∧ sp_isA x) 2 (sp_if ((s = 2 ∨ s = 3) ∧ sp_isL x) 3 (sp_if (s = 3 ∧ x = nI 59) 0 4))) := rfl
  refine w_M ?_
  show mm_W 32 0 [.int (nI s), .int x] [] _ _ _
  generalize hF : mm_EX _ _ _ = F
  have E4 : ¬ (s = 0 ∧ sp_isF x) → ¬ (s = 1 ∧ sp_isA x) → ¬ ((s = 2 ∨ s = 3) ∧ sp_isL x) → mm_W 32 46 [.int (nI s), .int x] [] g I F := by
    intro a1 a2 a3
    rw [sp_if_f a1, sp_if_f a2, sp_if_f a3] at e
    rw [e] at hF
    refine w_st rfl rfl rfl trivial ?_
    refine w_st rfl rfl rfl trivial ?_
    refine w_n_ne (a := s) (b := 3) rfl (by first | decide | omega) (by first | decide | omega) (by first | rfl | assumption | (simp only [← nI_add, ← nI_mul]; rfl)) (by first | rfl | assumption | (simp only [← nI_add, ← nI_mul]; rfl)) (fun c1 => ?_) (fun c1 => ?_)
    · rw [sp_if_f (fun z => c1 z.1)] at hF
      refine w_st rfl rfl rfl trivial ?_
      refine w_reti rfl ?_
      exact hF ▸ mm_EX_i (rfl)
    · skip
      refine w_st rfl rfl rfl trivial ?_
      refine w_st rfl rfl rfl trivial ?_
      refine w_v_ne rfl (fun c2 => ?_) (fun c2 => ?_)
      · rw [sp_if_f (fun z => c2 z.2)] at hF
        refine w_st rfl rfl rfl trivial ?_
        refine w_reti rfl ?_
        exact hF ▸ mm_EX_i (rfl)
      · rw [sp_if_t ⟨c1, c2⟩] at hF
        refine w_st rfl rfl rfl trivial ?_
        refine w_st rfl rfl rfl trivial ?_
        refine w_reti rfl ?_
        exact hF ▸ mm_EX_i (rfl)
  have E3 : ¬ (s = 0 ∧ sp_isF x) → ¬ (s = 1 ∧ sp_isA x) → mm_W 32 27 [.int (nI s), .int x] [] g I F := by
    intro a1 a2
    have L : (s = 2 ∨ s = 3) → mm_W 32 37 [.int (nI s), .int x] [] g I F := by
      intro h23
      refine w_st rfl rfl rfl trivial ?_
      refine w_k11 (c_isLetter) rfl ⟨rfl, by decide, by decide, by decide, Or.inr (Or.inl ⟨_, rfl⟩)⟩ (Nat.le_of_ble_eq_true rfl) trivial (Nat.le_of_ble_eq_true rfl) ?_  -- calls 35 cX3_isLetter
      refine w_b_eq rfl (fun c2 => ?_) (fun c2 => ?_)
      · exact E4 a1 a2 (fun z => c2 z.2)
      · rw [sp_if_f a1, sp_if_f a2, sp_if_t ⟨h23, c2⟩] at e
        rw [e] at hF
        refine w_st rfl rfl rfl trivial ?_
        refine w_reti rfl ?_
        exact hF ▸ mm_EX_i (rfl)
    refine w_st rfl rfl rfl trivial ?_
    refine w_st rfl rfl rfl trivial ?_
    refine w_n_eq (a := s) (b := 2) rfl (by first | decide | omega) (by first | decide | omega) (by first | rfl | assumption | (simp only [← nI_add, ← nI_mul]; rfl)) (by first | rfl | assumption | (simp only [← nI_add, ← nI_mul]; rfl)) (fun c1 => ?_) (fun c1 => ?_)
    · exact L (Or.inl c1)
    · skip
      refine w_st rfl rfl rfl trivial ?_
      refine w_st rfl rfl rfl trivial ?_
      refine w_n_ne (a := s) (b := 3) rfl (by first | decide | omega) (by first | decide | omega) (by first | rfl | assumption | (simp only [← nI_add, ← nI_mul]; rfl)) (by first | rfl | assumption | (simp only [← nI_add, ← nI_mul]; rfl)) (fun c2 => ?_) (fun c2 => ?_)
      · exact E4 a1 a2 (fun z => z.1.elim c1 c2)
      · exact L (Or.inr c2)
  have E2 : ¬ (s = 0 ∧ sp_isF x) → mm_W 32 13 [.int (nI s), .int x] [] g I F := by
    intro a1
    refine w_st rfl rfl rfl trivial ?_
    refine w_st rfl rfl rfl trivial ?_
    refine w_n_ne (a := s) (b := 1) rfl (by first | decide | omega) (by first | decide | omega) (by first | rfl | assumption | (simp only [← nI_add, ← nI_mul]; rfl)) (by first | rfl | assumption | (simp only [← nI_add, ← nI_mul]; rfl)) (fun c1 => ?_) (fun c1 => ?_)
    · exact E3 a1 (fun z => c1 z.1)
    · skip
      refine w_st rfl rfl rfl trivial ?_
      refine w_k11 (c_isAction) rfl ⟨rfl, by decide, by decide, by decide, Or.inr (Or.inl ⟨_, rfl⟩)⟩ (Nat.le_of_ble_eq_true rfl) trivial (Nat.le_of_ble_eq_true rfl) ?_  -- calls 34 cX3_isAction
      refine w_b_eq rfl (fun c2 => ?_) (fun c2 => ?_)
      · exact E3 a1 (fun z => c2 z.2)
      · rw [sp_if_f a1, sp_if_t ⟨c1, c2⟩] at e
        rw [e] at hF
        refine w_st rfl rfl rfl trivial ?_
        refine w_reti rfl ?_
        exact hF ▸ mm_EX_i (rfl)
  refine w_st rfl rfl rfl trivial ?_
  refine w_m_ne (a := s) rfl (by first | decide | omega) (by first | rfl | assumption | (simp only [← nI_add, ← nI_mul]; rfl)) (fun c1 => ?_) (fun c1 => ?_)
  · exact E2 (fun z => by omega)
  · skip
    refine w_st rfl rfl rfl trivial ?_
    refine w_k11 (c_isFieldSign) rfl ⟨rfl, by decide, by decide, by decide, Or.inr (Or.inl ⟨_, rfl⟩)⟩ (Nat.le_of_ble_eq_true rfl) trivial (Nat.le_of_ble_eq_true rfl) ?_  -- calls 33 cX3_isFieldSign
    refine w_b_eq rfl (fun c2 => ?_) (fun c2 => ?_)
    · exact E2 (fun z => c2 z.2)
    · rw [sp_if_t ⟨c1, c2⟩] at e
      rw [e] at hF
      refine w_st rfl rfl rfl trivial ?_
      refine w_reti rfl ?_
      exact hF ▸ mm_EX_i (rfl)
theorem c_lengthWithoutError (h : sp_X I m tx) : mm_M 30 3 [.ref 11] g I (some (.int (nI (sp_fe tx m)))) I := by
  have hm := h.2.1
  refine w_M ?_
  show mm_W 30 0 [.ref 11, .null, .null] [] _ _ _
  generalize hF : mm_EX _ _ _ = F
  refine w_st rfl rfl rfl trivial ?_
  refine w_st rfl rfl rfl (Nat.le_of_ble_eq_true rfl) ?_
  refine w_st rfl rfl rfl trivial ?_
  refine w_st rfl rfl rfl (Nat.le_of_ble_eq_true rfl) ?_
  have K : ∀ i, i ≤ m → ¬ sp_rn tx i = 4 → mm_W 30 4 [.ref 11, .int (nI (sp_rn tx i)), .int (nI i)] [] g I F := by
    refine mm_dn m ?_ ?_
    · intro h4
      rw [sp_fe_ok h4] at hF
      refine w_st rfl rfl rfl trivial ?_
      refine w_st rfl rfl rfl trivial ?_
      refine w_gi rfl (mm_foc rfl) ?_
      rw [h.1]
      refine w_n_ge (a := m) (b := m) rfl (by first | decide | omega) (by first | decide | omega) (by first | rfl | assumption | (simp only [← nI_add, ← nI_mul]; rfl)) (by first | rfl | assumption | (simp only [← nI_add, ← nI_mul]; rfl)) (fun _ => ?_) (fun c => by exfalso; omega)
      refine w_st rfl rfl rfl trivial ?_
      refine w_gi rfl (mm_foc rfl) ?_
      refine w_reti rfl ?_
      exact hF ▸ mm_EX_i (h.1)
    · intro i hi ih h4
      have hle := sp_rn_le tx i
      have hle2 := sp_rn_le tx (i + 1)
      refine w_st rfl rfl rfl trivial ?_
      refine w_st rfl rfl rfl trivial ?_
      refine w_gi rfl (mm_foc rfl) ?_
      rw [h.1]
      refine w_n_ge (a := i) (b := m) rfl (by first | decide | omega) (by first | decide | omega) (by first | rfl | assumption | (simp only [← nI_add, ← nI_mul]; rfl)) (by first | rfl | assumption | (simp only [← nI_add, ← nI_mul]; rfl)) (fun c => by exfalso; omega) (fun _ => ?_)
      refine w_st rfl rfl rfl trivial ?_
      refine w_st rfl rfl rfl trivial ?_
      refine w_gr (j := 12) rfl (mm_foc rfl) rfl (by decide) ?_
      refine w_st rfl rfl rfl trivial ?_
      refine w_ca (i) rfl (mm_fac (n := 60) rfl) (by first | rfl | assumption | (simp only [← nI_add, ← nI_mul]; rfl)) (by first | decide | omega) ?_
      rw [h.2.2 i hi]
      refine w_k21 (c_nextAfter hle) rfl ⟨rfl, by decide, by decide, by decide, Or.inr (Or.inl ⟨_, rfl⟩)⟩ (Nat.le_of_ble_eq_true rfl) trivial (Nat.le_of_ble_eq_true rfl) ?_  -- calls 32 cX3_nextAfter
      refine w_st rfl rfl rfl (Nat.le_of_ble_eq_true rfl) ?_
      refine w_st rfl rfl rfl trivial ?_
      refine w_st rfl rfl rfl trivial ?_
      refine w_n_ne (a := sp_rn tx (i + 1)) (b := 4) rfl (by first | decide | omega) (by first | decide | omega) (by first | rfl | assumption | (simp only [← nI_add, ← nI_mul]; rfl)) (by first | rfl | assumption | (simp only [← nI_add, ← nI_mul]; rfl)) (fun c => ?_) (fun c => ?_)
      · skip
        refine w_inc rfl rfl rfl (Nat.le_of_ble_eq_true rfl) (nI_1 _) ?_
        refine w_st rfl rfl rfl trivial ?_
        exact ih c
      · obtain ⟨k, rfl⟩ : ∃ k, m = i + 1 + k := ⟨m - (i + 1), by omega⟩
        rw [sp_fe_at h4 c] at hF
        refine w_st rfl rfl rfl trivial ?_
        refine w_reti rfl ?_
        exact hF ▸ mm_EX_i (rfl)
  exact K 0 (Nat.zero_le _) (show ¬ 0 = 4 by decide)
theorem c_isComplete (h : sp_X I m tx) : mm_M 31 3 [.ref 11] g I (some (.int (mm_bi (sp_rn tx m = 3)))) I := by
  have hm := h.2.1
  refine w_M ?_
  show mm_W 31 0 [.ref 11, .null, .null] [] _ _ _
  generalize hF : mm_EX _ _ _ = F
  refine w_st rfl rfl rfl trivial ?_
  refine w_st rfl rfl rfl (Nat.le_of_ble_eq_true rfl) ?_
  refine w_st rfl rfl rfl trivial ?_
  refine w_st rfl rfl rfl (Nat.le_of_ble_eq_true rfl) ?_
  have K : ∀ i, i ≤ m → mm_W 31 4 [.ref 11, .int (nI (sp_rn tx i)), .int (nI i)] [] g I F := by
    refine mm_dn m ?_ ?_
    · have hle := sp_rn_le tx m
      refine w_st rfl rfl rfl trivial ?_
      refine w_st rfl rfl rfl trivial ?_
      refine w_gi rfl (mm_foc rfl) ?_
      rw [h.1]
      refine w_n_ge (a := m) (b := m) rfl (by first | decide | omega) (by first | decide | omega) (by first | rfl | assumption | (simp only [← nI_add, ← nI_mul]; rfl)) (by first | rfl | assumption | (simp only [← nI_add, ← nI_mul]; rfl)) (fun _ => ?_) (fun c => by exfalso; omega)
      refine w_st rfl rfl rfl trivial ?_
      refine w_st rfl rfl rfl trivial ?_
      refine w_n_ne (a := sp_rn tx m) (b := 3) rfl (by first | decide | omega) (by first | decide | omega) (by first | rfl | assumption | (simp only [← nI_add, ← nI_mul]; rfl)) (by first | rfl | assumption | (simp only [← nI_add, ← nI_mul]; rfl)) (fun c => ?_) (fun c => ?_)
      · skip
        refine w_st rfl rfl rfl trivial ?_
        refine w_retz rfl (by first | exact Or.inl rfl | exact Or.inr rfl | exact mm_bi_01 _ | assumption) ?_
        exact hF ▸ mm_EX_i ((mm_bi_f c).symm)
      · skip
        refine w_st rfl rfl rfl trivial ?_
        refine w_st rfl rfl rfl trivial ?_
        refine w_retz rfl (by first | exact Or.inl rfl | exact Or.inr rfl | exact mm_bi_01 _ | assumption) ?_
        exact hF ▸ mm_EX_i ((mm_bi_t c).symm)
    · intro i hi ih
      have hle := sp_rn_le tx i
      refine w_st rfl rfl rfl trivial ?_
      refine w_st rfl rfl rfl trivial ?_
      refine w_gi rfl (mm_foc rfl) ?_
      rw [h.1]
      refine w_n_ge (a := i) (b := m) rfl (by first | decide | omega) (by first | decide | omega) (by first | rfl | assumption | (simp only [← nI_add, ← nI_mul]; rfl)) (by first | rfl | assumption | (simp only [← nI_add, ← nI_mul]; rfl)) (fun c => by exfalso; omega) (fun _ => ?_)
      refine w_st rfl rfl rfl trivial ?_
      refine w_st rfl rfl rfl trivial ?_
      refine w_gr (j := 12) rfl (mm_foc rfl) rfl (by decide) ?_
      refine w_st rfl rfl rfl trivial ?_
      refine w_ca (i) rfl (mm_fac (n := 60) rfl) (by first | rfl | assumption | (simp only [← nI_add, ← nI_mul]; rfl)) (by first | decide | omega) ?_
      rw [h.2.2 i hi]
      refine w_k21 (c_nextAfter hle) rfl ⟨rfl, by decide, by decide, by decide, Or.inr (Or.inl ⟨_, rfl⟩)⟩ (Nat.le_of_ble_eq_true rfl) trivial (Nat.le_of_ble_eq_true rfl) ?_  -- calls 32 cX3_nextAfter
      refine w_st rfl rfl rfl (Nat.le_of_ble_eq_true rfl) ?_
      refine w_inc rfl rfl rfl (Nat.le_of_ble_eq_true rfl) (nI_1 _) ?_
      refine w_st rfl rfl rfl trivial ?_
      exact ih
  exact K 0 (Nat.zero_le _)
theorem c_firstError (h : sp_X I m tx) : mm_M 45 1 [.ref 0] g I (some (.int (nI (sp_fe tx m)))) I := by
  refine w_M ?_
  show mm_W 45 0 [.ref 0] [] _ _ _
  generalize hF : mm_EX _ _ _ = F
  refine w_st rfl rfl rfl trivial ?_
  refine w_gr (j := 11) rfl (mm_foc rfl) rfl (by decide) ?_
  refine w_k11 (c_lengthWithoutError h) rfl ⟨rfl, by decide, by decide, by decide, Or.inl ⟨_, rfl⟩⟩ (Nat.le_of_ble_eq_true rfl) (mm_foc rfl) (Nat.le_of_ble_eq_true rfl) ?_  -- calls 30 cX3_lengthWithoutError
  refine w_reti rfl ?_
  exact hF ▸ mm_EX_i (rfl)
end SM
