/-! the table of a field: what it is, and the class's own way to it -/
def sp_sh (b : Int32) (d : Nat) (x : Int32) : Int32 := mm_SHP (3 * d + x.toNatClampNeg) &&& (b ^^^ (-1))
def sp_mi (b : Int32) (d : Nat) (x : Int32) : Int32 := sp_pop (mm_SHP (3 * d + x.toNatClampNeg) &&& b)
/-- L differs enough from what each of the first n digits shows -/
def sp_ap (r : Nat → Int32) (b s L : Int32) (n : Nat) : Prop := ∀ e, e < n → ¬ r e = -1 → ¬ sp_pop (L ^^^ sp_sh b e (r e)) < s
theorem sp_ap_c {r r' : Nat → Int32} {b s L : Int32} {n : Nat} (h : ∀ e, e < n → r e = r' e) : sp_ap r b s L n ↔ sp_ap r' b s L n :=
  ⟨fun z e he => by rw [← h e he]; exact z e he, fun z e he => by rw [h e he]; exact z e he⟩
/-- the shape of a digit after k shapes are looked at -/
noncomputable def sp_pk (r : Nat → Int32) (b s : Int32) (d : Nat) : Nat → Int32
  | 0 => -1
  | k + 1 => sp_if ((sp_pk r b s d k = -1 ∨ sp_mi b d (nI k) < sp_mi b d (sp_pk r b s d k)) ∧ sp_ap r b s (sp_sh b d (nI k)) d) (nI k) (sp_pk r b s d k)
theorem sp_pk_c {r r' : Nat → Int32} {b s : Int32} {d : Nat} (h : ∀ e, e < d → r e = r' e) (k : Nat) : sp_pk r b s d k = sp_pk r' b s d k := by
  induction k with
  | zero => rfl
  | succ k ih =>
    unfold sp_pk
    rw [ih]
    have e : sp_ap r b s (sp_sh b d (nI k)) d = sp_ap r' b s (sp_sh b d (nI k)) d := propext (sp_ap_c h)
    rw [e]
theorem sp_pk_k {r : Nat → Int32} {b s : Int32} {d : Nat} (k : Nat) : sp_pk r b s d k = -1 ∨ ∃ j, j < k ∧ sp_pk r b s d k = nI j := by
  induction k with
  | zero => exact Or.inl rfl
  | succ k ih =>
    by_cases c : (sp_pk r b s d k = -1 ∨ sp_mi b d (nI k) < sp_mi b d (sp_pk r b s d k)) ∧ sp_ap r b s (sp_sh b d (nI k)) d
    · right
      exact ⟨k, Nat.lt_succ_self k, by show sp_if _ _ _ = _; rw [sp_if_t c]⟩
    · have e : sp_pk r b s d (k + 1) = sp_pk r b s d k := by show sp_if _ _ _ = _; rw [sp_if_f c]
      rw [e]
      rcases ih with h | ⟨j, h1, h2⟩
      · exact Or.inl h
      · exact Or.inr ⟨j, by omega, h2⟩
noncomputable def sp_rw (b s : Int32) : Nat → Nat → Int32
  | 0 => fun _ => -1
  | d + 1 => va_up (sp_rw b s d) d (sp_pk (sp_rw b s d) b s d 3)
/-- the shapes of the ten digits -/
noncomputable def sp_row (b s : Int32) : Nat → Int32 := sp_rw b s 10
theorem sp_rw_st {b s : Int32} {e d : Nat} (h : e < d) (k : Nat) : sp_rw b s (d + k) e = sp_rw b s d e := by
  induction k with
  | zero => rfl
  | succ k ih =>
    show va_up (sp_rw b s (d + k)) (d + k) _ e = _
    rw [va_up_ne _ _ (by omega), ih]
theorem sp_row_of {b s : Int32} {e d : Nat} (h : e < d) (hd : d ≤ 10) : sp_row b s e = sp_rw b s d e := by
  obtain ⟨k, hk⟩ : ∃ k, 10 = d + k := ⟨10 - d, by omega⟩
  unfold sp_row
  rw [hk]
  exact sp_rw_st h k
theorem sp_row_eq {b s : Int32} {d : Nat} (h : d < 10) : sp_row b s d = sp_pk (sp_row b s) b s d 3 := by
  rw [sp_row_of (Nat.lt_succ_self d) h]
  show va_up (sp_rw b s d) d (sp_pk (sp_rw b s d) b s d 3) d = _
  rw [va_up_self]
  exact sp_pk_c (fun e he => (sp_row_of he (by omega)).symm) 3
theorem sp_row_k {b s : Int32} {d : Nat} (h : d < 10) : sp_row b s d = -1 ∨ ∃ j, j < 3 ∧ sp_row b s d = nI j := by
  rw [sp_row_eq h]; exact sp_pk_k 3
theorem nI_ne1 {j : Nat} (h : j < 2 ^ 31) : ¬ nI j = -1 := by
  intro z
  have h1 := nI_toInt h
  rw [z] at h1
  have h2 : (-1 : Int32).toInt = -1 := by decide
  omega
theorem sp_sh_n {b : Int32} {d k : Nat} (hk : k < 3) : sp_sh b d (nI k) = mm_SHP (3 * d + k) &&& (b ^^^ (-1)) := by unfold sp_sh; rw [nI_clamp (by omega)]
theorem sp_mi_n {b : Int32} {d k : Nat} (hk : k < 3) : sp_mi b d (nI k) = sp_pop (mm_SHP (3 * d + k) &&& b) := by unfold sp_mi; rw [nI_clamp (by omega)]
/-- a digit of the class's table t -/
def sp_te (I : mm_Is) (t : Nat) (b s : Int32) (d : Nat) : Prop := I (t + 1 + 0) d = sp_row b s d ∧ (¬ sp_row b s d = -1 → I (t + 1 + 1) d = sp_sh b d (sp_row b s d) ∧ I (t + 1 + 2) d = sp_mi b d (sp_row b s d))
/-- what changed in table t: digit d alone -/
def sp_ch (t d : Nat) (I I' : mm_Is) : Prop := (∀ p, ¬ p = t + 1 + 0 → ¬ p = t + 1 + 1 → ¬ p = t + 1 + 2 → I' p = I p) ∧ ∀ q j, ¬ j = d → I' q j = I q j
theorem sp_ch_rf {t d : Nat} {I : mm_Is} : sp_ch t d I I := ⟨fun _ _ _ _ => rfl, fun _ _ _ => rfl⟩
theorem sp_ch_up {t d k : Nat} {I I1 : mm_Is} {x : Int32} (h : sp_ch t d I I1) (hk : k < 3) : sp_ch t d I (va_up I1 (t + 1 + k) (upd (I1 (t + 1 + k)) d x)) := by
  refine ⟨fun p h0 h1 h2 => ?_, fun q j hj => ?_⟩
  · rw [va_up_ne _ _ (by omega)]; exact h.1 p h0 h1 h2
  · by_cases c : q = t + 1 + k
    · subst c; rw [va_up_self]; show (if j = d then x else _) = _; rw [if_neg hj]; exact h.2 _ j hj
    · rw [va_up_ne _ _ c]; exact h.2 q j hj
theorem mm_uu {I : mm_Is} {p d : Nat} {x : Int32} : va_up I p (upd (I p) d x) p d = x := by rw [va_up_self]; show (if d = d then x else _) = x; rw [if_pos rfl]
theorem mm_un {I : mm_Is} {p q d j : Nat} {x : Int32} (h : ¬ q = p ∨ ¬ j = d) : va_up I p (upd (I p) d x) q j = I q j := by
  by_cases c : q = p
  · subst c
    rw [va_up_self]; show (if j = d then x else _) = _
    rw [if_neg (h.resolve_left (fun z => z rfl))]
  · rw [va_up_ne _ _ c]
section SM
variable {g : mm_Gg} {I : mm_Is} {x y z b s L : Int32} {l d k t : Nat}
theorem c_isApart (hT : mm_T t) (hd : d < 10) (hI : ∀ e, e < d → I (t + 1 + 0) e = sp_row b s e ∧ (¬ sp_row b s e = -1 → I (t + 1 + 1) e = sp_sh b e (sp_row b s e))) : mm_M 12 5 [.ref t, .int L, .int (nI d), .int s] g I (some (.int (mm_bi (sp_ap (sp_row b s) b s L d)))) I := by
  refine w_M ?_
  show mm_W 12 0 [.ref t, .int L, .int (nI d), .int s, .null] [] _ _ _
  generalize hF : mm_EX _ _ _ = F
  refine w_st rfl rfl rfl trivial ?_
  refine w_st rfl rfl rfl (Nat.le_of_ble_eq_true rfl) ?_
  have K : ∀ j, j ≤ d → sp_ap (sp_row b s) b s L j → mm_W 12 3 [.ref t, .int L, .int (nI d), .int s, .int (nI j)] [] g I F := by
    refine mm_dn d ?_ ?_
    · intro h
      refine w_st rfl rfl rfl trivial ?_
      refine w_st rfl rfl rfl trivial ?_
      refine w_n_ge (a := d) (b := d) rfl (by first | decide | omega) (by first | decide | omega) (by first | rfl | assumption | (simp only [← nI_add, ← nI_mul]; rfl)) (by first | rfl | assumption | (simp only [← nI_add, ← nI_mul]; rfl)) (fun _ => ?_) (fun c => by exfalso; omega)
      refine w_st rfl rfl rfl trivial ?_
      refine w_retz rfl (by first | exact Or.inl rfl | exact Or.inr rfl | exact mm_bi_01 _ | assumption) ?_
      exact hF ▸ mm_EX_i ((mm_bi_t h).symm)
    · intro j hj ih h
      refine w_st rfl rfl rfl trivial ?_
      refine w_st rfl rfl rfl trivial ?_
      refine w_n_ge (a := j) (b := d) rfl (by first | decide | omega) (by first | decide | omega) (by first | rfl | assumption | (simp only [← nI_add, ← nI_mul]; rfl)) (by first | rfl | assumption | (simp only [← nI_add, ← nI_mul]; rfl)) (fun c => by exfalso; omega) (fun _ => ?_)
      refine w_st rfl rfl rfl trivial ?_
      refine w_gr (j := (t + 1 + 0)) rfl (mm_T_o hT) (mm_T_r hT (by decide)) mm_T_0 ?_
      refine w_st rfl rfl rfl trivial ?_
      refine w_ia (j) rfl (mm_T_a hT (by decide)) (by first | rfl | assumption | (simp only [← nI_add, ← nI_mul]; rfl)) (by first | decide | omega) ?_
      rw [(hI j hj).1]
      refine w_st rfl rfl rfl trivial ?_
      refine w_v_eq rfl (fun c1 => ?_) (fun c1 => ?_)
      · skip
        refine w_inc rfl rfl rfl (Nat.le_of_ble_eq_true rfl) (nI_1 _) ?_
        refine w_st rfl rfl rfl trivial ?_
        refine ih (fun e he hr => ?_)
        rcases Nat.lt_succ_iff_lt_or_eq.1 he with h1 | rfl
        · exact h e h1 hr
        · exact absurd c1 hr
      · skip
        refine w_st rfl rfl rfl trivial ?_
        refine w_st rfl rfl rfl trivial ?_
        refine w_gr (j := (t + 1 + 1)) rfl (mm_T_o hT) (mm_T_r hT (by decide)) mm_T_0 ?_
        refine w_st rfl rfl rfl trivial ?_
        refine w_ia (j) rfl (mm_T_a hT (by decide)) (by first | rfl | assumption | (simp only [← nI_add, ← nI_mul]; rfl)) (by first | decide | omega) ?_
        refine w_ixor rfl ?_
        refine w_k11 (c_bitCount) rfl ⟨rfl, by decide, by decide, by decide, Or.inr (Or.inl ⟨_, rfl⟩)⟩ (Nat.le_of_ble_eq_true rfl) trivial (Nat.le_of_ble_eq_true rfl) ?_  -- calls 67 cJ6_bitCount_0f7a4
        rw [(hI j hj).2 c1]
        refine w_st rfl rfl rfl trivial ?_
        refine w_v_ge rfl (fun c2 => ?_) (fun c2 => ?_)
        · skip
          refine w_inc rfl rfl rfl (Nat.le_of_ble_eq_true rfl) (nI_1 _) ?_
          refine w_st rfl rfl rfl trivial ?_
          refine ih (fun e he hr => ?_)
          rcases Nat.lt_succ_iff_lt_or_eq.1 he with h1 | rfl
          · exact h e h1 hr
          · exact Int32.not_lt.2 c2
        · skip
          refine w_st rfl rfl rfl trivial ?_
          refine w_retz rfl (by first | exact Or.inl rfl | exact Or.inr rfl | exact mm_bi_01 _ | assumption) ?_
          exact hF ▸ mm_EX_i ((mm_bi_f (fun z => z j hj c1 (Int32.not_le.1 c2))).symm)
  exact K 0 (Nat.zero_le _) (fun e he => absurd he (Nat.not_lt_zero _))
theorem sp_te_ch {I1 I2 : mm_Is} {e : Nat} (h : sp_ch t d I1 I2) (he : ¬ e = d) (x : sp_te I1 t b s e) : sp_te I2 t b s e := by
  unfold sp_te at x ⊢
  rw [h.2 _ _ he, h.2 _ _ he, h.2 _ _ he]
  exact x
theorem c_chooseShape (hT : mm_T t) (hd : d < 10) (hI : ∀ e, e < d → sp_te I t b s e) : ∃ I', mm_M 11 8 [.ref t, .int (nI d), .int b, .int s] g I none I' ∧ (sp_te I' t b s d ∧ sp_ch t d I I') := by
  refine w_MX ?_
  show mm_W 11 0 [.ref t, .int (nI d), .int b, .int s, .null, .null, .null, .null] [] _ _ _
  generalize hF : mm_EQ _ _ _ = F
  refine w_st rfl rfl rfl trivial ?_
  refine w_gr (j := (t + 1 + 0)) rfl (mm_T_o hT) (mm_T_r hT (by decide)) mm_T_0 ?_
  refine w_st rfl rfl rfl trivial ?_
  refine w_st rfl rfl rfl trivial ?_
  refine w_is (d) rfl (mm_T_a hT (by decide)) (by first | rfl | assumption | (simp only [← nI_add, ← nI_mul]; rfl)) (by first | decide | omega) ?_
  refine w_st rfl rfl rfl trivial ?_
  refine w_gr (j := (t + 1 + 1)) rfl (mm_T_o hT) (mm_T_r hT (by decide)) mm_T_0 ?_
  refine w_st rfl rfl rfl trivial ?_
  refine w_st rfl rfl rfl trivial ?_
  refine w_is (d) rfl (mm_T_a hT (by decide)) (by first | rfl | assumption | (simp only [← nI_add, ← nI_mul]; rfl)) (by first | decide | omega) ?_
  refine w_st rfl rfl rfl trivial ?_
  refine w_gr (j := (t + 1 + 2)) rfl (mm_T_o hT) (mm_T_r hT (by decide)) mm_T_0 ?_
  refine w_st rfl rfl rfl trivial ?_
  refine w_st rfl rfl rfl trivial ?_
  refine w_is (d) rfl (mm_T_a hT (by decide)) (by first | rfl | assumption | (simp only [← nI_add, ← nI_mul]; rfl)) (by first | decide | omega) ?_
  refine w_st rfl rfl rfl trivial ?_
  refine w_st rfl rfl rfl (Nat.le_of_ble_eq_true rfl) ?_
  have K : ∀ k, k ≤ 3 → ∀ I1 v5 v6 v7, (I1 (t + 1 + 0) d = sp_pk (sp_row b s) b s d k ∧ (¬ sp_pk (sp_row b s) b s d k = -1 → I1 (t + 1 + 1) d = sp_sh b d (sp_pk (sp_row b s) b s d k) ∧ I1 (t + 1 + 2) d = sp_mi b d (sp_pk (sp_row b s) b s d k)) ∧ sp_ch t d I I1) → mm_W 11 24 [.ref t, .int (nI d), .int b, .int s, .int (nI k), v5, v6, v7] [] g I1 F := by
    refine mm_dn 3 ?_ ?_
    · intro I1 v5 v6 v7 h
      rw [← sp_row_eq hd] at h
      refine w_st rfl rfl rfl trivial ?_
      refine w_st rfl rfl rfl trivial ?_
      refine w_n_ge (a := 3) (b := 3) rfl (by first | decide | omega) (by first | decide | omega) (by first | rfl | assumption | (simp only [← nI_add, ← nI_mul]; rfl)) (by first | rfl | assumption | (simp only [← nI_add, ← nI_mul]; rfl)) (fun _ => ?_) (fun c => by exfalso; omega)
      refine w_retv rfl ?_
      exact hF ▸ ⟨rfl, rfl, ⟨⟨h.1, h.2.1⟩, h.2.2⟩⟩
    · intro k hk ih I1 v5 v6 v7 h
      have N : ∀ w w5 w6, sp_pk (sp_row b s) b s d (k + 1) = sp_pk (sp_row b s) b s d k → mm_W 11 123 [.ref t, .int (nI d), .int b, .int s, .int (nI k), .int w5, .int w6, .int w] [] g I1 F := by
        intro w w5 w6 hw
        refine w_inc rfl rfl rfl (Nat.le_of_ble_eq_true rfl) (nI_1 _) ?_
        refine w_st rfl rfl rfl trivial ?_
        exact ih I1 (.int w5) (.int w6) (.int w) (by rw [hw]; exact h)
      have Y : ∀ w, (sp_pk (sp_row b s) b s d k = -1 ∨ sp_mi b d (nI k) < sp_mi b d (sp_pk (sp_row b s) b s d k)) → mm_W 11 80 [.ref t, .int (nI d), .int b, .int s, .int (nI k), .int (mm_SHP (3 * d + k)), .int (sp_pop (mm_SHP (3 * d + k) &&& b)), .int w] [] g I1 F := by
        intro w hw
        refine w_st rfl rfl rfl trivial ?_
        refine w_st rfl rfl rfl trivial ?_
        refine w_st rfl rfl rfl trivial ?_
        refine w_st rfl rfl rfl trivial ?_
        refine w_ixor rfl ?_
        refine w_iand rfl ?_
        refine w_st rfl rfl rfl trivial ?_
        refine w_st rfl rfl rfl trivial ?_
        refine w_k41 (c_isApart hT hd (fun e he => by rw [h.2.2.2 _ _ (show ¬ e = d by omega), h.2.2.2 _ _ (show ¬ e = d by omega)]; exact ⟨(hI e he).1, fun z => ((hI e he).2 z).1⟩)) rfl ⟨rfl, by decide, by decide, by decide, Or.inl ⟨_, rfl⟩⟩ (Nat.le_of_ble_eq_true rfl) (mm_T_o hT) (Nat.le_of_ble_eq_true rfl) ?_  -- calls 12 cX2_isApart
        refine w_b_eq rfl (fun c2 => ?_) (fun c2 => ?_)
        · refine N _ _ _ ?_
          show sp_if _ _ _ = _
          rw [sp_if_f (fun z => c2 (by rw [sp_sh_n hk] at z; exact z.2))]
        · have hp : sp_pk (sp_row b s) b s d (k + 1) = nI k := by
            show sp_if _ _ _ = _
            rw [sp_if_t ⟨hw, by rw [sp_sh_n hk]; exact c2⟩]
          refine w_st rfl rfl rfl trivial ?_
          refine w_gr (j := (t + 1 + 0)) rfl (mm_T_o hT) (mm_T_r hT (by decide)) mm_T_0 ?_
          refine w_st rfl rfl rfl trivial ?_
          refine w_st rfl rfl rfl trivial ?_
          refine w_is (d) rfl (mm_T_a hT (by decide)) (by first | rfl | assumption | (simp only [← nI_add, ← nI_mul]; rfl)) (by first | decide | omega) ?_
          refine w_st rfl rfl rfl trivial ?_
          refine w_gr (j := (t + 1 + 1)) rfl (mm_T_o hT) (mm_T_r hT (by decide)) mm_T_0 ?_
          refine w_st rfl rfl rfl trivial ?_
          refine w_st rfl rfl rfl trivial ?_
          refine w_st rfl rfl rfl trivial ?_
          refine w_st rfl rfl rfl trivial ?_
          refine w_ixor rfl ?_
          refine w_iand rfl ?_
          refine w_is (d) rfl (mm_T_a hT (by decide)) (by first | rfl | assumption | (simp only [← nI_add, ← nI_mul]; rfl)) (by first | decide | omega) ?_
          refine w_st rfl rfl rfl trivial ?_
          refine w_gr (j := (t + 1 + 2)) rfl (mm_T_o hT) (mm_T_r hT (by decide)) mm_T_0 ?_
          refine w_st rfl rfl rfl trivial ?_
          refine w_st rfl rfl rfl trivial ?_
          refine w_is (d) rfl (mm_T_a hT (by decide)) (by first | rfl | assumption | (simp only [← nI_add, ← nI_mul]; rfl)) (by first | decide | omega) ?_
          refine w_inc rfl rfl rfl (Nat.le_of_ble_eq_true rfl) (nI_1 _) ?_
          refine w_st rfl rfl rfl trivial ?_
          refine ih _ _ _ _ ?_
          rw [hp, sp_sh_n hk, sp_mi_n hk]
          refine ⟨?_, fun _ => ⟨?_, ?_⟩, sp_ch_up (sp_ch_up (sp_ch_up h.2.2 (k := 0) (by decide)) (k := 1) (by decide)) (k := 2) (by decide)⟩
          · rw [mm_un (Or.inl (by omega)), mm_un (Or.inl (by omega)), mm_uu]
          · rw [mm_un (Or.inl (by omega)), mm_uu]
          · rw [mm_uu]
      refine w_st rfl rfl rfl trivial ?_
      refine w_st rfl rfl rfl trivial ?_
      refine w_n_ge (a := k) (b := 3) rfl (by first | decide | omega) (by first | decide | omega) (by first | rfl | assumption | (simp only [← nI_add, ← nI_mul]; rfl)) (by first | rfl | assumption | (simp only [← nI_add, ← nI_mul]; rfl)) (fun c => by exfalso; omega) (fun _ => ?_)
      refine w_st rfl rfl rfl trivial ?_
      refine w_st rfl rfl rfl trivial ?_
      refine w_k21 (c_lampsOf hd hk) rfl ⟨rfl, by decide, by decide, by decide, Or.inr (Or.inl ⟨_, rfl⟩)⟩ (Nat.le_of_ble_eq_true rfl) trivial (Nat.le_of_ble_eq_true rfl) ?_  -- calls 13 cX2_lampsOf
      refine w_st rfl rfl rfl (Nat.le_of_ble_eq_true rfl) ?_
      refine w_st rfl rfl rfl trivial ?_
      refine w_st rfl rfl rfl trivial ?_
      refine w_iand rfl ?_
      refine w_k11 (c_bitCount) rfl ⟨rfl, by decide, by decide, by decide, Or.inr (Or.inl ⟨_, rfl⟩)⟩ (Nat.le_of_ble_eq_true rfl) trivial (Nat.le_of_ble_eq_true rfl) ?_  -- calls 67 cJ6_bitCount_0f7a4
      refine w_st rfl rfl rfl (Nat.le_of_ble_eq_true rfl) ?_
      refine w_st rfl rfl rfl trivial ?_
      refine w_gr (j := (t + 1 + 0)) rfl (mm_T_o hT) (mm_T_r hT (by decide)) mm_T_0 ?_
      refine w_st rfl rfl rfl trivial ?_
      refine w_ia (d) rfl (mm_T_a hT (by decide)) (by first | rfl | assumption | (simp only [← nI_add, ← nI_mul]; rfl)) (by first | decide | omega) ?_
      rw [h.1]
      refine w_st rfl rfl rfl trivial ?_
      refine w_v_eq rfl (fun c1 => ?_) (fun c1 => ?_)
      · skip
        refine w_st rfl rfl rfl trivial ?_
        refine w_st rfl rfl rfl trivial ?_
        refine w_st rfl rfl rfl (Nat.le_of_ble_eq_true rfl) ?_
        refine w_st rfl rfl rfl trivial ?_
        refine w_z_eq rfl (fun z => by first | exact absurd z ((by decide : ¬ (1 : Int32) = 0)) | exact absurd ((by decide : ¬ (1 : Int32) = 0)) z) (fun _ => ?_)
        exact Y 1 (Or.inl c1)
      · skip
        refine w_st rfl rfl rfl trivial ?_
        refine w_st rfl rfl rfl trivial ?_
        refine w_gr (j := (t + 1 + 2)) rfl (mm_T_o hT) (mm_T_r hT (by decide)) mm_T_0 ?_
        refine w_st rfl rfl rfl trivial ?_
        refine w_ia (d) rfl (mm_T_a hT (by decide)) (by first | rfl | assumption | (simp only [← nI_add, ← nI_mul]; rfl)) (by first | decide | omega) ?_
        rw [(h.2.1 c1).2]
        refine w_v_ge rfl (fun c3 => ?_) (fun c3 => ?_)
        · skip
          refine w_st rfl rfl rfl trivial ?_
          refine w_st rfl rfl rfl (Nat.le_of_ble_eq_true rfl) ?_
          refine w_st rfl rfl rfl trivial ?_
          refine w_z_eq rfl (fun _ => ?_) (fun z => by first | exact absurd (rfl) z | exact absurd z (rfl))
          refine N _ _ _ ?_
          show sp_if _ _ _ = _
          rw [sp_if_f (fun z => z.1.elim c1 (fun z1 => absurd c3 (Int32.not_le.2 (by rw [sp_mi_n hk] at z1; exact z1))))]
        · skip
          refine w_st rfl rfl rfl trivial ?_
          refine w_st rfl rfl rfl trivial ?_
          refine w_st rfl rfl rfl (Nat.le_of_ble_eq_true rfl) ?_
          refine w_st rfl rfl rfl trivial ?_
          refine w_z_eq rfl (fun z => by first | exact absurd z ((by decide : ¬ (1 : Int32) = 0)) | exact absurd ((by decide : ¬ (1 : Int32) = 0)) z) (fun _ => ?_)
          exact Y 1 (Or.inr (by rw [sp_mi_n hk]; exact Int32.not_le.1 c3))
  refine K 0 (by decide) _ .null .null .null ⟨?_, fun z => absurd rfl z, sp_ch_up (sp_ch_up (sp_ch_up sp_ch_rf (k := 0) (by decide)) (k := 1) (by decide)) (k := 2) (by decide)⟩
  rw [mm_un (Or.inl (by omega)), mm_un (Or.inl (by omega)), mm_uu]
  rfl
/-- the class's table t, laid by b and s -/
def sp_tt (I : mm_Is) (t : Nat) (b s : Int32) : Prop := ∀ d, d < 10 → sp_te I t b s d
/-- all but table t stands -/
def sp_f3 (t : Nat) (I I' : mm_Is) : Prop := ∀ p, ¬ p = t + 1 + 0 → ¬ p = t + 1 + 1 → ¬ p = t + 1 + 2 → I' p = I p
theorem c_choose (hT : mm_T t) : ∃ I', mm_M 10 4 [.ref t, .int b, .int s] g I none I' ∧ (sp_tt I' t b s ∧ sp_f3 t I I') := by
  refine w_MX ?_
  show mm_W 10 0 [.ref t, .int b, .int s, .null] [] _ _ _
  generalize hF : mm_EQ _ _ _ = F
  refine w_st rfl rfl rfl trivial ?_
  refine w_st rfl rfl rfl (Nat.le_of_ble_eq_true rfl) ?_
  have K : ∀ d, d ≤ 10 → ∀ I1, ((∀ e, e < d → sp_te I1 t b s e) ∧ sp_f3 t I I1) → mm_W 10 2 [.ref t, .int b, .int s, .int (nI d)] [] g I1 F := by
    refine mm_dn 10 ?_ ?_
    · intro I1 h
      refine w_st rfl rfl rfl trivial ?_
      refine w_st rfl rfl rfl trivial ?_
      refine w_n_ge (a := 10) (b := 10) rfl (by first | decide | omega) (by first | decide | omega) (by first | rfl | assumption | (simp only [← nI_add, ← nI_mul]; rfl)) (by first | rfl | assumption | (simp only [← nI_add, ← nI_mul]; rfl)) (fun _ => ?_) (fun c => by exfalso; omega)
      refine w_retv rfl ?_
      exact hF ▸ ⟨rfl, rfl, h⟩
    · intro d hd ih I1 h
      refine w_st rfl rfl rfl trivial ?_
      refine w_st rfl rfl rfl trivial ?_
      refine w_n_ge (a := d) (b := 10) rfl (by first | decide | omega) (by first | decide | omega) (by first | rfl | assumption | (simp only [← nI_add, ← nI_mul]; rfl)) (by first | rfl | assumption | (simp only [← nI_add, ← nI_mul]; rfl)) (fun c => by exfalso; omega) (fun _ => ?_)
      obtain ⟨I2, hM, h1, h2⟩ := c_chooseShape (g := g) (I := I1) hT hd h.1
      refine w_st rfl rfl rfl trivial ?_
      refine w_st rfl rfl rfl trivial ?_
      refine w_st rfl rfl rfl trivial ?_
      refine w_st rfl rfl rfl trivial ?_
      refine w_k40 (hM) rfl ⟨rfl, by decide, by decide, by decide, Or.inl ⟨_, rfl⟩⟩ (Nat.le_of_ble_eq_true rfl) (mm_T_o hT) (Nat.le_of_ble_eq_true rfl) ?_  -- calls 11 cX2_chooseShape
      refine w_inc rfl rfl rfl (Nat.le_of_ble_eq_true rfl) (nI_1 _) ?_
      refine w_st rfl rfl rfl trivial ?_
      refine ih I2 ⟨fun e he => ?_, fun p a1 a2 a3 => ?_⟩
      · rcases Nat.lt_succ_iff_lt_or_eq.1 he with z | rfl
        · exact sp_te_ch h2 (by omega) (h.1 e z)
        · exact h1
      · rw [h2.1 p a1 a2 a3]; exact h.2 p a1 a2 a3
  exact K 0 (by decide) I ⟨fun e he => absurd he (Nat.not_lt_zero _), fun _ _ _ _ => rfl⟩
end SM
