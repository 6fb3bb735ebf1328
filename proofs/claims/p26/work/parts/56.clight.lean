/-! hours go by, on the class's side: the lit lamps -/
section SM
variable {g : mm_Gg} {I I1 : mm_Is} {x y z : Int32} {l d k t u f w n b o m N c s i a : Nat} {σ τ : sp_St} {ps : Nat → sp_St} {tx : Nat → Int32}
theorem c_addHours (h : sp_bd I 1 σ) (hf : f < 4) (hl : l < 15) : ∃ I', mm_M 4 4 [.ref 1, .int (nI f), .int (nI l), .int x] g I none I' ∧ (sp_bd I' 1 (upd σ (12 + (15 * f + l)) (σ (12 + (15 * f + l)) + x)) ∧ ∀ p, ¬ p = 4 → I' p = I p) := by
  refine w_MX ?_
  show mm_W 4 0 [.ref 1, .int (nI f), .int (nI l), .int x] [] _ _ _
  generalize hF : mm_EQ _ _ _ = F
  refine w_st rfl rfl rfl trivial ?_
  refine w_gr (j := 4) rfl (mm_foc rfl) rfl (by decide) ?_
  refine w_st rfl rfl rfl trivial ?_
  refine w_st rfl rfl rfl trivial ?_
  refine w_imul rfl ?_
  refine w_st rfl rfl rfl trivial ?_
  refine w_iadd rfl ?_
  refine w_st rfl rfl rfl trivial ?_
  refine w_ia (15 * f + l) rfl (mm_fac (n := 60) rfl) (by first | rfl | assumption | (simp only [← nI_add, ← nI_mul]; rfl)) (by first | decide | omega) ?_
  refine w_st rfl rfl rfl trivial ?_
  refine w_iadd rfl ?_
  refine w_is (15 * f + l) rfl (mm_fac (n := 60) rfl) (by first | rfl | assumption | (simp only [← nI_add, ← nI_mul]; rfl)) (by first | decide | omega) ?_
  refine w_retv rfl ?_
  subst hF
  refine ⟨rfl, rfl, ?_⟩
  rw [show I 4 (15 * f + l) = σ (12 + (15 * f + l)) from h.2.2.1 _ (by omega)]
  exact ⟨sp_bd_h1 h (by omega), fun p hp => va_up_ne _ _ hp⟩
/-- lit lamps of a field get x hours more, the first k lamps -/
noncomputable def sp_lf (σ : sp_St) (x : Int32) (f : Nat) : Nat → sp_St → sp_St
  | 0, τ => τ
  | l + 1, τ => sp_if (¬ sp_lit σ f &&& sp_bit l = 0) (upd (sp_lf σ x f l τ) (12 + (15 * f + l)) (sp_lf σ x f l τ (12 + (15 * f + l)) + x)) (sp_lf σ x f l τ)
noncomputable def sp_lg (σ : sp_St) (x : Int32) : Nat → sp_St
  | 0 => σ
  | f + 1 => sp_lf σ x f 15 (sp_lg σ x f)
theorem sp_lf_o {j : Nat} (hj : j < 12) (k : Nat) : sp_lf σ x f k τ j = τ j := by
  induction k with
  | zero => rfl
  | succ k ih =>
    have e : sp_lf σ x f (k + 1) τ = sp_if (¬ sp_lit σ f &&& sp_bit k = 0) (upd (sp_lf σ x f k τ) (12 + (15 * f + k)) (sp_lf σ x f k τ (12 + (15 * f + k)) + x)) (sp_lf σ x f k τ) := rfl
    rw [e]
    by_cases c : ¬ sp_lit σ f &&& sp_bit k = 0
    · rw [sp_if_t c, upd_n (by omega), ih]
    · rw [sp_if_f c, ih]
theorem sp_lg_o {j : Nat} (hj : j < 12) (k : Nat) : sp_lg σ x k j = σ j := by
  induction k with
  | zero => rfl
  | succ k ih => show sp_lf σ x k 15 (sp_lg σ x k) j = _; rw [sp_lf_o hj, ih]
/-- the class's board changed, its tables as they were laid for σ -/
theorem sp_D_h {I' : mm_Is} (hb : sp_bd I' 1 τ) (hD : sp_D I σ) (h8 : ∀ j, j < 12 → τ j = σ j) (hfr : ∀ p, 45 ≤ p → p < 61 → I' p = I p) : sp_D I' τ := by
  refine ⟨hb, fun e he d hd => ?_⟩
  have := hD.2 e he d hd
  rw [h8 _ (by omega), h8 _ (by omega)]
  unfold sp_te at this ⊢
  rw [hfr _ (by omega) (by omega), hfr _ (by omega) (by omega), hfr _ (by omega) (by omega)]
  exact this
theorem sp_lit_c8 (h8 : ∀ j, j < 12 → τ j = σ j) (hf : f < 4) : sp_lit τ f = sp_lit σ f := by
  unfold sp_lit sp_vis sp_R
  rw [h8 (4 + f) (by omega), h8 (8 + f) (by omega), h8 1 (by omega)]
theorem c_light (hD : sp_D I σ) : ∃ I', mm_M 56 5 [.ref 0, .int x] g I none I' ∧ (sp_D I' (sp_lg σ x 4) ∧ ∀ p, ¬ p = 4 → I' p = I p) := by
  refine w_MX ?_
  show mm_W 56 0 [.ref 0, .int x, .null, .null, .null] [] _ _ _
  generalize hF : mm_EQ _ _ _ = F
  refine w_st rfl rfl rfl trivial ?_
  refine w_st rfl rfl rfl (Nat.le_of_ble_eq_true rfl) ?_
  have K : ∀ f, f ≤ 4 → ∀ I1 v3 v4, mm_pre [v3, v4] 1 = false → sp_bd I1 1 (sp_lg σ x f) → (∀ p, ¬ p = 4 → I1 p = I p) → mm_W 56 2 [.ref 0, .int x, .int (nI f), v3, v4] [] g I1 F := by
    refine mm_dn 4 ?_ ?_
    · intro I1 v3 v4 _ hb hfr
      refine w_st rfl rfl rfl trivial ?_
      refine w_st rfl rfl rfl trivial ?_
      refine w_n_ge (a := 4) (b := 4) rfl (by first | decide | omega) (by first | decide | omega) (by first | rfl | assumption | (simp only [← nI_add, ← nI_mul]; rfl)) (by first | rfl | assumption | (simp only [← nI_add, ← nI_mul]; rfl)) (fun _ => ?_) (fun c => by exfalso; omega)
      refine w_retv rfl ?_
      exact hF ▸ ⟨rfl, rfl, ⟨sp_D_h hb hD (fun j hj => sp_lg_o hj 4) (fun p a b => hfr p (by omega)), hfr⟩⟩
    · intro f hf ih I1 v3 v4 _ hb hfr
      have hD1 := sp_D_h hb hD (fun j hj => sp_lg_o hj f) (fun p a b => hfr p (by omega))
      have hl1 := sp_lit_c8 (σ := σ) (τ := sp_lg σ x f) (fun j hj => sp_lg_o hj f) hf
      refine w_st rfl rfl rfl trivial ?_
      refine w_st rfl rfl rfl trivial ?_
      refine w_n_ge (a := f) (b := 4) rfl (by first | decide | omega) (by first | decide | omega) (by first | rfl | assumption | (simp only [← nI_add, ← nI_mul]; rfl)) (by first | rfl | assumption | (simp only [← nI_add, ← nI_mul]; rfl)) (fun c => by exfalso; omega) (fun _ => ?_)
      refine w_st rfl rfl rfl trivial ?_
      refine w_st rfl rfl rfl trivial ?_
      refine w_k21 (c_litOf hD1 hf) rfl ⟨rfl, by decide, by decide, by decide, Or.inl ⟨_, rfl⟩⟩ (Nat.le_of_ble_eq_true rfl) (mm_foc rfl) (Nat.le_of_ble_eq_true rfl) ?_  -- calls 61 cX4_litOf
      rw [hl1]
      refine w_st rfl rfl rfl (Nat.le_of_ble_eq_true rfl) ?_
      refine w_st rfl rfl rfl trivial ?_
      refine w_st rfl rfl rfl (Nat.le_of_ble_eq_true rfl) ?_
      have L : ∀ l, l ≤ 15 → ∀ I2, sp_bd I2 1 (sp_lf σ x f l (sp_lg σ x f)) → (∀ p, ¬ p = 4 → I2 p = I p) → mm_W 56 16 [.ref 0, .int x, .int (nI f), .int (sp_lit σ f), .int (nI l)] [] g I2 F := by
        refine mm_dn 15 ?_ ?_
        · intro I2 hb2 hf2
          refine w_st rfl rfl rfl trivial ?_
          refine w_st rfl rfl rfl trivial ?_
          refine w_n_ge (a := 15) (b := 15) rfl (by first | decide | omega) (by first | decide | omega) (by first | rfl | assumption | (simp only [← nI_add, ← nI_mul]; rfl)) (by first | rfl | assumption | (simp only [← nI_add, ← nI_mul]; rfl)) (fun _ => ?_) (fun c => by exfalso; omega)
          refine w_inc rfl rfl rfl (Nat.le_of_ble_eq_true rfl) (nI_1 _) ?_
          refine w_st rfl rfl rfl trivial ?_
          exact ih I2 _ _ rfl hb2 hf2
        · intro l hl ih2 I2 hb2 hf2
          have e : sp_lf σ x f (l + 1) (sp_lg σ x f) = sp_if (¬ sp_lit σ f &&& sp_bit l = 0) (upd (sp_lf σ x f l (sp_lg σ x f)) (12 + (15 * f + l)) (sp_lf σ x f l (sp_lg σ x f) (12 + (15 * f + l)) + x)) (sp_lf σ x f l (sp_lg σ x f)) := rfl
          refine w_st rfl rfl rfl trivial ?_
          refine w_st rfl rfl rfl trivial ?_
          refine w_n_ge (a := l) (b := 15) rfl (by first | decide | omega) (by first | decide | omega) (by first | rfl | assumption | (simp only [← nI_add, ← nI_mul]; rfl)) (by first | rfl | assumption | (simp only [← nI_add, ← nI_mul]; rfl)) (fun c => by exfalso; omega) (fun _ => ?_)
          refine w_st rfl rfl rfl trivial ?_
          refine w_st rfl rfl rfl trivial ?_
          refine w_k21 (c_has) rfl ⟨rfl, by decide, by decide, by decide, Or.inr (Or.inl ⟨_, rfl⟩)⟩ (Nat.le_of_ble_eq_true rfl) trivial (Nat.le_of_ble_eq_true rfl) ?_  -- calls 50 cX4_has
          refine w_b_eq rfl (fun c => ?_) (fun c => ?_)
          · rw [sp_if_f c] at e
            rw [e] at ih2
            refine w_inc rfl rfl rfl (Nat.le_of_ble_eq_true rfl) (nI_1 _) ?_
            refine w_st rfl rfl rfl trivial ?_
            exact ih2 I2 hb2 hf2
          · rw [sp_if_t c] at e
            rw [e] at ih2
            obtain ⟨I3, hM3, hb3, f3⟩ := c_addHours (g := g) (x := x) hb2 hf hl
            refine w_st rfl rfl rfl trivial ?_
            refine w_gr (j := 1) rfl (mm_foc rfl) rfl (by decide) ?_
            refine w_st rfl rfl rfl trivial ?_
            refine w_st rfl rfl rfl trivial ?_
            refine w_st rfl rfl rfl trivial ?_
            refine w_k40 (hM3) rfl ⟨rfl, by decide, by decide, by decide, Or.inl ⟨_, rfl⟩⟩ (Nat.le_of_ble_eq_true rfl) (mm_foc rfl) (Nat.le_of_ble_eq_true rfl) ?_  -- calls 4 cX0_addHours
            refine w_inc rfl rfl rfl (Nat.le_of_ble_eq_true rfl) (nI_1 _) ?_
            refine w_st rfl rfl rfl trivial ?_
            exact ih2 I3 hb3 (fun p hp => by rw [f3 p hp]; exact hf2 p hp)
      exact L 0 (by decide) I1 hb hfr
  exact K 0 (by decide) I .null .null rfl hD.1 (fun _ _ => rfl)
end SM
