/-! what the reference tells of a state -/
/-- the reference holds the shapes and the state -/
def sp_N (I : mm_Is) (σ : sp_St) : Prop := sp_S I ∧ ∀ j, j < 72 → I 63 j = σ j
/-- a state that can be -/
def sp_ok (σ : sp_St) : Prop := (∀ f, f < 4 → σ (4 + f) = -1 ∨ ∃ d, d < 10 ∧ σ (4 + f) = nI d) ∧ (∀ f, f < 4 → sp_b15 (σ (8 + f))) ∧ (∃ s, 1 ≤ s ∧ s ≤ 5 ∧ σ 1 = nI s) ∧ (∃ l, l ≤ 99 ∧ σ 2 = nI l) ∧ ∃ n, n ≤ 99999 ∧ σ 0 = nI n ∧ ∀ j, j < 60 → ∃ h, h ≤ n ∧ σ (12 + j) = nI h
def sp_f2 (I I' : mm_Is) : Prop := ∀ q, ¬ q = 67 → ¬ q = 68 → I' q = I q
theorem sp_f2_rf {I : mm_Is} : sp_f2 I I := fun _ _ _ => rfl
theorem sp_f2_t {I I1 I2 : mm_Is} (h : sp_f2 I I1) (h' : sp_f2 I1 I2) : sp_f2 I I2 := fun q a b => (h' q a b).trans (h q a b)
theorem sp_N_f2 {I I' : mm_Is} {σ : sp_St} (h : sp_N I σ) (x : sp_f2 I I') : sp_N I' σ := by
  refine ⟨fun j hj => ?_, fun j hj => ?_⟩
  · rw [x 62 (by decide) (by decide)]; exact h.1 j hj
  · rw [x 63 (by decide) (by decide)]; exact h.2 j hj
def sp_L (I : mm_Is) (p : Nat) (r : Nat → Int32) : Prop := ∀ d, d < 10 → I p d = r d
noncomputable def sp_mr (r : Nat → Int32) : Nat → Int32
  | 0 => 0
  | j + 1 => sp_mr r j ||| sp_if (r (9 - j) = -1) (0 : Int32) ((1 : Int32) <<< (nI (9 - j) &&& 31))
theorem sp_mr_mk (r : Nat → Int32) : ∀ n, n ≤ 10 → sp_mk r n ||| sp_mr r (10 - n) = sp_mr r 10 := by
  intro n
  induction n with
  | zero => intro _; exact Int32.zero_or
  | succ n ih =>
    intro hn
    rw [← ih (by omega)]
    obtain ⟨j, hj⟩ : ∃ j, 10 - n = j + 1 := ⟨9 - n, by omega⟩
    have e : sp_mr r (10 - n) = sp_mr r (10 - (n + 1)) ||| sp_if (r n = -1) (0 : Int32) ((1 : Int32) <<< (nI n &&& 31)) := by
      rw [hj]
      show sp_mr r j ||| sp_if (r (9 - j) = -1) _ ((1 : Int32) <<< (nI (9 - j) &&& 31)) = _
      rw [show 9 - j = n from by omega, show 10 - (n + 1) = j from by omega]
    rw [e]
    show (sp_mk r n ||| sp_if (r n = -1) (0 : Int32) ((1 : Int32) <<< (nI n &&& 31))) ||| _ = _
    rw [Int32.or_assoc, Int32.or_comm (sp_if _ _ _)]
theorem sp_mr_10 (r : Nat → Int32) : sp_mr r 10 = sp_mk r 10 := by
  rw [← sp_mr_mk r 10 (Nat.le_refl _)]
  exact Int32.or_zero
noncomputable def sp_dk (σ : sp_St) : Nat → Nat
  | 0 => 0
  | n + 1 => sp_dk σ n + sp_if (¬ σ (4 + n) = -1 ∧ ¬ sp_vis σ n) 1 0
theorem sp_vis_ne {σ : sp_St} {f : Nat} (h : sp_vis σ f) : ¬ σ (4 + f) = -1 := by
  obtain ⟨d, hd, h1, _⟩ := h
  rw [h1]; exact nI_ne1 (by omega)
theorem sp_dk_wd (σ : sp_St) (n : Nat) : sp_wd σ n = sp_fs σ n + sp_dk σ n := by
  induction n with
  | zero => rfl
  | succ n ih =>
    show sp_wd σ n + sp_if _ 0 1 = (sp_fs σ n + sp_if _ 1 0) + (sp_dk σ n + sp_if _ 1 0)
    by_cases c : σ (4 + n) = -1
    · have v : ¬ sp_vis σ n := fun z => sp_vis_ne z c
      rw [sp_if_t c, sp_if_f v, sp_if_f (fun z => z.1 c)]; omega
    · by_cases v : sp_vis σ n
      · rw [sp_if_f c, sp_if_t v, sp_if_f (fun z => z.2 v)]; omega
      · rw [sp_if_f c, sp_if_f v, sp_if_t ⟨c, v⟩]; omega
theorem sp_nr_k {r : Nat → Int32} {b L : Int32} (h : ∀ d, d < 10 → r d = -1 ∨ ∃ j, j < 3 ∧ r d = nI j) (hL : sp_b15 L) : ∀ d, d ≤ 10 → ∃ k, k ≤ 16 ∧ (sp_nr r b L d).2 = nI k := by
  intro d
  induction d with
  | zero => intro _; exact ⟨16, Nat.le_refl _, rfl⟩
  | succ d ih =>
    intro hd
    obtain ⟨k, hk, e⟩ := ih (by omega)
    have e1 : sp_nr r b L (d + 1) = sp_if (r d = -1) (sp_nr r b L d) (sp_if (sp_pop (L ^^^ sp_sh b d (r d)) < (sp_nr r b L d).2) (nI d, sp_pop (L ^^^ sp_sh b d (r d))) (sp_if (sp_pop (L ^^^ sp_sh b d (r d)) = (sp_nr r b L d).2) (-1, (sp_nr r b L d).2) (sp_nr r b L d))) := rfl
    by_cases c : r d = -1
    · rw [e1, sp_if_t c]; exact ⟨k, hk, e⟩
    · rw [e1, sp_if_f c]
      by_cases c2 : sp_pop (L ^^^ sp_sh b d (r d)) < (sp_nr r b L d).2
      · rw [sp_if_t c2]
        obtain ⟨j, hj, hr⟩ := (h d (by omega)).resolve_left c
        rw [hr]
        obtain ⟨i, hi, e2⟩ := sp_pop_k (sp_b15_xor hL (sp_b15_sh (b := b) (d := d) (by omega) hj))
        exact ⟨i, by omega, e2⟩
      · rw [sp_if_f c2]
        by_cases c3 : sp_pop (L ^^^ sp_sh b d (r d)) = (sp_nr r b L d).2
        · rw [sp_if_t c3]; exact ⟨k, hk, e⟩
        · rw [sp_if_f c3]; exact ⟨k, hk, e⟩
section SM
variable {g : mm_Gg} {I : mm_Is} {x y z : Int32} {l d k t u f w n : Nat} {σ : sp_St}
theorem r_laysFor (h : sp_N I σ) (ok : sp_ok σ) (hf : f < 4) : ∃ I', mm_M 102 2 [.ref 61, .int (nI f)] g I (some (.int (nI (sp_no (sp_R σ f) 10)))) I' ∧ (sp_L I' 67 (sp_R σ f) ∧ sp_f2 I I') := by
  obtain ⟨I', hM, h1, h2⟩ := r_lays (g := g) (I := I) (p := 67) (b := σ (8 + f)) (s := σ 1) h.1 (mm_fac rfl) (by decide) (ok.2.1 f hf)
  refine ⟨I', ?_, h1, fun q a _ => h2 q a⟩
  refine w_M ?_
  show mm_W 102 0 [.ref 61, .int (nI f)] [] _ _ _
  generalize hF : mm_EX _ _ _ = F
  refine w_st rfl rfl rfl trivial ?_
  refine w_st rfl rfl rfl trivial ?_
  refine w_gr (j := 67) rfl (mm_foc rfl) rfl (by decide) ?_
  refine w_st rfl rfl rfl trivial ?_
  refine w_gr (j := 63) rfl (mm_foc rfl) rfl (by decide) ?_
  refine w_st rfl rfl rfl trivial ?_
  refine w_st rfl rfl rfl trivial ?_
  refine w_iadd rfl ?_
  refine w_ia (8 + f) rfl (mm_fac (n := 72) rfl) (by first | rfl | assumption | (simp only [← nI_add, ← nI_mul]; rfl)) (by first | decide | omega) ?_
  rw [h.2 _ (by omega)]
  refine w_st rfl rfl rfl trivial ?_
  refine w_gr (j := 63) rfl (mm_foc rfl) rfl (by decide) ?_
  refine w_st rfl rfl rfl trivial ?_
  refine w_ia (1) rfl (mm_fac (n := 72) rfl) (by first | rfl | assumption | (simp only [← nI_add, ← nI_mul]; rfl)) (by first | decide | omega) ?_
  rw [h.2 _ (by omega)]
  refine w_k41 (hM) rfl ⟨rfl, by decide, by decide, by decide, Or.inl ⟨_, rfl⟩⟩ (Nat.le_of_ble_eq_true rfl) (mm_foc rfl) (Nat.le_of_ble_eq_true rfl) ?_  -- calls 101 cX5_lays
  refine w_reti rfl ?_
  exact hF ▸ mm_EX_i (rfl)
theorem r_lights (h : sp_N I σ) (ok : sp_ok σ) (hf : f < 4) : ∃ I', mm_M 105 3 [.ref 61, .int (nI f)] g I (some (.int (sp_lit σ f))) I' ∧ (sp_L I' 67 (sp_R σ f) ∧ sp_f2 I I') := by
  obtain ⟨I', hM, h1, h2⟩ := r_laysFor (g := g) h ok hf
  have h' := sp_N_f2 h h2
  refine ⟨I', ?_, h1, h2⟩
  refine w_M ?_
  show mm_W 105 0 [.ref 61, .int (nI f), .null] [] _ _ _
  generalize hF : mm_EX _ _ _ = F
  refine w_st rfl rfl rfl trivial ?_
  refine w_st rfl rfl rfl trivial ?_
  refine w_k21 (hM) rfl ⟨rfl, by decide, by decide, by decide, Or.inl ⟨_, rfl⟩⟩ (Nat.le_of_ble_eq_true rfl) (mm_foc rfl) (Nat.le_of_ble_eq_true rfl) ?_  -- calls 102 cX5_laysFor
  refine w_st rfl rfl rfl trivial ?_
  refine w_st rfl rfl rfl trivial ?_
  refine w_gr (j := 63) rfl (mm_foc rfl) rfl (by decide) ?_
  refine w_st rfl rfl rfl trivial ?_
  refine w_st rfl rfl rfl trivial ?_
  refine w_iadd rfl ?_
  refine w_ia (4 + f) rfl (mm_fac (n := 72) rfl) (by first | rfl | assumption | (simp only [← nI_add, ← nI_mul]; rfl)) (by first | decide | omega) ?_
  rw [h'.2 _ (by omega)]
  refine w_st rfl rfl rfl (Nat.le_of_ble_eq_true rfl) ?_
  refine w_st rfl rfl rfl trivial ?_
  refine w_st rfl rfl rfl trivial ?_
  refine w_v_eq rfl (fun c1 => ?_) (fun c1 => ?_)
  · skip
    refine w_st rfl rfl rfl trivial ?_
    refine w_st rfl rfl rfl trivial ?_
    refine w_reti rfl ?_
    exact hF ▸ mm_EX_i ((sp_if_f (fun z => sp_vis_ne z c1) _ _).symm)
  · obtain ⟨d, hd, e⟩ := (ok.1 f hf).resolve_left c1
    unfold sp_lit at hF
    rw [e, nI_clamp (show d < 2 ^ 31 by omega)] at hF
    rw [e]
    refine w_st rfl rfl rfl trivial ?_
    refine w_gr (j := 67) rfl (mm_foc rfl) rfl (by decide) ?_
    refine w_st rfl rfl rfl trivial ?_
    refine w_ia (d) rfl (mm_fac (n := 10) rfl) (by first | rfl | assumption | (simp only [← nI_add, ← nI_mul]; rfl)) (by first | decide | omega) ?_
    rw [h1 d hd]
    refine w_st rfl rfl rfl trivial ?_
    refine w_v_ne rfl (fun c2 => ?_) (fun c2 => ?_)
    · rw [sp_if_t (show sp_vis σ f from ⟨d, hd, e, c2⟩)] at hF
      refine w_st rfl rfl rfl trivial ?_
      refine w_st rfl rfl rfl trivial ?_
      refine w_st rfl rfl rfl trivial ?_
      refine w_gr (j := 67) rfl (mm_foc rfl) rfl (by decide) ?_
      refine w_st rfl rfl rfl trivial ?_
      refine w_ia (d) rfl (mm_fac (n := 10) rfl) (by first | rfl | assumption | (simp only [← nI_add, ← nI_mul]; rfl)) (by first | decide | omega) ?_
      rw [h1 d hd]
      refine w_st rfl rfl rfl trivial ?_
      refine w_gr (j := 63) rfl (mm_foc rfl) rfl (by decide) ?_
      refine w_st rfl rfl rfl trivial ?_
      refine w_st rfl rfl rfl trivial ?_
      refine w_iadd rfl ?_
      refine w_ia (8 + f) rfl (mm_fac (n := 72) rfl) (by first | rfl | assumption | (simp only [← nI_add, ← nI_mul]; rfl)) (by first | decide | omega) ?_
      rw [h'.2 _ (by omega)]
      obtain ⟨k, hk, hr⟩ := (sp_row_k (b := σ (8 + f)) (s := σ 1) hd).resolve_left c2
      rw [show sp_R σ f d = nI k from hr] at hF ⊢
      refine w_k41 (r_shown h'.1 hd hk) rfl ⟨rfl, by decide, by decide, by decide, Or.inl ⟨_, rfl⟩⟩ (Nat.le_of_ble_eq_true rfl) (mm_foc rfl) (Nat.le_of_ble_eq_true rfl) ?_  -- calls 98 cX5_shown
      refine w_reti rfl ?_
      exact hF ▸ mm_EX_i (rfl)
    · skip
      refine w_st rfl rfl rfl trivial ?_
      refine w_st rfl rfl rfl trivial ?_
      refine w_reti rfl ?_
      exact hF ▸ mm_EX_i ((sp_if_f (fun z => by obtain ⟨d', hd', e', z⟩ := z; rw [e] at e'; have := (nI_eq (by omega) (by omega)).1 e'; subst this; exact z c2) _ _).symm)
theorem r_isDark (h : sp_N I σ) (ok : sp_ok σ) (hf : f < 4) : ∃ I', mm_M 106 3 [.ref 61, .int (nI f)] g I (some (.int (mm_bi (¬ sp_vis σ f)))) I' ∧ (sp_L I' 67 (sp_R σ f) ∧ sp_f2 I I') := by
  obtain ⟨I', hM, h1, h2⟩ := r_laysFor (g := g) h ok hf
  have h' := sp_N_f2 h h2
  refine ⟨I', ?_, h1, h2⟩
  refine w_M ?_
  show mm_W 106 0 [.ref 61, .int (nI f), .null] [] _ _ _
  generalize hF : mm_EX _ _ _ = F
  refine w_st rfl rfl rfl trivial ?_
  refine w_st rfl rfl rfl trivial ?_
  refine w_k21 (hM) rfl ⟨rfl, by decide, by decide, by decide, Or.inl ⟨_, rfl⟩⟩ (Nat.le_of_ble_eq_true rfl) (mm_foc rfl) (Nat.le_of_ble_eq_true rfl) ?_  -- calls 102 cX5_laysFor
  refine w_st rfl rfl rfl trivial ?_
  refine w_st rfl rfl rfl trivial ?_
  refine w_gr (j := 63) rfl (mm_foc rfl) rfl (by decide) ?_
  refine w_st rfl rfl rfl trivial ?_
  refine w_st rfl rfl rfl trivial ?_
  refine w_iadd rfl ?_
  refine w_ia (4 + f) rfl (mm_fac (n := 72) rfl) (by first | rfl | assumption | (simp only [← nI_add, ← nI_mul]; rfl)) (by first | decide | omega) ?_
  rw [h'.2 _ (by omega)]
  refine w_st rfl rfl rfl (Nat.le_of_ble_eq_true rfl) ?_
  refine w_st rfl rfl rfl trivial ?_
  refine w_st rfl rfl rfl trivial ?_
  refine w_v_eq rfl (fun c1 => ?_) (fun c1 => ?_)
  · skip
    refine w_st rfl rfl rfl trivial ?_
    refine w_st rfl rfl rfl trivial ?_
    refine w_retz rfl (by first | exact Or.inl rfl | exact Or.inr rfl | exact mm_bi_01 _ | assumption) ?_
    exact hF ▸ mm_EX_i ((mm_bi_t (fun z => sp_vis_ne z c1)).symm)
  · obtain ⟨d, hd, e⟩ := (ok.1 f hf).resolve_left c1
    rw [e]
    refine w_st rfl rfl rfl trivial ?_
    refine w_gr (j := 67) rfl (mm_foc rfl) rfl (by decide) ?_
    refine w_st rfl rfl rfl trivial ?_
    refine w_ia (d) rfl (mm_fac (n := 10) rfl) (by first | rfl | assumption | (simp only [← nI_add, ← nI_mul]; rfl)) (by first | decide | omega) ?_
    rw [h1 d hd]
    refine w_st rfl rfl rfl trivial ?_
    refine w_v_ne rfl (fun c2 => ?_) (fun c2 => ?_)
    · skip
      refine w_st rfl rfl rfl trivial ?_
      refine w_retz rfl (by first | exact Or.inl rfl | exact Or.inr rfl | exact mm_bi_01 _ | assumption) ?_
      exact hF ▸ mm_EX_i ((mm_bi_f (fun z => z ⟨d, hd, e, c2⟩)).symm)
    · skip
      refine w_st rfl rfl rfl trivial ?_
      refine w_st rfl rfl rfl trivial ?_
      refine w_retz rfl (by first | exact Or.inl rfl | exact Or.inr rfl | exact mm_bi_01 _ | assumption) ?_
      exact hF ▸ mm_EX_i ((mm_bi_t (fun z => by obtain ⟨d', hd', e', z⟩ := z; rw [e] at e'; have := (nI_eq (by omega) (by omega)).1 e'; subst this; exact z c2)).symm)
theorem r_canShow (h : sp_N I σ) (ok : sp_ok σ) (hf : f < 4) (hx : x = -1 ∨ ∃ d, d < 10 ∧ x = nI d) : ∃ I', mm_M 107 3 [.ref 61, .int (nI f), .int x] g I (some (.int (mm_bi (x = -1 ∨ sp_can (sp_R σ f) x)))) I' ∧ (sp_L I' 67 (sp_R σ f) ∧ sp_f2 I I') := by
  obtain ⟨I', hM, h1, h2⟩ := r_laysFor (g := g) h ok hf
  have h' := sp_N_f2 h h2
  refine ⟨I', ?_, h1, h2⟩
  refine w_M ?_
  show mm_W 107 0 [.ref 61, .int (nI f), .int x] [] _ _ _
  generalize hF : mm_EX _ _ _ = F
  refine w_st rfl rfl rfl trivial ?_
  refine w_st rfl rfl rfl trivial ?_
  refine w_k21 (hM) rfl ⟨rfl, by decide, by decide, by decide, Or.inl ⟨_, rfl⟩⟩ (Nat.le_of_ble_eq_true rfl) (mm_foc rfl) (Nat.le_of_ble_eq_true rfl) ?_  -- calls 102 cX5_laysFor
  refine w_st rfl rfl rfl trivial ?_
  refine w_st rfl rfl rfl trivial ?_
  refine w_st rfl rfl rfl trivial ?_
  refine w_v_eq rfl (fun c1 => ?_) (fun c1 => ?_)
  · skip
    refine w_st rfl rfl rfl trivial ?_
    refine w_st rfl rfl rfl trivial ?_
    refine w_retz rfl (by first | exact Or.inl rfl | exact Or.inr rfl | exact mm_bi_01 _ | assumption) ?_
    exact hF ▸ mm_EX_i ((mm_bi_t (Or.inl c1)).symm)
  · obtain ⟨d, hd, e⟩ := hx.resolve_left c1
    subst e
    refine w_st rfl rfl rfl trivial ?_
    refine w_gr (j := 67) rfl (mm_foc rfl) rfl (by decide) ?_
    refine w_st rfl rfl rfl trivial ?_
    refine w_ia (d) rfl (mm_fac (n := 10) rfl) (by first | rfl | assumption | (simp only [← nI_add, ← nI_mul]; rfl)) (by first | decide | omega) ?_
    rw [h1 d hd]
    refine w_st rfl rfl rfl trivial ?_
    refine w_v_eq rfl (fun c2 => ?_) (fun c2 => ?_)
    · skip
      refine w_st rfl rfl rfl trivial ?_
      refine w_retz rfl (by first | exact Or.inl rfl | exact Or.inr rfl | exact mm_bi_01 _ | assumption) ?_
      exact hF ▸ mm_EX_i ((mm_bi_f (fun z => z.elim c1 (fun z => (sp_can_n hd).1 z c2))).symm)
    · skip
      refine w_st rfl rfl rfl trivial ?_
      refine w_st rfl rfl rfl trivial ?_
      refine w_retz rfl (by first | exact Or.inl rfl | exact Or.inr rfl | exact mm_bi_01 _ | assumption) ?_
      exact hF ▸ mm_EX_i ((mm_bi_t (Or.inr ((sp_can_n hd).2 c2))).symm)
theorem r_withDigit (h : sp_N I σ) : mm_M 110 3 [.ref 61] g I (some (.int (nI (sp_wd σ 4)))) I := by
  refine w_M ?_
  show mm_W 110 0 [.ref 61, .null, .null] [] _ _ _
  generalize hF : mm_EX _ _ _ = F
  refine w_st rfl rfl rfl trivial ?_
  refine w_st rfl rfl rfl (Nat.le_of_ble_eq_true rfl) ?_
  refine w_st rfl rfl rfl trivial ?_
  refine w_st rfl rfl rfl (Nat.le_of_ble_eq_true rfl) ?_
  refine mm_dn (P := fun j => mm_W 110 4 [.ref 61, .int (nI (sp_wd σ j)), .int (nI j)] [] g I F) (4) ?_ ?_ 0 (by first | decide | omega)
  · try dsimp only
    refine w_st rfl rfl rfl trivial ?_
    refine w_st rfl rfl rfl trivial ?_
    refine w_n_ge (a := 4) (b := 4) rfl (by first | decide | omega) (by first | decide | omega) (by first | rfl | assumption | (simp only [← nI_add, ← nI_mul]; rfl)) (by first | rfl | assumption | (simp only [← nI_add, ← nI_mul]; rfl)) (fun _ => ?_) (fun c => by exfalso; omega)
    refine w_st rfl rfl rfl trivial ?_
    refine w_reti rfl ?_
    exact hF ▸ mm_EX_i (rfl)
  · intro j hj ih
    try dsimp only at ih ⊢
    have e : sp_wd σ (j + 1) = sp_wd σ j + sp_if (σ (4 + j) = -1) 0 1 := rfl
    refine w_st rfl rfl rfl trivial ?_
    refine w_st rfl rfl rfl trivial ?_
    refine w_n_ge (a := j) (b := 4) rfl (by first | decide | omega) (by first | decide | omega) (by first | rfl | assumption | (simp only [← nI_add, ← nI_mul]; rfl)) (by first | rfl | assumption | (simp only [← nI_add, ← nI_mul]; rfl)) (fun c => by exfalso; omega) (fun _ => ?_)
    refine w_st rfl rfl rfl trivial ?_
    refine w_st rfl rfl rfl trivial ?_
    refine w_gr (j := 63) rfl (mm_foc rfl) rfl (by decide) ?_
    refine w_st rfl rfl rfl trivial ?_
    refine w_st rfl rfl rfl trivial ?_
    refine w_iadd rfl ?_
    refine w_ia (4 + j) rfl (mm_fac (n := 72) rfl) (by first | rfl | assumption | (simp only [← nI_add, ← nI_mul]; rfl)) (by first | decide | omega) ?_
    rw [h.2 _ (by omega)]
    refine w_st rfl rfl rfl trivial ?_
    refine w_v_ne rfl (fun c => ?_) (fun c => ?_)
    · rw [sp_if_f c] at e
      refine w_st rfl rfl rfl trivial ?_
      refine w_iadd rfl ?_
      refine w_hd (nI_1 _) ?_
      refine w_st rfl rfl rfl (Nat.le_of_ble_eq_true rfl) ?_
      refine w_inc rfl rfl rfl (Nat.le_of_ble_eq_true rfl) (nI_1 _) ?_
      refine w_st rfl rfl rfl trivial ?_
      rw [e] at ih; exact ih
    · rw [sp_if_t c] at e
      refine w_st rfl rfl rfl trivial ?_
      refine w_st rfl rfl rfl trivial ?_
      refine w_iadd rfl ?_
      refine w_hd (nI_add _ 0) ?_
      refine w_st rfl rfl rfl (Nat.le_of_ble_eq_true rfl) ?_
      refine w_inc rfl rfl rfl (Nat.le_of_ble_eq_true rfl) (nI_1 _) ?_
      refine w_st rfl rfl rfl trivial ?_
      rw [e] at ih; exact ih
theorem r_burnt (h : sp_N I σ) (ok : sp_ok σ) : mm_M 126 3 [.ref 61] g I (some (.int (sp_bl σ 4))) I := by
  refine w_M ?_
  show mm_W 126 0 [.ref 61, .null, .null] [] _ _ _
  generalize hF : mm_EX _ _ _ = F
  refine w_st rfl rfl rfl trivial ?_
  refine w_st rfl rfl rfl (Nat.le_of_ble_eq_true rfl) ?_
  refine w_st rfl rfl rfl trivial ?_
  refine w_st rfl rfl rfl (Nat.le_of_ble_eq_true rfl) ?_
  refine mm_dn (P := fun j => mm_W 126 4 [.ref 61, .int (sp_bl σ j), .int (nI j)] [] g I F) (4) ?_ ?_ 0 (by first | decide | omega)
  · try dsimp only
    refine w_st rfl rfl rfl trivial ?_
    refine w_st rfl rfl rfl trivial ?_
    refine w_n_ge (a := 4) (b := 4) rfl (by first | decide | omega) (by first | decide | omega) (by first | rfl | assumption | (simp only [← nI_add, ← nI_mul]; rfl)) (by first | rfl | assumption | (simp only [← nI_add, ← nI_mul]; rfl)) (fun _ => ?_) (fun c => by exfalso; omega)
    refine w_st rfl rfl rfl trivial ?_
    refine w_reti rfl ?_
    exact hF ▸ mm_EX_i (rfl)
  · intro j hj ih
    try dsimp only at ih ⊢
    refine w_st rfl rfl rfl trivial ?_
    refine w_st rfl rfl rfl trivial ?_
    refine w_n_ge (a := j) (b := 4) rfl (by first | decide | omega) (by first | decide | omega) (by first | rfl | assumption | (simp only [← nI_add, ← nI_mul]; rfl)) (by first | rfl | assumption | (simp only [← nI_add, ← nI_mul]; rfl)) (fun c => by exfalso; omega) (fun _ => ?_)
    refine w_st rfl rfl rfl trivial ?_
    refine w_st rfl rfl rfl trivial ?_
    refine w_gr (j := 63) rfl (mm_foc rfl) rfl (by decide) ?_
    refine w_st rfl rfl rfl trivial ?_
    refine w_st rfl rfl rfl trivial ?_
    refine w_iadd rfl ?_
    refine w_ia (8 + j) rfl (mm_fac (n := 72) rfl) (by first | rfl | assumption | (simp only [← nI_add, ← nI_mul]; rfl)) (by first | decide | omega) ?_
    rw [h.2 _ (by omega)]
    refine w_k11 (r_ones (ok.2.1 j hj)) rfl ⟨rfl, by decide, by decide, by decide, Or.inr (Or.inl ⟨_, rfl⟩)⟩ (Nat.le_of_ble_eq_true rfl) trivial (Nat.le_of_ble_eq_true rfl) ?_  -- calls 95 cX5_ones
    refine w_iadd rfl ?_
    refine w_st rfl rfl rfl (Nat.le_of_ble_eq_true rfl) ?_
    refine w_inc rfl rfl rfl (Nat.le_of_ble_eq_true rfl) (nI_1 _) ?_
    refine w_st rfl rfl rfl trivial ?_
    exact ih
theorem r_allLit (h : sp_N I σ) (ok : sp_ok σ) : ∃ I', mm_M 137 3 [.ref 61] g I (some (.int (sp_ll σ 4))) I' ∧ sp_f2 I I' := by
  refine w_MX ?_
  show mm_W 137 0 [.ref 61, .null, .null] [] _ _ _
  generalize hF : mm_EQ _ _ _ = F
  refine w_st rfl rfl rfl trivial ?_
  refine w_st rfl rfl rfl (Nat.le_of_ble_eq_true rfl) ?_
  refine w_st rfl rfl rfl trivial ?_
  refine w_st rfl rfl rfl (Nat.le_of_ble_eq_true rfl) ?_
  have K : ∀ j, j ≤ 4 → ∀ I1, sp_f2 I I1 → mm_W 137 4 [.ref 61, .int (sp_ll σ j), .int (nI j)] [] g I1 F := by
    refine mm_dn 4 ?_ ?_
    · intro I1 h1
      refine w_st rfl rfl rfl trivial ?_
      refine w_st rfl rfl rfl trivial ?_
      refine w_n_ge (a := 4) (b := 4) rfl (by first | decide | omega) (by first | decide | omega) (by first | rfl | assumption | (simp only [← nI_add, ← nI_mul]; rfl)) (by first | rfl | assumption | (simp only [← nI_add, ← nI_mul]; rfl)) (fun _ => ?_) (fun c => by exfalso; omega)
      refine w_st rfl rfl rfl trivial ?_
      refine w_reti rfl ?_
      exact hF ▸ ⟨rfl, rfl, h1⟩
    · intro j hj ih I1 h1
      refine w_st rfl rfl rfl trivial ?_
      refine w_st rfl rfl rfl trivial ?_
      refine w_n_ge (a := j) (b := 4) rfl (by first | decide | omega) (by first | decide | omega) (by first | rfl | assumption | (simp only [← nI_add, ← nI_mul]; rfl)) (by first | rfl | assumption | (simp only [← nI_add, ← nI_mul]; rfl)) (fun c => by exfalso; omega) (fun _ => ?_)
      obtain ⟨I2, hM, _, h2⟩ := r_lights (g := g) (sp_N_f2 h h1) ok hj
      refine w_st rfl rfl rfl trivial ?_
      refine w_st rfl rfl rfl trivial ?_
      refine w_st rfl rfl rfl trivial ?_
      refine w_k21 (hM) rfl ⟨rfl, by decide, by decide, by decide, Or.inl ⟨_, rfl⟩⟩ (Nat.le_of_ble_eq_true rfl) (mm_foc rfl) (Nat.le_of_ble_eq_true rfl) ?_  -- calls 105 cX5_lights
      refine w_k11 (r_ones sp_lit_b) rfl ⟨rfl, by decide, by decide, by decide, Or.inr (Or.inl ⟨_, rfl⟩)⟩ (Nat.le_of_ble_eq_true rfl) trivial (Nat.le_of_ble_eq_true rfl) ?_  -- calls 95 cX5_ones
      refine w_iadd rfl ?_
      refine w_st rfl rfl rfl (Nat.le_of_ble_eq_true rfl) ?_
      refine w_inc rfl rfl rfl (Nat.le_of_ble_eq_true rfl) (nI_1 _) ?_
      refine w_st rfl rfl rfl trivial ?_
      exact ih I2 (sp_f2_t h1 h2)
  exact K 0 (by decide) I sp_f2_rf
theorem r_darkOnes (h : sp_N I σ) (ok : sp_ok σ) : ∃ I', mm_M 136 3 [.ref 61] g I (some (.int (nI (sp_dk σ 4)))) I' ∧ sp_f2 I I' := by
  refine w_MX ?_
  show mm_W 136 0 [.ref 61, .null, .null] [] _ _ _
  generalize hF : mm_EQ _ _ _ = F
  refine w_st rfl rfl rfl trivial ?_
  refine w_st rfl rfl rfl (Nat.le_of_ble_eq_true rfl) ?_
  refine w_st rfl rfl rfl trivial ?_
  refine w_st rfl rfl rfl (Nat.le_of_ble_eq_true rfl) ?_
  have K : ∀ j, j ≤ 4 → ∀ I1, sp_f2 I I1 → mm_W 136 4 [.ref 61, .int (nI (sp_dk σ j)), .int (nI j)] [] g I1 F := by
    refine mm_dn 4 ?_ ?_
    · intro I1 h1
      refine w_st rfl rfl rfl trivial ?_
      refine w_st rfl rfl rfl trivial ?_
      refine w_n_ge (a := 4) (b := 4) rfl (by first | decide | omega) (by first | decide | omega) (by first | rfl | assumption | (simp only [← nI_add, ← nI_mul]; rfl)) (by first | rfl | assumption | (simp only [← nI_add, ← nI_mul]; rfl)) (fun _ => ?_) (fun c => by exfalso; omega)
      refine w_st rfl rfl rfl trivial ?_
      refine w_reti rfl ?_
      exact hF ▸ ⟨rfl, rfl, h1⟩
    · intro j hj ih I1 h1
      have e : sp_dk σ (j + 1) = sp_dk σ j + sp_if (¬ σ (4 + j) = -1 ∧ ¬ sp_vis σ j) 1 0 := rfl
      refine w_st rfl rfl rfl trivial ?_
      refine w_st rfl rfl rfl trivial ?_
      refine w_n_ge (a := j) (b := 4) rfl (by first | decide | omega) (by first | decide | omega) (by first | rfl | assumption | (simp only [← nI_add, ← nI_mul]; rfl)) (by first | rfl | assumption | (simp only [← nI_add, ← nI_mul]; rfl)) (fun c => by exfalso; omega) (fun _ => ?_)
      refine w_st rfl rfl rfl trivial ?_
      refine w_st rfl rfl rfl trivial ?_
      refine w_gr (j := 63) rfl (mm_foc rfl) rfl (by decide) ?_
      refine w_st rfl rfl rfl trivial ?_
      refine w_st rfl rfl rfl trivial ?_
      refine w_iadd rfl ?_
      refine w_ia (4 + j) rfl (mm_fac (n := 72) rfl) (by first | rfl | assumption | (simp only [← nI_add, ← nI_mul]; rfl)) (by first | decide | omega) ?_
      rw [(sp_N_f2 h h1).2 _ (by omega)]
      refine w_st rfl rfl rfl trivial ?_
      refine w_v_eq rfl (fun c1 => ?_) (fun c1 => ?_)
      · rw [sp_if_f (fun z => z.1 c1)] at e
        refine w_st rfl rfl rfl trivial ?_
        refine w_iadd rfl ?_
        refine w_hd (nI_add _ 0) ?_
        refine w_st rfl rfl rfl (Nat.le_of_ble_eq_true rfl) ?_
        refine w_inc rfl rfl rfl (Nat.le_of_ble_eq_true rfl) (nI_1 _) ?_
        refine w_st rfl rfl rfl trivial ?_
        rw [e] at ih; exact ih I1 h1
      · obtain ⟨I2, hM, _, h2⟩ := r_isDark (g := g) (sp_N_f2 h h1) ok hj
        refine w_st rfl rfl rfl trivial ?_
        refine w_st rfl rfl rfl trivial ?_
        refine w_k21 (hM) rfl ⟨rfl, by decide, by decide, by decide, Or.inl ⟨_, rfl⟩⟩ (Nat.le_of_ble_eq_true rfl) (mm_foc rfl) (Nat.le_of_ble_eq_true rfl) ?_  -- calls 106 cX5_isDark
        refine w_b_eq rfl (fun c2 => ?_) (fun c2 => ?_)
        · rw [sp_if_f (fun z => c2 z.2)] at e
          refine w_st rfl rfl rfl trivial ?_
          refine w_iadd rfl ?_
          refine w_hd (nI_add _ 0) ?_
          refine w_st rfl rfl rfl (Nat.le_of_ble_eq_true rfl) ?_
          refine w_inc rfl rfl rfl (Nat.le_of_ble_eq_true rfl) (nI_1 _) ?_
          refine w_st rfl rfl rfl trivial ?_
          rw [e] at ih; exact ih I2 (sp_f2_t h1 h2)
        · rw [sp_if_t ⟨c1, c2⟩] at e
          refine w_st rfl rfl rfl trivial ?_
          refine w_st rfl rfl rfl trivial ?_
          refine w_iadd rfl ?_
          refine w_hd (nI_1 _) ?_
          refine w_st rfl rfl rfl (Nat.le_of_ble_eq_true rfl) ?_
          refine w_inc rfl rfl rfl (Nat.le_of_ble_eq_true rfl) (nI_1 _) ?_
          refine w_st rfl rfl rfl trivial ?_
          rw [e] at ih; exact ih I2 (sp_f2_t h1 h2)
  exact K 0 (by decide) I sp_f2_rf
theorem sp_ns_s (hf : f < 4) (a : Int32) : sp_ns σ (4 - f) a = sp_if (sp_vis σ f) (sp_ns σ (4 - (f + 1)) (sp_if (a = -1) (σ (4 + f)) (10 * a + σ (4 + f)))) (sp_if (¬ σ (4 + f) = -1 ∨ ¬ a = -1) (-1) (sp_ns σ (4 - (f + 1)) a)) := by
  obtain ⟨i, hi⟩ : ∃ i, 4 - f = i + 1 := ⟨3 - f, by omega⟩
  have h1 : 3 - i = f := by omega
  have h2 : 4 - (f + 1) = i := by omega
  rw [hi, h2]
  show sp_if (sp_vis σ (3 - i)) _ _ = _
  rw [h1]
theorem r_shownNumber (h : sp_N I σ) (ok : sp_ok σ) : ∃ I', mm_M 138 3 [.ref 61] g I (some (.int (sp_ns σ 4 (-1)))) I' ∧ sp_f2 I I' := by
  refine w_MX ?_
  show mm_W 138 0 [.ref 61, .null, .null] [] _ _ _
  generalize hF : mm_EQ _ _ _ = F
  refine w_st rfl rfl rfl trivial ?_
  refine w_st rfl rfl rfl (Nat.le_of_ble_eq_true rfl) ?_
  have K2 : ∀ f, f ≤ 4 → ∀ I1 v, sp_f2 I I1 → ((v = -1 ∧ sp_ns σ 4 (-1) = -1) ∨ ∃ a, sp_ns σ 4 (-1) = sp_ns σ (4 - f) a ∧ ((a = -1 ∧ v = 0 ∧ f < 4 ∧ ¬ σ (4 + f) = -1) ∨ (a = v ∧ ∃ n, n < 10 ^ f ∧ v = nI n))) → mm_W 138 36 [.ref 61, .int (nI f), .int v] [] g I1 F := by
    refine mm_dn 4 ?_ ?_
    · intro I1 v h1 hv
      refine w_st rfl rfl rfl trivial ?_
      refine w_st rfl rfl rfl trivial ?_
      refine w_n_ge (a := 4) (b := 4) rfl (by first | decide | omega) (by first | decide | omega) (by first | rfl | assumption | (simp only [← nI_add, ← nI_mul]; rfl)) (by first | rfl | assumption | (simp only [← nI_add, ← nI_mul]; rfl)) (fun _ => ?_) (fun c => by exfalso; omega)
      have e : v = sp_ns σ 4 (-1) := by
        rcases hv with ⟨e1, e2⟩ | ⟨a, e1, ⟨_, _, z, _⟩ | ⟨e2, _⟩⟩
        · rw [e1, e2]
        · exact absurd z (by decide)
        · rw [e1, e2]; rfl
      refine w_st rfl rfl rfl trivial ?_
      refine w_reti rfl ?_
      exact hF ▸ ⟨by rw [e], rfl, h1⟩
    · intro f hf ih I1 v h1 hv
      refine w_st rfl rfl rfl trivial ?_
      refine w_st rfl rfl rfl trivial ?_
      refine w_n_ge (a := f) (b := 4) rfl (by first | decide | omega) (by first | decide | omega) (by first | rfl | assumption | (simp only [← nI_add, ← nI_mul]; rfl)) (by first | rfl | assumption | (simp only [← nI_add, ← nI_mul]; rfl)) (fun c => by exfalso; omega) (fun _ => ?_)
      refine w_st rfl rfl rfl trivial ?_
      refine w_st rfl rfl rfl trivial ?_
      refine w_v_eq rfl (fun c1 => ?_) (fun c1 => ?_)
      · have e2 : sp_ns σ 4 (-1) = -1 := by
          rcases hv with ⟨_, e2⟩ | ⟨a, e1, ⟨_, z, _⟩ | ⟨_, n, hn, z⟩⟩
          · exact e2
          · exact absurd (z.symm.trans c1) (by decide)
          · have hp := Nat.pow_le_pow_right (n := 10) (by decide) (show f ≤ 4 by omega)
            exact absurd (z.symm.trans c1) (nI_ne1 (by omega))
        refine w_st rfl rfl rfl trivial ?_
        refine w_st rfl rfl rfl trivial ?_
        refine w_st rfl rfl rfl (Nat.le_of_ble_eq_true rfl) ?_
        refine w_inc rfl rfl rfl (Nat.le_of_ble_eq_true rfl) (nI_1 _) ?_
        refine w_st rfl rfl rfl trivial ?_
        exact ih I1 (-1) h1 (Or.inl ⟨rfl, e2⟩)
      · have hv' := hv.resolve_left (fun z => c1 z.1)
        obtain ⟨a, e1, e2⟩ := hv'
        obtain ⟨I2, hM, _, h2⟩ := r_isDark (g := g) (sp_N_f2 h h1) ok hf
        rw [sp_ns_s hf] at e1
        refine w_st rfl rfl rfl trivial ?_
        refine w_st rfl rfl rfl trivial ?_
        refine w_k21 (hM) rfl ⟨rfl, by decide, by decide, by decide, Or.inl ⟨_, rfl⟩⟩ (Nat.le_of_ble_eq_true rfl) (mm_foc rfl) (Nat.le_of_ble_eq_true rfl) ?_  -- calls 106 cX5_isDark
        refine w_b_eq rfl (fun c2 => ?_) (fun c2 => ?_)
        · have c3 : sp_vis σ f := Classical.not_not.1 c2
          rw [sp_if_t c3] at e1
          obtain ⟨d, hd, hdd, _⟩ := c3
          rw [hdd] at e1
          refine w_st rfl rfl rfl trivial ?_
          refine w_st rfl rfl rfl trivial ?_
          refine w_imul rfl ?_
          refine w_st rfl rfl rfl trivial ?_
          refine w_gr (j := 63) rfl (mm_foc rfl) rfl (by decide) ?_
          refine w_st rfl rfl rfl trivial ?_
          refine w_st rfl rfl rfl trivial ?_
          refine w_iadd rfl ?_
          refine w_ia (4 + f) rfl (mm_fac (n := 72) rfl) (by first | rfl | assumption | (simp only [← nI_add, ← nI_mul]; rfl)) (by first | decide | omega) ?_
          rw [(sp_N_f2 h (sp_f2_t h1 h2)).2 _ (by omega), hdd]
          refine w_iadd rfl ?_
          refine w_st rfl rfl rfl (Nat.le_of_ble_eq_true rfl) ?_
          refine w_inc rfl rfl rfl (Nat.le_of_ble_eq_true rfl) (nI_1 _) ?_
          refine w_st rfl rfl rfl trivial ?_
          refine ih I2 _ (sp_f2_t h1 h2) (Or.inr ⟨_, e1, Or.inr ?_⟩)
          rcases e2 with ⟨a1, v0, _⟩ | ⟨av, n, hn, vn⟩
          · rw [sp_if_t a1, v0]
            have e3 : (10 : Int32) * 0 + nI d = nI d := by show nI 10 * nI 0 + nI d = _; rw [nI_mul, nI_add, Nat.mul_zero, Nat.zero_add]
            refine ⟨e3.symm, d, ?_, e3⟩
            have := Nat.pow_le_pow_right (n := 10) (by decide) (show 1 ≤ f + 1 by omega)
            omega
          · have hp := Nat.pow_le_pow_right (n := 10) (by decide) (show f ≤ 4 by omega)
            have e4 : 10 ^ (f + 1) = 10 ^ f * 10 := Nat.pow_succ ..
            rw [sp_if_f (by rw [av, vn]; exact nI_ne1 (by omega)), av]
            refine ⟨rfl, 10 * n + d, by omega, ?_⟩
            rw [vn]; show nI 10 * nI n + nI d = _; rw [nI_mul, nI_add]
        · rw [sp_if_f c2, sp_if_t (by
            rcases e2 with ⟨_, _, _, z⟩ | ⟨av, n, hn, vn⟩
            · exact Or.inl z
            · exact Or.inr (by rw [av]; exact c1))] at e1
          refine w_st rfl rfl rfl trivial ?_
          refine w_st rfl rfl rfl trivial ?_
          refine w_st rfl rfl rfl (Nat.le_of_ble_eq_true rfl) ?_
          refine w_inc rfl rfl rfl (Nat.le_of_ble_eq_true rfl) (nI_1 _) ?_
          refine w_st rfl rfl rfl trivial ?_
          exact ih I2 (-1) (sp_f2_t h1 h2) (Or.inl ⟨rfl, e1⟩)
  have K : ∀ f, f ≤ 4 → sp_ns σ 4 (-1) = sp_ns σ (4 - f) (-1) → mm_W 138 2 [.ref 61, .int (nI f), .null] [] g I F := by
    refine mm_dn 4 ?_ ?_
    · intro e
      refine w_st rfl rfl rfl trivial ?_
      refine w_st rfl rfl rfl trivial ?_
      refine w_n_ge (a := 4) (b := 4) rfl (by first | decide | omega) (by first | decide | omega) (by first | rfl | assumption | (simp only [← nI_add, ← nI_mul]; rfl)) (by first | rfl | assumption | (simp only [← nI_add, ← nI_mul]; rfl)) (fun _ => ?_) (fun c => by exfalso; omega)
      refine w_st rfl rfl rfl trivial ?_
      refine w_st rfl rfl rfl trivial ?_
      refine w_n_ne (a := 4) (b := 4) rfl (by first | decide | omega) (by first | decide | omega) (by first | rfl | assumption | (simp only [← nI_add, ← nI_mul]; rfl)) (by first | rfl | assumption | (simp only [← nI_add, ← nI_mul]; rfl)) (fun c => by exfalso; omega) (fun _ => ?_)
      refine w_st rfl rfl rfl trivial ?_
      refine w_st rfl rfl rfl trivial ?_
      refine w_st rfl rfl rfl (Nat.le_of_ble_eq_true rfl) ?_
      exact K2 4 (by decide) I (-1) sp_f2_rf (Or.inl ⟨rfl, e⟩)
    · intro f hf ih e
      refine w_st rfl rfl rfl trivial ?_
      refine w_st rfl rfl rfl trivial ?_
      refine w_n_ge (a := f) (b := 4) rfl (by first | decide | omega) (by first | decide | omega) (by first | rfl | assumption | (simp only [← nI_add, ← nI_mul]; rfl)) (by first | rfl | assumption | (simp only [← nI_add, ← nI_mul]; rfl)) (fun c => by exfalso; omega) (fun _ => ?_)
      refine w_st rfl rfl rfl trivial ?_
      refine w_gr (j := 63) rfl (mm_foc rfl) rfl (by decide) ?_
      refine w_st rfl rfl rfl trivial ?_
      refine w_st rfl rfl rfl trivial ?_
      refine w_iadd rfl ?_
      refine w_ia (4 + f) rfl (mm_fac (n := 72) rfl) (by first | rfl | assumption | (simp only [← nI_add, ← nI_mul]; rfl)) (by first | decide | omega) ?_
      rw [h.2 _ (by omega)]
      refine w_st rfl rfl rfl trivial ?_
      refine w_v_ne rfl (fun c => ?_) (fun c => ?_)
      · skip
        refine w_st rfl rfl rfl trivial ?_
        refine w_st rfl rfl rfl trivial ?_
        refine w_n_ne (a := f) (b := 4) rfl (by first | decide | omega) (by first | decide | omega) (by first | rfl | assumption | (simp only [← nI_add, ← nI_mul]; rfl)) (by first | rfl | assumption | (simp only [← nI_add, ← nI_mul]; rfl)) (fun _ => ?_) (fun c => by exfalso; omega)
        refine w_st rfl rfl rfl trivial ?_
        refine w_st rfl rfl rfl (Nat.le_of_ble_eq_true rfl) ?_
        exact K2 f (by omega) I 0 sp_f2_rf (Or.inr ⟨-1, e, Or.inl ⟨rfl, rfl, hf, c⟩⟩)
      · skip
        refine w_inc rfl rfl rfl (Nat.le_of_ble_eq_true rfl) (nI_1 _) ?_
        refine w_st rfl rfl rfl trivial ?_
        refine ih (e.trans ?_)
        rw [sp_ns_s hf, sp_if_f (fun z => sp_vis_ne z c), sp_if_f (fun z => z.elim (fun z => z c) (fun z => z rfl))]
  exact K 0 (by decide) rfl
theorem r_counted (h : sp_N I σ) (ok : sp_ok σ) (hk : I 61 3 = nI k) (hw : w < 8) : ∃ I', mm_M 139 2 [.ref 61, .int (nI w)] g I (some (.int (sp_cn σ k w))) I' ∧ sp_f2 I I' := by
  obtain ⟨I3, hM3, h3⟩ := r_darkOnes (g := g) h ok
  obtain ⟨I4, hM4, h4⟩ := r_allLit (g := g) h ok
  obtain ⟨I6, hM6, h6⟩ := r_shownNumber (g := g) h ok
  refine w_MX ?_
  show mm_W 139 0 [.ref 61, .int (nI w)] [] _ _ _
  generalize hF : mm_EQ _ _ _ = F
  refine w_st rfl rfl rfl trivial ?_
  refine w_st rfl rfl rfl trivial ?_
  have hw' : w = 0 ∨ w = 1 ∨ w = 2 ∨ w = 3 ∨ w = 4 ∨ w = 5 ∨ w = 6 ∨ w = 7 := by omega
  rcases hw' with rfl | rfl | rfl | rfl | rfl | rfl | rfl | rfl
  · skip
    refine w_n_ge (a := 0) (b := 4) rfl (by first | decide | omega) (by first | decide | omega) (by first | rfl | assumption | (simp only [← nI_add, ← nI_mul]; rfl)) (by first | rfl | assumption | (simp only [← nI_add, ← nI_mul]; rfl)) (fun c => by exfalso; omega) (fun _ => ?_)
    refine w_st rfl rfl rfl trivial ?_
    refine w_m_ne (a := 0) rfl (by first | decide | omega) (by first | rfl | assumption | (simp only [← nI_add, ← nI_mul]; rfl)) (fun c => by exfalso; omega) (fun _ => ?_)
    refine w_st rfl rfl rfl trivial ?_
    refine w_gr (j := 63) rfl (mm_foc rfl) rfl (by decide) ?_
    refine w_st rfl rfl rfl trivial ?_
    refine w_ia (0) rfl (mm_fac (n := 72) rfl) (by first | rfl | assumption | (simp only [← nI_add, ← nI_mul]; rfl)) (by first | decide | omega) ?_
    rw [h.2 _ (by omega)]
    refine w_st rfl rfl rfl trivial ?_
    refine w_reti rfl ?_
    exact hF ▸ ⟨rfl, rfl, sp_f2_rf⟩
  · skip
    refine w_n_ge (a := 1) (b := 4) rfl (by first | decide | omega) (by first | decide | omega) (by first | rfl | assumption | (simp only [← nI_add, ← nI_mul]; rfl)) (by first | rfl | assumption | (simp only [← nI_add, ← nI_mul]; rfl)) (fun c => by exfalso; omega) (fun _ => ?_)
    refine w_st rfl rfl rfl trivial ?_
    refine w_m_ne (a := 1) rfl (by first | decide | omega) (by first | rfl | assumption | (simp only [← nI_add, ← nI_mul]; rfl)) (fun _ => ?_) (fun c => by exfalso; omega)
    refine w_st rfl rfl rfl trivial ?_
    refine w_st rfl rfl rfl trivial ?_
    refine w_n_ne (a := 1) (b := 1) rfl (by first | decide | omega) (by first | decide | omega) (by first | rfl | assumption | (simp only [← nI_add, ← nI_mul]; rfl)) (by first | rfl | assumption | (simp only [← nI_add, ← nI_mul]; rfl)) (fun c => by exfalso; omega) (fun _ => ?_)
    refine w_st rfl rfl rfl trivial ?_
    refine w_k11 (r_burnt h ok) rfl ⟨rfl, by decide, by decide, by decide, Or.inl ⟨_, rfl⟩⟩ (Nat.le_of_ble_eq_true rfl) (mm_foc rfl) (Nat.le_of_ble_eq_true rfl) ?_  -- calls 126 cX5_burnt
    refine w_st rfl rfl rfl trivial ?_
    refine w_reti rfl ?_
    exact hF ▸ ⟨rfl, rfl, sp_f2_rf⟩
  · skip
    refine w_n_ge (a := 2) (b := 4) rfl (by first | decide | omega) (by first | decide | omega) (by first | rfl | assumption | (simp only [← nI_add, ← nI_mul]; rfl)) (by first | rfl | assumption | (simp only [← nI_add, ← nI_mul]; rfl)) (fun c => by exfalso; omega) (fun _ => ?_)
    refine w_st rfl rfl rfl trivial ?_
    refine w_m_ne (a := 2) rfl (by first | decide | omega) (by first | rfl | assumption | (simp only [← nI_add, ← nI_mul]; rfl)) (fun _ => ?_) (fun c => by exfalso; omega)
    refine w_st rfl rfl rfl trivial ?_
    refine w_st rfl rfl rfl trivial ?_
    refine w_n_ne (a := 2) (b := 1) rfl (by first | decide | omega) (by first | decide | omega) (by first | rfl | assumption | (simp only [← nI_add, ← nI_mul]; rfl)) (by first | rfl | assumption | (simp only [← nI_add, ← nI_mul]; rfl)) (fun _ => ?_) (fun c => by exfalso; omega)
    refine w_st rfl rfl rfl trivial ?_
    refine w_st rfl rfl rfl trivial ?_
    refine w_n_ne (a := 2) (b := 2) rfl (by first | decide | omega) (by first | decide | omega) (by first | rfl | assumption | (simp only [← nI_add, ← nI_mul]; rfl)) (by first | rfl | assumption | (simp only [← nI_add, ← nI_mul]; rfl)) (fun c => by exfalso; omega) (fun _ => ?_)
    refine w_st rfl rfl rfl trivial ?_
    refine w_k11 (r_withDigit h) rfl ⟨rfl, by decide, by decide, by decide, Or.inl ⟨_, rfl⟩⟩ (Nat.le_of_ble_eq_true rfl) (mm_foc rfl) (Nat.le_of_ble_eq_true rfl) ?_  -- calls 110 cX5_withDigit
    refine w_st rfl rfl rfl trivial ?_
    refine w_reti rfl ?_
    exact hF ▸ ⟨rfl, rfl, sp_f2_rf⟩
  · skip
    refine w_n_ge (a := 3) (b := 4) rfl (by first | decide | omega) (by first | decide | omega) (by first | rfl | assumption | (simp only [← nI_add, ← nI_mul]; rfl)) (by first | rfl | assumption | (simp only [← nI_add, ← nI_mul]; rfl)) (fun c => by exfalso; omega) (fun _ => ?_)
    refine w_st rfl rfl rfl trivial ?_
    refine w_m_ne (a := 3) rfl (by first | decide | omega) (by first | rfl | assumption | (simp only [← nI_add, ← nI_mul]; rfl)) (fun _ => ?_) (fun c => by exfalso; omega)
    refine w_st rfl rfl rfl trivial ?_
    refine w_st rfl rfl rfl trivial ?_
    refine w_n_ne (a := 3) (b := 1) rfl (by first | decide | omega) (by first | decide | omega) (by first | rfl | assumption | (simp only [← nI_add, ← nI_mul]; rfl)) (by first | rfl | assumption | (simp only [← nI_add, ← nI_mul]; rfl)) (fun _ => ?_) (fun c => by exfalso; omega)
    refine w_st rfl rfl rfl trivial ?_
    refine w_st rfl rfl rfl trivial ?_
    refine w_n_ne (a := 3) (b := 2) rfl (by first | decide | omega) (by first | decide | omega) (by first | rfl | assumption | (simp only [← nI_add, ← nI_mul]; rfl)) (by first | rfl | assumption | (simp only [← nI_add, ← nI_mul]; rfl)) (fun _ => ?_) (fun c => by exfalso; omega)
    refine w_st rfl rfl rfl trivial ?_
    refine w_k11 (hM3) rfl ⟨rfl, by decide, by decide, by decide, Or.inl ⟨_, rfl⟩⟩ (Nat.le_of_ble_eq_true rfl) (mm_foc rfl) (Nat.le_of_ble_eq_true rfl) ?_  -- calls 136 cX5_darkOnes
    refine w_reti rfl ?_
    exact hF ▸ ⟨by show (0, some (Value.int _)) = (0, some (Value.int (nI (sp_wd σ 4) - nI (sp_fs σ 4)))); rw [sp_dk_wd, nI_sub (by omega), Nat.add_sub_cancel_left], rfl, h3⟩
  · skip
    refine w_n_ge (a := 4) (b := 4) rfl (by first | decide | omega) (by first | decide | omega) (by first | rfl | assumption | (simp only [← nI_add, ← nI_mul]; rfl)) (by first | rfl | assumption | (simp only [← nI_add, ← nI_mul]; rfl)) (fun _ => ?_) (fun c => by exfalso; omega)
    refine w_st rfl rfl rfl trivial ?_
    refine w_st rfl rfl rfl trivial ?_
    refine w_n_ne (a := 4) (b := 4) rfl (by first | decide | omega) (by first | decide | omega) (by first | rfl | assumption | (simp only [← nI_add, ← nI_mul]; rfl)) (by first | rfl | assumption | (simp only [← nI_add, ← nI_mul]; rfl)) (fun c => by exfalso; omega) (fun _ => ?_)
    refine w_st rfl rfl rfl trivial ?_
    refine w_k11 (hM4) rfl ⟨rfl, by decide, by decide, by decide, Or.inl ⟨_, rfl⟩⟩ (Nat.le_of_ble_eq_true rfl) (mm_foc rfl) (Nat.le_of_ble_eq_true rfl) ?_  -- calls 137 cX5_allLit
    refine w_st rfl rfl rfl trivial ?_
    refine w_reti rfl ?_
    exact hF ▸ ⟨rfl, rfl, h4⟩
  · skip
    refine w_n_ge (a := 5) (b := 4) rfl (by first | decide | omega) (by first | decide | omega) (by first | rfl | assumption | (simp only [← nI_add, ← nI_mul]; rfl)) (by first | rfl | assumption | (simp only [← nI_add, ← nI_mul]; rfl)) (fun _ => ?_) (fun c => by exfalso; omega)
    refine w_st rfl rfl rfl trivial ?_
    refine w_st rfl rfl rfl trivial ?_
    refine w_n_ne (a := 5) (b := 4) rfl (by first | decide | omega) (by first | decide | omega) (by first | rfl | assumption | (simp only [← nI_add, ← nI_mul]; rfl)) (by first | rfl | assumption | (simp only [← nI_add, ← nI_mul]; rfl)) (fun _ => ?_) (fun c => by exfalso; omega)
    refine w_st rfl rfl rfl trivial ?_
    refine w_st rfl rfl rfl trivial ?_
    refine w_n_ne (a := 5) (b := 5) rfl (by first | decide | omega) (by first | decide | omega) (by first | rfl | assumption | (simp only [← nI_add, ← nI_mul]; rfl)) (by first | rfl | assumption | (simp only [← nI_add, ← nI_mul]; rfl)) (fun c => by exfalso; omega) (fun _ => ?_)
    refine w_st rfl rfl rfl trivial ?_
    refine w_gr (j := 63) rfl (mm_foc rfl) rfl (by decide) ?_
    refine w_st rfl rfl rfl trivial ?_
    refine w_ia (3) rfl (mm_fac (n := 72) rfl) (by first | rfl | assumption | (simp only [← nI_add, ← nI_mul]; rfl)) (by first | decide | omega) ?_
    rw [h.2 _ (by omega)]
    refine w_st rfl rfl rfl trivial ?_
    refine w_reti rfl ?_
    exact hF ▸ ⟨rfl, rfl, sp_f2_rf⟩
  · skip
    refine w_n_ge (a := 6) (b := 4) rfl (by first | decide | omega) (by first | decide | omega) (by first | rfl | assumption | (simp only [← nI_add, ← nI_mul]; rfl)) (by first | rfl | assumption | (simp only [← nI_add, ← nI_mul]; rfl)) (fun _ => ?_) (fun c => by exfalso; omega)
    refine w_st rfl rfl rfl trivial ?_
    refine w_st rfl rfl rfl trivial ?_
    refine w_n_ne (a := 6) (b := 4) rfl (by first | decide | omega) (by first | decide | omega) (by first | rfl | assumption | (simp only [← nI_add, ← nI_mul]; rfl)) (by first | rfl | assumption | (simp only [← nI_add, ← nI_mul]; rfl)) (fun _ => ?_) (fun c => by exfalso; omega)
    refine w_st rfl rfl rfl trivial ?_
    refine w_st rfl rfl rfl trivial ?_
    refine w_n_ne (a := 6) (b := 5) rfl (by first | decide | omega) (by first | decide | omega) (by first | rfl | assumption | (simp only [← nI_add, ← nI_mul]; rfl)) (by first | rfl | assumption | (simp only [← nI_add, ← nI_mul]; rfl)) (fun _ => ?_) (fun c => by exfalso; omega)
    refine w_st rfl rfl rfl trivial ?_
    refine w_st rfl rfl rfl trivial ?_
    refine w_n_ne (a := 6) (b := 6) rfl (by first | decide | omega) (by first | decide | omega) (by first | rfl | assumption | (simp only [← nI_add, ← nI_mul]; rfl)) (by first | rfl | assumption | (simp only [← nI_add, ← nI_mul]; rfl)) (fun c => by exfalso; omega) (fun _ => ?_)
    refine w_st rfl rfl rfl trivial ?_
    refine w_k11 (hM6) rfl ⟨rfl, by decide, by decide, by decide, Or.inl ⟨_, rfl⟩⟩ (Nat.le_of_ble_eq_true rfl) (mm_foc rfl) (Nat.le_of_ble_eq_true rfl) ?_  -- calls 138 cX5_shownNumber
    refine w_st rfl rfl rfl trivial ?_
    refine w_reti rfl ?_
    exact hF ▸ ⟨rfl, rfl, h6⟩
  · skip
    refine w_n_ge (a := 7) (b := 4) rfl (by first | decide | omega) (by first | decide | omega) (by first | rfl | assumption | (simp only [← nI_add, ← nI_mul]; rfl)) (by first | rfl | assumption | (simp only [← nI_add, ← nI_mul]; rfl)) (fun _ => ?_) (fun c => by exfalso; omega)
    refine w_st rfl rfl rfl trivial ?_
    refine w_st rfl rfl rfl trivial ?_
    refine w_n_ne (a := 7) (b := 4) rfl (by first | decide | omega) (by first | decide | omega) (by first | rfl | assumption | (simp only [← nI_add, ← nI_mul]; rfl)) (by first | rfl | assumption | (simp only [← nI_add, ← nI_mul]; rfl)) (fun _ => ?_) (fun c => by exfalso; omega)
    refine w_st rfl rfl rfl trivial ?_
    refine w_st rfl rfl rfl trivial ?_
    refine w_n_ne (a := 7) (b := 5) rfl (by first | decide | omega) (by first | decide | omega) (by first | rfl | assumption | (simp only [← nI_add, ← nI_mul]; rfl)) (by first | rfl | assumption | (simp only [← nI_add, ← nI_mul]; rfl)) (fun _ => ?_) (fun c => by exfalso; omega)
    refine w_st rfl rfl rfl trivial ?_
    refine w_st rfl rfl rfl trivial ?_
    refine w_n_ne (a := 7) (b := 6) rfl (by first | decide | omega) (by first | decide | omega) (by first | rfl | assumption | (simp only [← nI_add, ← nI_mul]; rfl)) (by first | rfl | assumption | (simp only [← nI_add, ← nI_mul]; rfl)) (fun _ => ?_) (fun c => by exfalso; omega)
    refine w_st rfl rfl rfl trivial ?_
    refine w_gi rfl (mm_foc rfl) ?_
    refine w_reti rfl ?_
    exact hF ▸ ⟨by rw [hk]; rfl, rfl, sp_f2_rf⟩
end SM
