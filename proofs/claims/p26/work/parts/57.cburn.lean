/-! hours go by, on the class's side: worn lamps burn -/
noncomputable def sp_bf (f : Nat) : Nat → sp_St × Nat → sp_St × Nat
  | 0, a => a
  | l + 1, a => sp_if ((sp_bf f l a).1 (8 + f) &&& sp_bit l = 0 ∧ sp_wn (sp_bf f l a).1 f l) (sp_set (sp_bf f l a).1 f l true, (sp_bf f l a).2 + 1) (sp_bf f l a)
noncomputable def sp_bw (σ : sp_St) : Nat → sp_St × Nat
  | 0 => (σ, 0)
  | f + 1 => sp_bf f 15 (sp_bw σ f)
section SM
variable {g : mm_Gg} {I I1 : mm_Is} {x y z : Int32} {l d k t u f w n b o m N c s i : Nat} {σ τ : sp_St} {ps : Nat → sp_St} {tx : Nat → Int32} {a : sp_St × Nat}
theorem sp_bf_e (f l : Nat) (a : sp_St × Nat) : sp_bf f (l + 1) a = sp_if ((sp_bf f l a).1 (8 + f) &&& sp_bit l = 0 ∧ sp_wn (sp_bf f l a).1 f l) (sp_set (sp_bf f l a).1 f l true, (sp_bf f l a).2 + 1) (sp_bf f l a) := rfl
theorem sp_bf_o {j : Nat} (hj : ¬ j = 8 + f) (h12 : j < 12) (k : Nat) : (sp_bf f k a).1 j = a.1 j := by
  induction k with
  | zero => rfl
  | succ k ih =>
    rw [sp_bf_e]
    by_cases c : (sp_bf f k a).1 (8 + f) &&& sp_bit k = 0 ∧ sp_wn (sp_bf f k a).1 f k
    · rw [sp_if_t c]; show sp_set (sp_bf f k a).1 f k true j = _; rw [sp_set_o hj h12, ih]
    · rw [sp_if_f c, ih]
theorem c_hoursOfB (h : sp_bd I 1 σ) (hf : f < 4) (hl : l < 15) : mm_M 3 3 [.ref 1, .int (nI f), .int (nI l)] g I (some (.int (σ (12 + (15 * f + l))))) I := by
  refine w_M ?_
  show mm_W 3 0 [.ref 1, .int (nI f), .int (nI l)] [] _ _ _
  generalize hF : mm_EX _ _ _ = F
  refine w_st rfl rfl rfl trivial ?_
  refine w_gr (j := 4) rfl (mm_foc rfl) rfl (by decide) ?_
  refine w_st rfl rfl rfl trivial ?_
  refine w_st rfl rfl rfl trivial ?_
  refine w_imul rfl ?_
  refine w_st rfl rfl rfl trivial ?_
  refine w_iadd rfl ?_
  refine w_ia (15 * f + l) rfl (mm_fac (n := 60) rfl) (by first | rfl | assumption | (simp only [← nI_add, ← nI_mul]; rfl)) (by first | decide | omega) ?_
  rw [show I 4 (15 * f + l) = σ (12 + (15 * f + l)) from h.2.2.1 _ (by omega)]
  refine w_reti rfl ?_
  exact hF ▸ mm_EX_i (rfl)
theorem c_isWornB (h : sp_bd I 1 σ) (hf : f < 4) (hl : l < 15) : mm_M 58 4 [.ref 0, .int (nI f), .int (nI l)] g I (some (.int (mm_bi (sp_wn σ f l)))) I := by
  refine w_M ?_
  show mm_W 58 0 [.ref 0, .int (nI f), .int (nI l), .null] [] _ _ _
  generalize hF : mm_EX _ _ _ = F
  refine w_st rfl rfl rfl trivial ?_
  refine w_st rfl rfl rfl trivial ?_
  refine w_gr (j := 1) rfl (mm_foc rfl) rfl (by decide) ?_
  refine w_gr (j := 5) rfl (mm_foc rfl) rfl (by decide) ?_
  refine w_st rfl rfl rfl trivial ?_
  refine w_ia (1) rfl (mm_fac (n := 2) rfl) (by first | rfl | assumption | (simp only [← nI_add, ← nI_mul]; rfl)) (by first | decide | omega) ?_
  rw [show I 5 1 = σ 2 from h.2.2.2.1 1 (by decide)]
  refine w_imul rfl ?_
  refine w_st rfl rfl rfl (Nat.le_of_ble_eq_true rfl) ?_
  refine w_st rfl rfl rfl trivial ?_
  refine w_z_le rfl (fun c1 => ?_) (fun c1 => ?_)
  · skip
    refine w_st rfl rfl rfl trivial ?_
    refine w_retz rfl (by first | exact Or.inl rfl | exact Or.inr rfl | exact mm_bi_01 _ | assumption) ?_
    exact hF ▸ mm_EX_i ((mm_bi_f (fun z => absurd z.1 (Int32.not_lt.2 c1))).symm)
  · skip
    refine w_st rfl rfl rfl trivial ?_
    refine w_gr (j := 1) rfl (mm_foc rfl) rfl (by decide) ?_
    refine w_st rfl rfl rfl trivial ?_
    refine w_st rfl rfl rfl trivial ?_
    refine w_k31 (c_hoursOfB h hf hl) rfl ⟨rfl, by decide, by decide, by decide, Or.inl ⟨_, rfl⟩⟩ (Nat.le_of_ble_eq_true rfl) (mm_foc rfl) (Nat.le_of_ble_eq_true rfl) ?_  -- calls 3 cX0_hoursOf
    refine w_st rfl rfl rfl trivial ?_
    refine w_v_lt rfl (fun c2 => ?_) (fun c2 => ?_)
    · skip
      refine w_st rfl rfl rfl trivial ?_
      refine w_retz rfl (by first | exact Or.inl rfl | exact Or.inr rfl | exact mm_bi_01 _ | assumption) ?_
      exact hF ▸ mm_EX_i ((mm_bi_f (fun z => absurd z.2 (Int32.not_le.2 c2))).symm)
    · skip
      refine w_st rfl rfl rfl trivial ?_
      refine w_st rfl rfl rfl trivial ?_
      refine w_retz rfl (by first | exact Or.inl rfl | exact Or.inr rfl | exact mm_bi_01 _ | assumption) ?_
      exact hF ▸ mm_EX_i ((mm_bi_t ⟨Int32.not_le.1 c1, Int32.not_lt.1 c2⟩).symm)
theorem c_burnWorn (hb : sp_bd I 1 σ) : ∃ I', mm_M 57 4 [.ref 0] g I (some (.int (nI (sp_bw σ 4).2))) I' ∧ (sp_D I' (sp_bw σ 4).1 ∧ ∀ p, ¬ p = 3 → ¬ p = 4 → ¬ (45 ≤ p ∧ p < 61) → I' p = I p) := by
  refine w_MX ?_
  show mm_W 57 0 [.ref 0, .null, .null, .null] [] _ _ _
  generalize hF : mm_EQ _ _ _ = F
  refine w_st rfl rfl rfl trivial ?_
  refine w_st rfl rfl rfl (Nat.le_of_ble_eq_true rfl) ?_
  refine w_st rfl rfl rfl trivial ?_
  refine w_st rfl rfl rfl (Nat.le_of_ble_eq_true rfl) ?_
  have K : ∀ f, f ≤ 4 → ∀ I1 v3, sp_bd I1 1 (sp_bw σ f).1 → (∀ e, e < f → sp_tt I1 (45 + 4 * e) ((sp_bw σ f).1 (8 + e)) ((sp_bw σ f).1 1)) → (∀ p, ¬ p = 3 → ¬ p = 4 → ¬ (45 ≤ p ∧ p < 61) → I1 p = I p) → mm_W 57 4 [.ref 0, .int (nI (sp_bw σ f).2), .int (nI f), v3] [] g I1 F := by
    refine mm_dn 4 ?_ ?_
    · intro I1 v3 hb1 ht1 hf1
      refine w_st rfl rfl rfl trivial ?_
      refine w_st rfl rfl rfl trivial ?_
      refine w_n_ge (a := 4) (b := 4) rfl (by first | decide | omega) (by first | decide | omega) (by first | rfl | assumption | (simp only [← nI_add, ← nI_mul]; rfl)) (by first | rfl | assumption | (simp only [← nI_add, ← nI_mul]; rfl)) (fun _ => ?_) (fun c => by exfalso; omega)
      refine w_st rfl rfl rfl trivial ?_
      refine w_reti rfl ?_
      exact hF ▸ ⟨rfl, rfl, ⟨⟨hb1, ht1⟩, hf1⟩⟩
    · intro f hf ih I1 v3 hb1 ht1 hf1
      have eb : sp_bw σ (f + 1) = sp_bf f 15 (sp_bw σ f) := rfl
      generalize sp_bw σ f = a at *
      refine w_st rfl rfl rfl trivial ?_
      refine w_st rfl rfl rfl trivial ?_
      refine w_n_ge (a := f) (b := 4) rfl (by first | decide | omega) (by first | decide | omega) (by first | rfl | assumption | (simp only [← nI_add, ← nI_mul]; rfl)) (by first | rfl | assumption | (simp only [← nI_add, ← nI_mul]; rfl)) (fun c => by exfalso; omega) (fun _ => ?_)
      refine w_st rfl rfl rfl trivial ?_
      refine w_st rfl rfl rfl (Nat.le_of_ble_eq_true rfl) ?_
      have L : ∀ l, l ≤ 15 → ∀ I2, sp_bd I2 1 (sp_bf f l a).1 → (∀ p, ¬ p = 3 → ¬ p = 4 → I2 p = I1 p) → mm_W 57 11 [.ref 0, .int (nI (sp_bf f l a).2), .int (nI f), .int (nI l)] [] g I2 F := by
        refine mm_dn 15 ?_ ?_
        · intro I2 hb2 hf2
          obtain ⟨I4, hM4, ht4, hf4⟩ := c_chooseTable (g := g) hb2 hf
          rw [eb] at ih
          refine w_st rfl rfl rfl trivial ?_
          refine w_st rfl rfl rfl trivial ?_
          refine w_n_ge (a := 15) (b := 15) rfl (by first | decide | omega) (by first | decide | omega) (by first | rfl | assumption | (simp only [← nI_add, ← nI_mul]; rfl)) (by first | rfl | assumption | (simp only [← nI_add, ← nI_mul]; rfl)) (fun _ => ?_) (fun c => by exfalso; omega)
          refine w_st rfl rfl rfl trivial ?_
          refine w_st rfl rfl rfl trivial ?_
          refine w_k20 (hM4) rfl ⟨rfl, by decide, by decide, by decide, Or.inl ⟨_, rfl⟩⟩ (Nat.le_of_ble_eq_true rfl) (mm_foc rfl) (Nat.le_of_ble_eq_true rfl) ?_  -- calls 53 cX4_chooseTable
          refine w_inc rfl rfl rfl (Nat.le_of_ble_eq_true rfl) (nI_1 _) ?_
          refine w_st rfl rfl rfl trivial ?_
          refine ih I4 _ (sp_bd_c (fun p hp => hf4 p (by unfold sp_in5 at hp; omega) (by unfold sp_in5 at hp; omega) (by unfold sp_in5 at hp; omega)) hb2) (fun e he => ?_) (fun p b c d => ?_)
          · by_cases ce : e = f
            · subst ce; exact ht4
            · intro d hd
              have := ht1 e (by omega) d hd
              rw [sp_bf_o (by omega) (by omega), sp_bf_o (by omega) (by omega)]
              unfold sp_te at this ⊢
              rw [hf4 _ (by omega) (by omega) (by omega), hf4 _ (by omega) (by omega) (by omega), hf4 _ (by omega) (by omega) (by omega), hf2 _ (by omega) (by omega), hf2 _ (by omega) (by omega), hf2 _ (by omega) (by omega)]
              exact this
          · rw [hf4 p (by omega) (by omega) (by omega), hf2 p b c]; exact hf1 p b c d
        · intro l hl ih2 I2 hb2 hf2
          have e := sp_bf_e f l a
          refine w_st rfl rfl rfl trivial ?_
          refine w_st rfl rfl rfl trivial ?_
          refine w_n_ge (a := l) (b := 15) rfl (by first | decide | omega) (by first | decide | omega) (by first | rfl | assumption | (simp only [← nI_add, ← nI_mul]; rfl)) (by first | rfl | assumption | (simp only [← nI_add, ← nI_mul]; rfl)) (fun c => by exfalso; omega) (fun _ => ?_)
          refine w_st rfl rfl rfl trivial ?_
          refine w_gr (j := 1) rfl (mm_foc rfl) rfl (by decide) ?_
          refine w_gr (j := 3) rfl (mm_foc rfl) rfl (by decide) ?_
          refine w_st rfl rfl rfl trivial ?_
          refine w_ia (f) rfl (mm_fac (n := 4) rfl) (by first | rfl | assumption | (simp only [← nI_add, ← nI_mul]; rfl)) (by first | decide | omega) ?_
          rw [show I2 3 f = (sp_bf f l a).1 (8 + f) from hb2.2.1 f hf]
          refine w_st rfl rfl rfl trivial ?_
          refine w_k21 (c_has) rfl ⟨rfl, by decide, by decide, by decide, Or.inr (Or.inl ⟨_, rfl⟩)⟩ (Nat.le_of_ble_eq_true rfl) trivial (Nat.le_of_ble_eq_true rfl) ?_  -- calls 50 cX4_has
          refine w_b_ne rfl (fun c => ?_) (fun c => ?_)
          · rw [sp_if_f (fun z => c z.1)] at e
            rw [e] at ih2
            refine w_inc rfl rfl rfl (Nat.le_of_ble_eq_true rfl) (nI_1 _) ?_
            refine w_st rfl rfl rfl trivial ?_
            exact ih2 I2 hb2 hf2
          · have c' := Classical.not_not.1 c
            refine w_st rfl rfl rfl trivial ?_
            refine w_st rfl rfl rfl trivial ?_
            refine w_st rfl rfl rfl trivial ?_
            refine w_k31 (c_isWornB hb2 hf hl) rfl ⟨rfl, by decide, by decide, by decide, Or.inl ⟨_, rfl⟩⟩ (Nat.le_of_ble_eq_true rfl) (mm_foc rfl) (Nat.le_of_ble_eq_true rfl) ?_  -- calls 58 cX4_isWorn
            refine w_b_eq rfl (fun c2 => ?_) (fun c2 => ?_)
            · rw [sp_if_f (fun z => c2 z.2)] at e
              rw [e] at ih2
              refine w_inc rfl rfl rfl (Nat.le_of_ble_eq_true rfl) (nI_1 _) ?_
              refine w_st rfl rfl rfl trivial ?_
              exact ih2 I2 hb2 hf2
            · rw [sp_if_t ⟨c', c2⟩] at e
              rw [e] at ih2
              obtain ⟨I3, hM3, hb3, f3⟩ := c_setLamp_t (g := g) hb2 hf hl
              refine w_st rfl rfl rfl trivial ?_
              refine w_gr (j := 1) rfl (mm_foc rfl) rfl (by decide) ?_
              refine w_st rfl rfl rfl trivial ?_
              refine w_st rfl rfl rfl trivial ?_
              refine w_st rfl rfl rfl trivial ?_
              refine w_k40 (hM3) rfl ⟨rfl, by decide, by decide, by decide, Or.inl ⟨_, rfl⟩⟩ (Nat.le_of_ble_eq_true rfl) (mm_foc rfl) (Nat.le_of_ble_eq_true rfl) ?_  -- calls 2 cX0_setLamp
              refine w_inc rfl rfl rfl (Nat.le_of_ble_eq_true rfl) (nI_1 _) ?_
              refine w_inc rfl rfl rfl (Nat.le_of_ble_eq_true rfl) (nI_1 _) ?_
              refine w_st rfl rfl rfl trivial ?_
              exact ih2 I3 hb3 (fun p b d => by rw [f3 p b d]; exact hf2 p b d)
      exact L 0 (by decide) I1 hb1 (fun _ _ _ => rfl)
  exact K 0 (by decide) I .null hb (fun e he => absurd he (Nat.not_lt_zero _)) (fun _ _ _ _ => rfl)
end SM
