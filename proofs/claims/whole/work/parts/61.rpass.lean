/-! pass, on the reference's side -/
def sp_at (σ a : sp_St) (q : Nat) : sp_St := fun j => if 12 + q ≤ j then σ j else a j
section SM
variable {g : mm_Gg} {I I1 : mm_Is} {x y z : Int32} {l f n m H N q : Nat} {σ τ ρ : sp_St} {ps : Nat → sp_St} {tx : Nat → Int32}
theorem sp_at_lt {a : sp_St} {j : Nat} (h : j < 12 + q) : sp_at σ a q j = a j := if_neg (by omega)
theorem sp_at_ge {a : sp_St} {j : Nat} (h : 12 + q ≤ j) : sp_at σ a q j = σ j := if_pos h
theorem r_goes (h : sp_N I σ) (ok : sp_ok σ) : ∃ I', mm_M 116 4 [.ref 61] g I (some (.int (nI (sp_hq σ).2))) I' ∧ (sp_N I' (sp_ho σ) ∧ ∀ p, ¬ p = 63 → ¬ p = 67 → ¬ p = 68 → ¬ p = 69 → I' p = I p) := by
  obtain ⟨L, hL, eL⟩ := ok.2.2.2.1
  refine w_MX ?_
  show mm_W 116 0 [.ref 61, .null, .null, .null] [] _ _ _
  generalize hF : mm_EQ _ _ _ = F
  refine w_st rfl rfl rfl trivial ?_
  refine w_st rfl rfl rfl (Nat.le_of_ble_eq_true rfl) ?_
  refine w_st rfl rfl rfl trivial ?_
  refine w_st rfl rfl rfl (Nat.le_of_ble_eq_true rfl) ?_
  -- the hours, lamp by lamp
  have K2 : ∀ f, f ≤ 4 → ∀ I2 v3, sp_N I2 (sp_at σ (sp_bw (sp_hA σ 1) f).1 (15 * f)) → (∀ e, e < 4 → I2 69 e = sp_lit σ e) → (∀ p, ¬ p = 63 → ¬ p = 67 → ¬ p = 68 → ¬ p = 69 → I2 p = I p) → mm_W 116 28 [.ref 61, .int (nI (sp_bw (sp_hA σ 1) f).2), .int (nI f), v3] [] g I2 F := by
    refine mm_dn 4 ?_ ?_
    · intro I2 v3 hN2 hl2 f2
      have eN : ∀ j, j < 72 → I2 63 j = (sp_hq σ).1 j := fun j hj => by rw [hN2.2 j hj]; exact sp_at_lt (by omega)
      refine w_st rfl rfl rfl trivial ?_
      refine w_st rfl rfl rfl trivial ?_
      refine w_n_ge (a := 4) (b := 4) rfl (by first | decide | omega) (by first | decide | omega) (by first | rfl | assumption | (simp only [← nI_add, ← nI_mul]; rfl)) (by first | rfl | assumption | (simp only [← nI_add, ← nI_mul]; rfl)) (fun _ => ?_) (fun c => by exfalso; omega)
      refine w_st rfl rfl rfl trivial ?_
      refine w_gr (j := 63) rfl (mm_foc rfl) rfl (by decide) ?_
      refine w_st rfl rfl rfl trivial ?_
      refine w_st rfl rfl rfl trivial ?_
      refine w_ia (0) rfl (mm_fac (n := 72) rfl) (by first | rfl | assumption | (simp only [← nI_add, ← nI_mul]; rfl)) (by first | decide | omega) ?_
      rw [eN 0 (by decide), sp_hq_o (by decide)]
      refine w_st rfl rfl rfl trivial ?_
      refine w_iadd rfl ?_
      refine w_is (0) rfl (mm_fac (n := 72) rfl) (by first | rfl | assumption | (simp only [← nI_add, ← nI_mul]; rfl)) (by first | decide | omega) ?_
      have eN3 := sp_N_u (x := σ 0 + 1) (k := 0) eN
      refine w_st rfl rfl rfl trivial ?_
      refine w_gr (j := 63) rfl (mm_foc rfl) rfl (by decide) ?_
      refine w_st rfl rfl rfl trivial ?_
      refine w_st rfl rfl rfl trivial ?_
      refine w_ia (3) rfl (mm_fac (n := 72) rfl) (by first | rfl | assumption | (simp only [← nI_add, ← nI_mul]; rfl)) (by first | decide | omega) ?_
      rw [eN3 3 (by decide), upd_n (by decide), sp_hq_o (by decide)]
      refine w_st rfl rfl rfl trivial ?_
      refine w_iadd rfl ?_
      refine w_is (3) rfl (mm_fac (n := 72) rfl) (by first | rfl | assumption | (simp only [← nI_add, ← nI_mul]; rfl)) (by first | decide | omega) ?_
      have eN4 := sp_N_u (x := σ 3 + nI (sp_hq σ).2) (k := 3) eN3
      refine w_st rfl rfl rfl trivial ?_
      refine w_reti rfl ?_
      subst hF
      refine ⟨rfl, rfl, ?_⟩
      refine ⟨⟨fun j hj => ?_, eN4⟩, fun p a b c d => ?_⟩
      · rw [va_up_ne _ _ (by decide), va_up_ne _ _ (by decide)]; exact hN2.1 j hj
      · rw [va_up_ne _ _ a, va_up_ne _ _ a]; exact f2 p a b c d
    · intro f hf ih I2 v3 hN2 hl2 f2
      have eb : sp_bw (sp_hA σ 1) (f + 1) = sp_bf f 15 (sp_bw (sp_hA σ 1) f) := rfl
      have ehi : ∀ j, 12 ≤ j → (sp_bw (sp_hA σ 1) f).1 j = sp_hA σ 1 j := fun j hj => sp_bw_o2 f (by omega)
      have elo : ∀ j, j < 8 → (sp_bw (sp_hA σ 1) f).1 j = σ j := fun j hj => by rw [sp_bw_o2 f (by omega), sp_hA_o (by omega)]
      generalize sp_bw (sp_hA σ 1) f = a at *
      refine w_st rfl rfl rfl trivial ?_
      refine w_st rfl rfl rfl trivial ?_
      refine w_n_ge (a := f) (b := 4) rfl (by first | decide | omega) (by first | decide | omega) (by first | rfl | assumption | (simp only [← nI_add, ← nI_mul]; rfl)) (by first | rfl | assumption | (simp only [← nI_add, ← nI_mul]; rfl)) (fun c => by exfalso; omega) (fun _ => ?_)
      refine w_st rfl rfl rfl trivial ?_
      refine w_st rfl rfl rfl (Nat.le_of_ble_eq_true rfl) ?_
      have L3 : ∀ l, l ≤ 15 → ∀ I3, sp_N I3 (sp_at σ (sp_bf f l a).1 (15 * f + l)) → (∀ e, e < 4 → I3 69 e = sp_lit σ e) → (∀ p, ¬ p = 63 → ¬ p = 67 → ¬ p = 68 → ¬ p = 69 → I3 p = I p) → mm_W 116 35 [.ref 61, .int (nI (sp_bf f l a).2), .int (nI f), .int (nI l)] [] g I3 F := by
        refine mm_dn 15 ?_ ?_
        · intro I3 hN3 hl3 f3
          refine w_st rfl rfl rfl trivial ?_
          refine w_st rfl rfl rfl trivial ?_
          refine w_n_ge (a := 15) (b := 15) rfl (by first | decide | omega) (by first | decide | omega) (by first | rfl | assumption | (simp only [← nI_add, ← nI_mul]; rfl)) (by first | rfl | assumption | (simp only [← nI_add, ← nI_mul]; rfl)) (fun _ => ?_) (fun c => by exfalso; omega)
          refine w_inc rfl rfl rfl (Nat.le_of_ble_eq_true rfl) (nI_1 _) ?_
          refine w_st rfl rfl rfl trivial ?_
          rw [eb] at ih
          exact ih I3 _ hN3 hl3 f3
        · intro l hl ih2 I3 hN3 hl3 f3
          have e := sp_bf_e f l a
          have eh : (sp_bf f l a).1 (12 + (15 * f + l)) = sp_hA σ 1 (12 + (15 * f + l)) := by rw [sp_bf_o2 (by omega), ehi _ (by omega)]
          have e2 : (sp_bf f l a).1 2 = σ 2 := by rw [sp_bf_o2 (by omega), elo 2 (by decide)]
          generalize sp_bf f l a = b at *
          have Y : ∀ x, x = sp_hA σ 1 (12 + (15 * f + l)) → mm_W 116 76 [.ref 61, .int (nI b.2), .int (nI f), .int (nI l)] [.int x, .int ((12 : Int32) + 15 * nI f + nI l), .ref 63] g I3 F := by
            intro x hx
            subst hx
            refine w_is (12 + (15 * f + l)) rfl (mm_fac (n := 72) rfl) (by simp only [← nI_add, ← nI_mul]; exact Int32.add_assoc _ _ _) (by first | decide | omega) ?_
            have hN4 : sp_N (va_up I3 63 (upd (I3 63) (12 + (15 * f + l)) (sp_hA σ 1 (12 + (15 * f + l))))) (sp_at σ b.1 (15 * f + (l + 1))) := by
              refine ⟨fun j hj => by rw [va_up_ne _ _ (by decide)]; exact hN3.1 j hj, fun j hj => ?_⟩
              rw [sp_N_u hN3.2 j hj]
              by_cases c : j = 12 + (15 * f + l)
              · subst c; rw [upd_s, sp_at_lt (by omega), eh]
              · rw [upd_n c]
                by_cases c2 : 12 + (15 * f + l) ≤ j
                · rw [sp_at_ge c2, sp_at_ge (by omega)]
                · rw [sp_at_lt (by omega), sp_at_lt (by omega)]
            have hl4 : ∀ e, e < 4 → va_up I3 63 (upd (I3 63) (12 + (15 * f + l)) (sp_hA σ 1 (12 + (15 * f + l)))) 69 e = sp_lit σ e := fun e he => by rw [va_up_ne _ _ (by decide)]; exact hl3 e he
            have f4 : ∀ p, ¬ p = 63 → ¬ p = 67 → ¬ p = 68 → ¬ p = 69 → va_up I3 63 (upd (I3 63) (12 + (15 * f + l)) (sp_hA σ 1 (12 + (15 * f + l)))) p = I p := fun p c1 c2 c3 c4 => by rw [va_up_ne _ _ c1]; exact f3 p c1 c2 c3 c4
            generalize va_up I3 63 (upd (I3 63) (12 + (15 * f + l)) (sp_hA σ 1 (12 + (15 * f + l)))) = I4 at hN4 hl4 f4 ⊢
            refine w_st rfl rfl rfl trivial ?_
            refine w_gr (j := 63) rfl (mm_foc rfl) rfl (by decide) ?_
            refine w_st rfl rfl rfl trivial ?_
            refine w_ia (2) rfl (mm_fac (n := 72) rfl) (by first | rfl | assumption | (simp only [← nI_add, ← nI_mul]; rfl)) (by first | decide | omega) ?_
            rw [hN4.2 2 (by decide), sp_at_lt (by omega), e2]
            have old := r_isOld (g := g) hN4 hf hl
            rw [sp_at_lt (by omega), sp_at_lt (by omega), sp_at_lt (by omega)] at old
            refine w_z_le rfl (fun c1 => ?_) (fun c1 => ?_)
            · have nw : ¬ (b.1 (8 + f) &&& sp_bit l = 0 ∧ sp_wn b.1 f l) := fun z => by
                have w := z.2.1
                rw [e2, eL, show (100 : Int32) = nI 100 from rfl, nI_mul] at w
                rw [eL] at c1
                have a1 := (nI_ltI (a := 0) (by omega) (by omega)).1 w
                have a2 := (nI_leI (b := 0) (by omega) (by omega)).1 c1
                omega
              rw [sp_if_f nw] at e
              rw [e] at ih2
              refine w_inc rfl rfl rfl (Nat.le_of_ble_eq_true rfl) (nI_1 _) ?_
              refine w_st rfl rfl rfl trivial ?_
              exact ih2 I4 hN4 hl4 f4
            · have pos : 0 < 100 * b.1 2 := by
                rw [e2, eL, show (100 : Int32) = nI 100 from rfl, nI_mul]
                rw [eL] at c1
                have a2 : 0 < L := Nat.pos_of_ne_zero (fun z => c1 (by rw [z]; decide))
                exact (nI_ltI (a := 0) (by omega) (by omega)).2 (by omega)
              refine w_st rfl rfl rfl trivial ?_
              refine w_st rfl rfl rfl trivial ?_
              refine w_st rfl rfl rfl trivial ?_
              refine w_k31 (old) rfl ⟨rfl, by decide, by decide, by decide, Or.inl ⟨_, rfl⟩⟩ (Nat.le_of_ble_eq_true rfl) (mm_foc rfl) (Nat.le_of_ble_eq_true rfl) ?_  -- calls 115 cX5_isOld
              refine w_b_eq rfl (fun c2 => ?_) (fun c2 => ?_)
              · rw [sp_if_f (fun z => c2 ⟨z.1, z.2.2⟩)] at e
                rw [e] at ih2
                refine w_inc rfl rfl rfl (Nat.le_of_ble_eq_true rfl) (nI_1 _) ?_
                refine w_st rfl rfl rfl trivial ?_
                exact ih2 I4 hN4 hl4 f4
              · rw [sp_if_t ⟨c2.1, pos, c2.2⟩] at e
                rw [e] at ih2
                refine w_st rfl rfl rfl trivial ?_
                refine w_gr (j := 63) rfl (mm_foc rfl) rfl (by decide) ?_
                refine w_st rfl rfl rfl trivial ?_
                refine w_st rfl rfl rfl trivial ?_
                refine w_iadd rfl ?_
                refine w_st rfl rfl rfl trivial ?_
                refine w_ia (8 + f) rfl (mm_fac (n := 72) rfl) (by first | rfl | assumption | (simp only [← nI_add, ← nI_mul]; rfl)) (by first | decide | omega) ?_
                rw [hN4.2 (8 + f) (by omega), sp_at_lt (by omega)]
                refine w_st rfl rfl rfl trivial ?_
                refine w_k11 (r_bit) rfl ⟨rfl, by decide, by decide, by decide, Or.inr (Or.inl ⟨_, rfl⟩)⟩ (Nat.le_of_ble_eq_true rfl) trivial (Nat.le_of_ble_eq_true rfl) ?_  -- calls 94 cX5_bit
                refine w_ior rfl ?_
                refine w_is (8 + f) rfl (mm_fac (n := 72) rfl) (by first | rfl | assumption | (simp only [← nI_add, ← nI_mul]; rfl)) (by first | decide | omega) ?_
                refine w_inc rfl rfl rfl (Nat.le_of_ble_eq_true rfl) (nI_1 _) ?_
                refine w_inc rfl rfl rfl (Nat.le_of_ble_eq_true rfl) (nI_1 _) ?_
                refine w_st rfl rfl rfl trivial ?_
                refine ih2 _ ⟨fun j hj => by rw [va_up_ne _ _ (by decide)]; exact hN4.1 j hj, fun j hj => ?_⟩ (fun e he => by rw [va_up_ne _ _ (by decide)]; exact hl4 e he) (fun p c1 c2 c3 c4 => by rw [va_up_ne _ _ c1]; exact f4 p c1 c2 c3 c4)
                rw [sp_N_u hN4.2 j hj]
                by_cases c : j = 8 + f
                · subst c; rw [upd_s, sp_at_lt (by omega)]; exact upd_s.symm
                · rw [upd_n c]
                  by_cases c5 : 12 + (15 * f + (l + 1)) ≤ j
                  · rw [sp_at_ge c5, sp_at_ge c5]
                  · rw [sp_at_lt (by omega), sp_at_lt (by omega)]; exact (upd_n c).symm
          refine w_st rfl rfl rfl trivial ?_
          refine w_st rfl rfl rfl trivial ?_
          refine w_n_ge (a := l) (b := 15) rfl (by first | decide | omega) (by first | decide | omega) (by first | rfl | assumption | (simp only [← nI_add, ← nI_mul]; rfl)) (by first | rfl | assumption | (simp only [← nI_add, ← nI_mul]; rfl)) (fun c => by exfalso; omega) (fun _ => ?_)
          refine w_st rfl rfl rfl trivial ?_
          refine w_gr (j := 63) rfl (mm_foc rfl) rfl (by decide) ?_
          refine w_st rfl rfl rfl trivial ?_
          refine w_st rfl rfl rfl trivial ?_
          refine w_st rfl rfl rfl trivial ?_
          refine w_imul rfl ?_
          refine w_iadd rfl ?_
          refine w_st rfl rfl rfl trivial ?_
          refine w_iadd rfl ?_
          refine w_st rfl rfl rfl trivial ?_
          refine w_ia (12 + (15 * f + l)) rfl (mm_fac (n := 72) rfl) (by simp only [← nI_add, ← nI_mul]; exact Int32.add_assoc _ _ _) (by first | decide | omega) ?_
          rw [hN3.2 _ (by omega), sp_at_ge (by omega)]
          refine w_st rfl rfl rfl trivial ?_
          refine w_gr (j := 69) rfl (mm_foc rfl) rfl (by decide) ?_
          refine w_st rfl rfl rfl trivial ?_
          refine w_ia (f) rfl (mm_fac (n := 4) rfl) (by first | rfl | assumption | (simp only [← nI_add, ← nI_mul]; rfl)) (by first | decide | omega) ?_
          rw [hl3 f hf]
          refine w_st rfl rfl rfl trivial ?_
          refine w_k11 (r_bit) rfl ⟨rfl, by decide, by decide, by decide, Or.inr (Or.inl ⟨_, rfl⟩)⟩ (Nat.le_of_ble_eq_true rfl) trivial (Nat.le_of_ble_eq_true rfl) ?_  -- calls 94 cX5_bit
          refine w_iand rfl ?_
          refine w_z_ne rfl (fun c => ?_) (fun c => ?_)
          · skip
            refine w_st rfl rfl rfl trivial ?_
            refine w_iadd rfl ?_
            exact Y _ (by rw [sp_hA_h hf hl, sp_if_t c])
          · skip
            refine w_st rfl rfl rfl trivial ?_
            refine w_st rfl rfl rfl trivial ?_
            refine w_iadd rfl ?_
            exact Y _ (by rw [sp_hA_h hf hl, sp_if_f (fun z => z c)]; exact Int32.add_zero _)
      exact L3 0 (by decide) I2 hN2 hl2 f2
  have K1 : ∀ f, f ≤ 4 → ∀ I2, sp_N I2 σ → (∀ e, e < f → I2 69 e = sp_lit σ e) → (∀ p, ¬ p = 63 → ¬ p = 67 → ¬ p = 68 → ¬ p = 69 → I2 p = I p) → mm_W 116 4 [.ref 61, .int 0, .int (nI f), .null] [] g I2 F := by
    refine mm_dn 4 ?_ ?_
    · intro I2 hN2 hl2 f2
      refine w_st rfl rfl rfl trivial ?_
      refine w_st rfl rfl rfl trivial ?_
      refine w_n_ge (a := 4) (b := 4) rfl (by first | decide | omega) (by first | decide | omega) (by first | rfl | assumption | (simp only [← nI_add, ← nI_mul]; rfl)) (by first | rfl | assumption | (simp only [← nI_add, ← nI_mul]; rfl)) (fun _ => ?_) (fun c => by exfalso; omega)
      refine w_st rfl rfl rfl trivial ?_
      refine w_st rfl rfl rfl (Nat.le_of_ble_eq_true rfl) ?_
      refine K2 0 (by decide) I2 .null ⟨hN2.1, fun j hj => ?_⟩ hl2 f2
      rw [hN2.2 j hj]
      by_cases c : 12 ≤ j
      · exact (sp_at_ge c).symm
      · rw [sp_at_lt (by omega)]; exact (sp_hA_o (by omega)).symm
    · intro f hf ih I2 hN2 hl2 f2
      obtain ⟨I3, hM3, _, f3⟩ := r_lights (g := g) hN2 ok hf
      have hN3 := sp_N_f2 hN2 f3
      refine w_st rfl rfl rfl trivial ?_
      refine w_st rfl rfl rfl trivial ?_
      refine w_n_ge (a := f) (b := 4) rfl (by first | decide | omega) (by first | decide | omega) (by first | rfl | assumption | (simp only [← nI_add, ← nI_mul]; rfl)) (by first | rfl | assumption | (simp only [← nI_add, ← nI_mul]; rfl)) (fun c => by exfalso; omega) (fun _ => ?_)
      refine w_st rfl rfl rfl trivial ?_
      refine w_gr (j := 69) rfl (mm_foc rfl) rfl (by decide) ?_
      refine w_st rfl rfl rfl trivial ?_
      refine w_st rfl rfl rfl trivial ?_
      refine w_st rfl rfl rfl trivial ?_
      refine w_k21 (hM3) rfl ⟨rfl, by decide, by decide, by decide, Or.inl ⟨_, rfl⟩⟩ (Nat.le_of_ble_eq_true rfl) (mm_foc rfl) (Nat.le_of_ble_eq_true rfl) ?_  -- calls 105 cX5_lights
      refine w_is (f) rfl (mm_fac (n := 4) rfl) (by first | rfl | assumption | (simp only [← nI_add, ← nI_mul]; rfl)) (by first | decide | omega) ?_
      refine w_inc rfl rfl rfl (Nat.le_of_ble_eq_true rfl) (nI_1 _) ?_
      refine w_st rfl rfl rfl trivial ?_
      refine ih _ ⟨fun j hj => by rw [va_up_ne _ _ (by decide)]; exact hN3.1 j hj, fun j hj => by rw [va_up_ne _ _ (by decide)]; exact hN3.2 j hj⟩ (fun e he => ?_) (fun p a b c d => ?_)
      · by_cases c : e = f
        · subst c; exact mm_uu
        · rw [mm_un (Or.inr c), f3 69 (by decide) (by decide)]; exact hl2 e (by omega)
      · rw [va_up_ne _ _ d, f3 p b c]; exact f2 p a b c d
  exact K1 0 (by decide) I h (fun e he => absurd he (Nat.not_lt_zero _)) (fun _ _ _ _ _ => rfl)
theorem r_pass_1 (h1 : ¬ (1 ≤ x ∧ x ≤ 500)) : ∃ I', mm_M 117 4 [.ref 61, .int x] g I (some (.int 0)) I' ∧ sp_th 1 I I' := by
  refine w_MX ?_
  show mm_W 117 0 [.ref 61, .int x, .null, .null] [] _ _ _
  generalize hF : mm_EQ _ _ _ = F
  refine w_st rfl rfl rfl trivial ?_
  refine w_st rfl rfl rfl trivial ?_
  refine w_pi rfl (mm_foc rfl) ?_
  show mm_W 117 5 _ _ g (sp_st6 I 0) F
  refine w_st rfl rfl rfl trivial ?_
  refine w_st rfl rfl rfl trivial ?_
  refine w_st rfl rfl rfl trivial ?_
  refine w_k31 (c_in) rfl ⟨rfl, by decide, by decide, by decide, Or.inr (Or.inl ⟨_, rfl⟩)⟩ (Nat.le_of_ble_eq_true rfl) trivial (Nat.le_of_ble_eq_true rfl) ?_  -- calls 90 cX5_in
  refine w_b_ne rfl (fun z => absurd z (h1)) (fun _ => ?_)
  refine w_st rfl rfl rfl trivial ?_
  refine w_st rfl rfl rfl trivial ?_
  refine w_k21 (r_fails) rfl ⟨rfl, by decide, by decide, by decide, Or.inl ⟨_, rfl⟩⟩ (Nat.le_of_ble_eq_true rfl) (mm_foc rfl) (Nat.le_of_ble_eq_true rfl) ?_  -- calls 89 cX5_fails
  refine w_reti rfl ?_
  exact hF ▸ ⟨rfl, rfl, sp_th_k rfl⟩
theorem r_pass_2 (h : sp_N I σ) (h1 : 1 ≤ x ∧ x ≤ 500) (h2 : ¬ σ 0 + x ≤ 99999) : ∃ I', mm_M 117 4 [.ref 61, .int x] g I (some (.int 0)) I' ∧ sp_th 2 I I' := by
  refine w_MX ?_
  show mm_W 117 0 [.ref 61, .int x, .null, .null] [] _ _ _
  generalize hF : mm_EQ _ _ _ = F
  refine w_st rfl rfl rfl trivial ?_
  refine w_st rfl rfl rfl trivial ?_
  refine w_pi rfl (mm_foc rfl) ?_
  show mm_W 117 5 _ _ g (sp_st6 I 0) F
  refine w_st rfl rfl rfl trivial ?_
  refine w_st rfl rfl rfl trivial ?_
  refine w_st rfl rfl rfl trivial ?_
  refine w_k31 (c_in) rfl ⟨rfl, by decide, by decide, by decide, Or.inr (Or.inl ⟨_, rfl⟩)⟩ (Nat.le_of_ble_eq_true rfl) trivial (Nat.le_of_ble_eq_true rfl) ?_  -- calls 90 cX5_in
  refine w_b_ne rfl (fun _ => ?_) (fun z => absurd (h1) z)
  refine w_st rfl rfl rfl trivial ?_
  refine w_gr (j := 63) rfl (mm_foc rfl) rfl (by decide) ?_
  refine w_st rfl rfl rfl trivial ?_
  refine w_ia (0) rfl (mm_fac (n := 72) rfl) (by first | rfl | assumption | (simp only [← nI_add, ← nI_mul]; rfl)) (by first | decide | omega) ?_
  rw [(sp_N_6 (x := 0) h).2 0 (by decide)]
  refine w_st rfl rfl rfl trivial ?_
  refine w_iadd rfl ?_
  refine w_st rfl rfl rfl trivial ?_
  refine w_v_le rfl (fun z => by first | exact absurd z (h2) | exact absurd (h2) z) (fun _ => ?_)
  refine w_st rfl rfl rfl trivial ?_
  refine w_st rfl rfl rfl trivial ?_
  refine w_k21 (r_fails) rfl ⟨rfl, by decide, by decide, by decide, Or.inl ⟨_, rfl⟩⟩ (Nat.le_of_ble_eq_true rfl) (mm_foc rfl) (Nat.le_of_ble_eq_true rfl) ?_  -- calls 89 cX5_fails
  refine w_reti rfl ?_
  exact hF ▸ ⟨rfl, rfl, sp_th_k rfl⟩
theorem r_pass (h : sp_M I σ n ps m tx) (ok : sp_ok σ) (h1 : 1 ≤ H) (h5 : H ≤ 500) (hN : σ 0 = nI N) (h2 : N + H ≤ 99999) : ∃ I', mm_M 117 4 [.ref 61, .int (nI H)] g I (some (.int (nI (sp_hi σ H).2))) I' ∧ (sp_M I' (sp_hi σ H).1 (sp_sn n) (sp_sp n ps σ) m tx ∧ I' 61 6 = nI 0 ∧ sp_rf I I') := by
  have hN1 := sp_N_6 (x := 0) h.1
  obtain ⟨I2, hM2, hP2, a2, b2⟩ := r_saves (g := g) hN1.2 (sp_P_6 h.2.1)
  have hN2 : sp_N I2 σ := ⟨fun j hj => by rw [a2 62 (by decide) (by decide)]; exact hN1.1 j hj, fun j hj => by rw [a2 63 (by decide) (by decide)]; exact hN1.2 j hj⟩
  have hs : σ 0 + nI H ≤ (99999 : Int32) := by
    rw [hN, nI_add, show (99999 : Int32) = nI 99999 from rfl]
    exact nI_le h2 (by decide)
  refine w_MX ?_
  show mm_W 117 0 [.ref 61, .int (nI H), .null, .null] [] _ _ _
  generalize hF : mm_EQ _ _ _ = F
  refine w_st rfl rfl rfl trivial ?_
  refine w_st rfl rfl rfl trivial ?_
  refine w_pi rfl (mm_foc rfl) ?_
  show mm_W 117 5 _ _ g (sp_st6 I 0) F
  refine w_st rfl rfl rfl trivial ?_
  refine w_st rfl rfl rfl trivial ?_
  refine w_st rfl rfl rfl trivial ?_
  refine w_k31 (c_in) rfl ⟨rfl, by decide, by decide, by decide, Or.inr (Or.inl ⟨_, rfl⟩)⟩ (Nat.le_of_ble_eq_true rfl) trivial (Nat.le_of_ble_eq_true rfl) ?_  -- calls 90 cX5_in
  refine w_b_ne rfl (fun _ => ?_) (fun z => absurd (⟨nI_le (a := 1) h1 (by omega), nI_le h5 (by decide)⟩) z)
  refine w_st rfl rfl rfl trivial ?_
  refine w_gr (j := 63) rfl (mm_foc rfl) rfl (by decide) ?_
  refine w_st rfl rfl rfl trivial ?_
  refine w_ia (0) rfl (mm_fac (n := 72) rfl) (by first | rfl | assumption | (simp only [← nI_add, ← nI_mul]; rfl)) (by first | decide | omega) ?_
  rw [hN1.2 0 (by decide)]
  refine w_st rfl rfl rfl trivial ?_
  refine w_iadd rfl ?_
  refine w_st rfl rfl rfl trivial ?_
  refine w_v_le rfl (fun _ => ?_) (fun z => by first | exact absurd (hs) z | exact absurd z (hs))
  refine w_st rfl rfl rfl trivial ?_
  refine w_k10 (hM2) rfl ⟨rfl, by decide, by decide, by decide, Or.inl ⟨_, rfl⟩⟩ (Nat.le_of_ble_eq_true rfl) (mm_foc rfl) (Nat.le_of_ble_eq_true rfl) ?_  -- calls 96 cX5_saves
  refine w_st rfl rfl rfl trivial ?_
  refine w_st rfl rfl rfl (Nat.le_of_ble_eq_true rfl) ?_
  refine w_st rfl rfl rfl trivial ?_
  refine w_st rfl rfl rfl (Nat.le_of_ble_eq_true rfl) ?_
  have K : ∀ k, k ≤ H → ∀ I3, sp_N I3 (sp_hi σ k).1 → (∀ p, ¬ p = 63 → ¬ p = 67 → ¬ p = 68 → ¬ p = 69 → I3 p = I2 p) → mm_W 117 49 [.ref 61, .int (nI H), .int (nI (sp_hi σ k).2), .int (nI k)] [] g I3 F := by
    refine mm_dn H ?_ ?_
    · intro I3 hN3 f3
      refine w_st rfl rfl rfl trivial ?_
      refine w_st rfl rfl rfl trivial ?_
      refine w_n_ge (a := H) (b := H) rfl (by first | decide | omega) (by first | decide | omega) (by first | rfl | assumption | (simp only [← nI_add, ← nI_mul]; rfl)) (by first | rfl | assumption | (simp only [← nI_add, ← nI_mul]; rfl)) (fun _ => ?_) (fun c => by exfalso; omega)
      refine w_st rfl rfl rfl trivial ?_
      refine w_reti rfl ?_
      subst hF
      refine ⟨rfl, rfl, ?_⟩
      have e61 : ∀ j, ¬ j = 3 → I3 61 j = sp_st6 I 0 61 j := fun j hj => by rw [f3 61 (by decide) (by decide) (by decide) (by decide), b2 j hj]
      have ep : ∀ p, ¬ p = 61 → ¬ p = 64 → ¬ p = 63 → ¬ p = 67 → ¬ p = 68 → ¬ p = 69 → I3 p = I p := fun p a b c d e f => by rw [f3 p c d e f, a2 p a b]; exact sp_st6_o a
      refine ⟨⟨hN3, ?_, ?_, fun i hi => ?_⟩, ?_, fun p hp => ep p (by omega) (by omega) (by omega) (by omega) (by omega) (by omega)⟩
      · unfold sp_P at hP2 ⊢
        rw [f3 61 (by decide) (by decide) (by decide) (by decide), f3 64 (by decide) (by decide) (by decide) (by decide)]
        exact hP2
      · rw [e61 5 (by decide)]; exact (mm_un (Or.inr (by decide))).trans h.2.2.1
      · rw [ep 65 (by decide) (by decide) (by decide) (by decide) (by decide) (by decide)]; exact h.2.2.2 i hi
      · rw [e61 6 (by decide)]; exact mm_uu
    · intro k hk ih I3 hN3 f3
      have okk := sp_ok_hi ok hN k (by omega)
      obtain ⟨I4, hM4, hN4, f4⟩ := r_goes (g := g) hN3 okk
      refine w_st rfl rfl rfl trivial ?_
      refine w_st rfl rfl rfl trivial ?_
      refine w_n_ge (a := k) (b := H) rfl (by first | decide | omega) (by first | decide | omega) (by first | rfl | assumption | (simp only [← nI_add, ← nI_mul]; rfl)) (by first | rfl | assumption | (simp only [← nI_add, ← nI_mul]; rfl)) (fun c => by exfalso; omega) (fun _ => ?_)
      refine w_st rfl rfl rfl trivial ?_
      refine w_st rfl rfl rfl trivial ?_
      refine w_k11 (hM4) rfl ⟨rfl, by decide, by decide, by decide, Or.inl ⟨_, rfl⟩⟩ (Nat.le_of_ble_eq_true rfl) (mm_foc rfl) (Nat.le_of_ble_eq_true rfl) ?_  -- calls 116 cX5_goes
      refine w_iadd rfl ?_
      refine w_hd (nI_add _ _) ?_
      refine w_st rfl rfl rfl (Nat.le_of_ble_eq_true rfl) ?_
      refine w_inc rfl rfl rfl (Nat.le_of_ble_eq_true rfl) (nI_1 _) ?_
      refine w_st rfl rfl rfl trivial ?_
      exact ih I4 hN4 (fun p a b c d => by rw [f4 p a b c d]; exact f3 p a b c d)
  exact K 0 (Nat.zero_le _) I2 hN2 (fun _ _ _ _ _ => rfl)
end SM
