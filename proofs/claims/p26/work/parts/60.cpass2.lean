/-! pass, on the class's side: from burning to burning is hour by hour -/
section SM
variable {g : mm_Gg} {I I1 : mm_Is} {x y z : Int32} {l f n m H N : Nat} {σ τ ρ : sp_St} {ps : Nat → sp_St} {tx : Nat → Int32}
theorem sp_hu_e3 (h : sp_e3 τ ρ) : sp_hu τ f l = sp_hu ρ f l := by
  unfold sp_hu
  rw [sp_wn_e3 h, sp_lit_e3 h, h 2 (by decide) (by decide), h (8 + f) (by omega) (by omega), h (12 + (15 * f + l)) (by omega) (by omega)]
theorem sp_n2_e3 (h : sp_e3 τ ρ) (k : Nat) : sp_n2 τ f x k = sp_n2 ρ f x k := by
  induction k with
  | zero => rfl
  | succ k ih =>
    show sp_n1 (sp_n2 τ f x k) (sp_hu τ f k) = sp_n1 (sp_n2 ρ f x k) (sp_hu ρ f k)
    rw [ih, sp_hu_e3 h]
theorem sp_nb_e3 (h : sp_e3 τ ρ) (k : Nat) : sp_nb τ k = sp_nb ρ k := by
  induction k with
  | zero => rfl
  | succ k ih =>
    show sp_n2 τ k (sp_nb τ k) 15 = sp_n2 ρ k (sp_nb ρ k) 15
    rw [ih, sp_n2_e3 h]
theorem c_pass (h : sp_C I σ n ps m tx) (ok : sp_ok σ) (h1 : 1 ≤ H) (h5 : H ≤ 500) (hN : σ 0 = nI N) (h2 : N + H ≤ 99999) : ∃ I', mm_M 31 7 [.ref 0, .int (nI H)] g I (some (.int (nI (sp_hi σ H).2))) I' ∧ (sp_C I' (sp_hi σ H).1 (sp_sn n) (sp_sp n ps σ) m tx ∧ sp_cf I I') := by
  obtain ⟨I1, hM1, hH1, f1⟩ := c_save (g := g) h.1.1 h.2.1
  have hD1 := sp_D_save f1 h.1
  have hX1 := sp_X_save f1 h.2.2
  have hs : σ 0 + nI H ≤ (99999 : Int32) := by
    rw [hN, nI_add, show (99999 : Int32) = nI 99999 from rfl]
    exact nI_le h2 (by decide)
  refine w_MX ?_
  show mm_W 31 0 [.ref 0, .int (nI H), .null, .null, .null, .null, .null] [] _ _ _
  generalize hF : mm_EQ _ _ _ = F
  refine w_st rfl rfl rfl trivial ?_
  refine w_st rfl rfl rfl trivial ?_
  refine w_n_lt (a := H) (b := 1) rfl (by first | decide | omega) (by first | decide | omega) (by first | rfl | assumption | (simp only [← nI_add, ← nI_mul]; rfl)) (by first | rfl | assumption | (simp only [← nI_add, ← nI_mul]; rfl)) (fun c => by exfalso; omega) (fun _ => ?_)
  refine w_st rfl rfl rfl trivial ?_
  refine w_st rfl rfl rfl trivial ?_
  refine w_n_le (a := H) (b := 500) rfl (by first | decide | omega) (by first | decide | omega) (by first | rfl | assumption | (simp only [← nI_add, ← nI_mul]; rfl)) (by first | rfl | assumption | (simp only [← nI_add, ← nI_mul]; rfl)) (fun _ => ?_) (fun c => by exfalso; omega)
  refine w_st rfl rfl rfl trivial ?_
  refine w_gr (j := 1) rfl (mm_foc rfl) rfl (by decide) ?_
  refine w_gi rfl (mm_foc rfl) ?_
  rw [show I 1 4 = σ 0 from h.1.1.2.2.2.2.1]
  refine w_st rfl rfl rfl trivial ?_
  refine w_iadd rfl ?_
  refine w_st rfl rfl rfl trivial ?_
  refine w_v_le rfl (fun _ => ?_) (fun z => by first | exact absurd (hs) z | exact absurd z (hs))
  refine w_st rfl rfl rfl trivial ?_
  refine w_gr (j := 13) rfl (mm_foc rfl) rfl (by decide) ?_
  refine w_st rfl rfl rfl trivial ?_
  refine w_gr (j := 1) rfl (mm_foc rfl) rfl (by decide) ?_
  refine w_k20 (hM1) rfl ⟨rfl, by decide, by decide, by decide, Or.inl ⟨_, rfl⟩⟩ (Nat.le_of_ble_eq_true rfl) (mm_foc rfl) (Nat.le_of_ble_eq_true rfl) ?_  -- calls 6 cX1_save
  refine w_st rfl rfl rfl trivial ?_
  refine w_st rfl rfl rfl (Nat.le_of_ble_eq_true rfl) ?_
  refine w_st rfl rfl rfl trivial ?_
  refine w_st rfl rfl rfl (Nat.le_of_ble_eq_true rfl) ?_
  refine w_st rfl rfl rfl trivial ?_
  refine w_st rfl rfl rfl (Nat.le_of_ble_eq_true rfl) ?_
  have X : ∀ I2 (v3 v4 : Int32) v5 v6 τ, sp_D I2 τ → sp_e3 (sp_hi σ H).1 τ → τ 0 = σ 0 → τ 3 = σ 3 → (∀ p, ¬ p = 3 → ¬ p = 4 → ¬ (45 ≤ p ∧ p < 61) → I2 p = I1 p) → mm_W 31 124 [.ref 0, .int (nI H), .int (nI (sp_hi σ H).2), .int v3, .int v4, v5, v6] [] g I2 F := by
    intro I2 v3 v4 v5 v6 τ hD2 he e0 e3 f2
    have eq : upd (upd τ 0 (σ 0 + nI H)) 3 (σ 3 + nI (sp_hi σ H).2) = (sp_hi σ H).1 := by
      funext j
      by_cases c3 : j = 3
      · subst c3; rw [upd_s, sp_hi_3]
      · rw [upd_n c3]
        by_cases c0 : j = 0
        · subst c0; rw [upd_s, sp_hi_0]
        · rw [upd_n c0]; exact (he j c0 c3).symm
    refine w_st rfl rfl rfl trivial ?_
    refine w_gr (j := 1) rfl (mm_foc rfl) rfl (by decide) ?_
    refine w_st rfl rfl rfl trivial ?_
    refine w_gi rfl (mm_foc rfl) ?_
    refine w_st rfl rfl rfl trivial ?_
    rw [show I2 1 4 = τ 0 from hD2.1.2.2.2.2.1, e0]
    have hb3 := sp_bd_41 (x := σ 0 + nI H) hD2.1
    refine w_iadd rfl ?_
    refine w_pi rfl (mm_foc rfl) ?_
    refine w_st rfl rfl rfl trivial ?_
    refine w_gr (j := 1) rfl (mm_foc rfl) rfl (by decide) ?_
    refine w_st rfl rfl rfl trivial ?_
    refine w_gi rfl (mm_foc rfl) ?_
    refine w_st rfl rfl rfl trivial ?_
    rw [show va_up I2 1 (upd (I2 1) 4 (σ 0 + nI H)) 1 5 = upd τ 0 (σ 0 + nI H) 3 from hb3.2.2.2.2.2, upd_n (by decide), e3]
    have hb4 := sp_bd_51 (x := σ 3 + nI (sp_hi σ H).2) hb3
    refine w_iadd rfl ?_
    refine w_pi rfl (mm_foc rfl) ?_
    refine w_st rfl rfl rfl trivial ?_
    refine w_reti rfl ?_
    subst hF
    refine ⟨rfl, rfl, ?_⟩
    rw [eq] at hb4
    refine ⟨⟨⟨hb4, fun e he4 d hd => ?_⟩, sp_H_c (fun p hp => ?_) hH1, sp_X_c (fun p hp => ?_) hX1⟩, fun p hp => ?_⟩
    · have := hD2.2 e he4 d hd
      rw [he (8 + e) (by omega) (by omega), he 1 (by decide) (by decide)]
      unfold sp_te at this ⊢
      rw [va_up_ne _ _ (by omega), va_up_ne _ _ (by omega), va_up_ne _ _ (by omega), va_up_ne _ _ (by omega), va_up_ne _ _ (by omega), va_up_ne _ _ (by omega)]
      exact this
    · rw [va_up_ne _ _ (by omega), va_up_ne _ _ (by omega)]; exact f2 p (by omega) (by omega) (by omega)
    · rw [va_up_ne _ _ (by omega), va_up_ne _ _ (by omega)]; exact f2 p (by omega) (by omega) (by omega)
    · rw [va_up_ne _ _ (by omega), va_up_ne _ _ (by omega), f2 p (by omega) (by omega) (by omega)]; exact f1 p (by omega) (by omega)
  have K : ∀ t, t ≤ H → ∀ I2 r τ v5 v6, r ≤ H - t → sp_D I2 τ → sp_e3 (sp_hi σ (H - r)).1 τ → τ 0 = σ 0 → τ 3 = σ 3 → (∀ p, ¬ p = 3 → ¬ p = 4 → ¬ (45 ≤ p ∧ p < 61) → I2 p = I1 p) → mm_W 31 64 [.ref 0, .int (nI H), .int (nI (sp_hi σ (H - r)).2), .int (nI r), .int (nI t), v5, v6] [] g I2 F := by
    refine mm_dn H ?_ ?_
    · intro I2 r τ v5 v6 hr hD2 he e0 e3 f2
      have r0 : r = 0 := by omega
      subst r0
      refine w_st rfl rfl rfl trivial ?_
      refine w_st rfl rfl rfl trivial ?_
      refine w_n_ge (a := H) (b := H) rfl (by first | decide | omega) (by first | decide | omega) (by first | rfl | assumption | (simp only [← nI_add, ← nI_mul]; rfl)) (by first | rfl | assumption | (simp only [← nI_add, ← nI_mul]; rfl)) (fun _ => ?_) (fun c => by exfalso; omega)
      exact X I2 _ _ v5 v6 τ hD2 he e0 e3 f2
    · intro t ht ih I2 r τ v5 v6 hr hD2 he e0 e3 f2
      refine w_st rfl rfl rfl trivial ?_
      refine w_st rfl rfl rfl trivial ?_
      refine w_n_ge (a := t) (b := H) rfl (by first | decide | omega) (by first | decide | omega) (by first | rfl | assumption | (simp only [← nI_add, ← nI_mul]; rfl)) (by first | rfl | assumption | (simp only [← nI_add, ← nI_mul]; rfl)) (fun c => by exfalso; omega) (fun _ => ?_)
      refine w_st rfl rfl rfl trivial ?_
      refine w_m_le (a := r) rfl (by first | decide | omega) (by first | rfl | assumption | (simp only [← nI_add, ← nI_mul]; rfl)) (fun c => ?_) (fun c => ?_)
      · subst c
        exact X I2 _ _ v5 v6 τ hD2 he e0 e3 f2
      · have okr := sp_ok_hi ok hN (H - r) (by omega)
        have hadd := sp_hi_add (σ := σ) (H - r)
        generalize hρ : (sp_hi σ (H - r)).1 = ρ at he okr hadd
        generalize hB : (sp_hi σ (H - r)).2 = B at hadd ⊢
        obtain ⟨g1, g2⟩ := sp_nb_ge (fun f hf l hl => sp_hu_ge okr hf hl) 4 (Nat.le_refl _)
        refine w_st rfl rfl rfl trivial ?_
        refine w_k11 (c_nextBurn hD2) rfl ⟨rfl, by decide, by decide, by decide, Or.inl ⟨_, rfl⟩⟩ (Nat.le_of_ble_eq_true rfl) (mm_foc rfl) (Nat.le_of_ble_eq_true rfl) ?_  -- calls 42 cX4_nextBurn
        rw [← sp_nb_e3 he]
        have Y : ∀ s (v5 : Int32) v6, 1 ≤ s → s ≤ r → sp_ge s (sp_nb ρ 4) → mm_W 31 98 [.ref 0, .int (nI H), .int (nI B), .int (nI r), .int (nI t), .int v5, v6] [.int (nI s)] g I2 F := by
          intro s v5 v6 hs1 hsr hge
          obtain ⟨R1, R2⟩ := sp_run2 okr (g2 s hge) hs1 (by omega)
          obtain ⟨Q1, Q2⟩ := sp_bw_e3 (sp_hA_e3 (x := nI s) he) 4
          have ea := hadd s
          rw [R2, Q2] at ea
          have es : H - r + s = H - (r - s) := by omega
          rw [es] at ea
          have e2 : (sp_hi σ (H - (r - s))).2 = B + (sp_bw (sp_hA τ (nI s)) 4).2 := by rw [ea]
          have e1 : sp_e3 (sp_hi σ (H - (r - s))).1 (sp_bw (sp_hA τ (nI s)) 4).1 := by rw [ea]; exact sp_e3_t R1 Q1
          obtain ⟨I3, hM3, hD3, f3⟩ := c_light (g := g) (x := nI s) hD2
          rw [sp_lg_A] at hD3
          obtain ⟨I4, hM4, hD4, f4⟩ := c_burnWorn (g := g) hD3.1
          have z0 : (sp_bw (sp_hA τ (nI s)) 4).1 0 = σ 0 := by rw [sp_bw_o2 4 (by omega), sp_hA_o (by decide), e0]
          have z3 : (sp_bw (sp_hA τ (nI s)) 4).1 3 = σ 3 := by rw [sp_bw_o2 4 (by omega), sp_hA_o (by decide), e3]
          have I' := ih I4 (r - s) _ (.int v5) (.int (nI s)) (by omega) hD4 e1 z0 z3 (fun p a b c => by rw [f4 p a b c, f3 p b]; exact f2 p a b c)
          refine w_st rfl rfl rfl (Nat.le_of_ble_eq_true rfl) ?_
          refine w_st rfl rfl rfl trivial ?_
          refine w_st rfl rfl rfl trivial ?_
          refine w_k20 (hM3) rfl ⟨rfl, by decide, by decide, by decide, Or.inl ⟨_, rfl⟩⟩ (Nat.le_of_ble_eq_true rfl) (mm_foc rfl) (Nat.le_of_ble_eq_true rfl) ?_  -- calls 56 cX4_light
          refine w_st rfl rfl rfl trivial ?_
          refine w_st rfl rfl rfl trivial ?_
          refine w_k11 (hM4) rfl ⟨rfl, by decide, by decide, by decide, Or.inl ⟨_, rfl⟩⟩ (Nat.le_of_ble_eq_true rfl) (mm_foc rfl) (Nat.le_of_ble_eq_true rfl) ?_  -- calls 57 cX4_burnWorn
          refine w_iadd rfl ?_
          refine w_hd (show nI B + nI (sp_bw (sp_hA τ (nI s)) 4).2 = nI (sp_hi σ (H - (r - s))).2 from by rw [nI_add, e2]) ?_
          refine w_st rfl rfl rfl (Nat.le_of_ble_eq_true rfl) ?_
          refine w_st rfl rfl rfl trivial ?_
          refine w_st rfl rfl rfl trivial ?_
          refine w_isub rfl ?_
          refine w_hd (nI_sub hsr) ?_
          refine w_st rfl rfl rfl (Nat.le_of_ble_eq_true rfl) ?_
          refine w_inc rfl rfl rfl (Nat.le_of_ble_eq_true rfl) (nI_1 _) ?_
          refine w_st rfl rfl rfl trivial ?_
          exact I'
        refine w_st rfl rfl rfl (Nat.le_of_ble_eq_true rfl) ?_
        refine w_st rfl rfl rfl trivial ?_
        refine w_st rfl rfl rfl trivial ?_
        refine w_v_eq rfl (fun c1 => ?_) (fun c1 => ?_)
        · skip
          refine w_st rfl rfl rfl trivial ?_
          refine w_st rfl rfl rfl trivial ?_
          exact Y r _ _ c (Nat.le_refl _) (Or.inl c1)
        · obtain ⟨b, b1, b2, b3⟩ := g1.resolve_left c1
          rw [b3]
          refine w_st rfl rfl rfl trivial ?_
          refine w_st rfl rfl rfl trivial ?_
          refine w_n_le (a := b) (b := r) rfl (by first | decide | omega) (by first | decide | omega) (by first | rfl | assumption | (simp only [← nI_add, ← nI_mul]; rfl)) (by first | rfl | assumption | (simp only [← nI_add, ← nI_mul]; rfl)) (fun c2 => ?_) (fun c2 => ?_)
          · skip
            refine w_st rfl rfl rfl trivial ?_
            exact Y b _ _ b1 c2 (by rw [b3]; exact Or.inr ⟨b, Nat.le_refl _, b2, rfl⟩)
          · skip
            refine w_st rfl rfl rfl trivial ?_
            refine w_st rfl rfl rfl trivial ?_
            exact Y r _ _ c (Nat.le_refl _) (by rw [b3]; exact Or.inr ⟨b, by omega, b2, rfl⟩)
  have e0 : sp_hi σ (H - H) = (σ, 0) := by rw [Nat.sub_self]; rfl
  have Z := K 0 (Nat.zero_le _) I1 H σ .null .null (by omega) hD1 (by rw [e0]; exact fun _ _ _ => rfl) rfl rfl (fun _ _ _ _ => rfl)
  rw [e0] at Z
  exact Z
end SM
