/-! the reference: lamps by a text -/
section SM
variable {g : mm_Gg} {I I1 : mm_Is} {x y z : Int32} {l d k t u f w n b o m N c s i a : Nat} {σ τ : sp_St} {ps : Nat → sp_St} {tx : Nat → Int32}
theorem sp_M_6 (h : sp_M I σ n ps m tx) : sp_M (sp_st6 I x) σ n ps m tx := by
  unfold sp_M sp_N sp_S sp_P at h ⊢
  rw [show sp_st6 I x 61 3 = I 61 3 from mm_un (Or.inr (by decide)), show sp_st6 I x 61 5 = I 61 5 from mm_un (Or.inr (by decide)), sp_st6_o (by decide), sp_st6_o (by decide), sp_st6_o (by decide), sp_st6_o (by decide)]
  exact h
theorem r_lamps_1 (h : sp_M I σ n ps m tx) (hm : m ≤ 60) (h3 : ¬ sp_rn tx m = 3) : ∃ I', mm_M 127 2 [.ref 61] g I (some (.int 0)) I' ∧ (sp_M I' σ n ps m tx ∧ I' 61 6 = nI 1 ∧ sp_rf I I') := by
  obtain ⟨q, I1, hM, a, p, hc⟩ := r_isText (g := g) (sp_bu_M h hm)
  have hfin := sp_M_pa h p
  refine w_MX ?_
  show mm_W 127 0 [.ref 61, .null] [] _ _ _
  generalize hF : mm_EQ _ _ _ = F
  refine w_st rfl rfl rfl trivial ?_
  refine w_st rfl rfl rfl trivial ?_
  refine w_pi rfl (mm_foc rfl) ?_
  show mm_W 127 5 _ _ g (sp_st6 I 0) F
  refine w_st rfl rfl rfl trivial ?_
  refine w_k11 (hM) rfl ⟨rfl, by decide, by decide, by decide, Or.inl ⟨_, rfl⟩⟩ (Nat.le_of_ble_eq_true rfl) (mm_foc rfl) (Nat.le_of_ble_eq_true rfl) ?_  -- calls 124 cX5_isText
  rcases hc with ⟨rfl, e1, e2⟩ | ⟨rfl, e2, P, e8, hP, hnP⟩
  · exact absurd e2 h3
  · skip
    refine w_z_ne rfl (fun z => by first | exact absurd z ((by decide : sp_q false = 0)) | exact absurd ((by decide : sp_q false = 0)) z) (fun _ => ?_)
    refine w_st rfl rfl rfl trivial ?_
    refine w_st rfl rfl rfl trivial ?_
    refine w_k21 (r_fails) rfl ⟨rfl, by decide, by decide, by decide, Or.inl ⟨_, rfl⟩⟩ (Nat.le_of_ble_eq_true rfl) (mm_foc rfl) (Nat.le_of_ble_eq_true rfl) ?_  -- calls 89 cX5_fails
    refine w_reti rfl ?_
    exact hF ▸ ⟨rfl, rfl, ⟨sp_M_6 hfin.1, mm_uu, fun p hp => by rw [sp_st6_o (by omega)]; exact hfin.2.2 p hp⟩⟩
theorem r_lamps (h : sp_M I σ n ps m tx) (ok : sp_ok σ) (hm : m ≤ 60) (h3 : sp_rn tx m = 3) : ∃ I', mm_M 127 2 [.ref 61] g I (some (.int (sp_bl (sp_tc tx σ m) 4))) I' ∧ (sp_M I' (sp_tc tx σ m) (sp_sn n) (sp_sp n ps σ) 0 tx ∧ I' 61 6 = nI 0 ∧ sp_rf I I') := by
  obtain ⟨q, I1, hM, a, p, hc⟩ := r_isText (g := g) (sp_bu_M h hm)
  have hfin := sp_M_pa h p
  have hc' : q = true ∧ a = m := by
    rcases hc with ⟨rfl, e1, e2⟩ | ⟨rfl, e2, _⟩
    · exact ⟨rfl, e1⟩
    · exact absurd h3 e2
  obtain ⟨rfl, rfl⟩ := hc'
  obtain ⟨⟨_, _, t, ht, h10, hv, hta⟩, _, _⟩ := p
  obtain ⟨I2, hM2, hP2, a2, b2⟩ := r_saves (g := g) hfin.1.1.2 hfin.1.2.1
  have e66 : va_up I2 61 (upd (I2 61) 5 0) 66 = I1 66 := by rw [va_up_ne _ _ (by decide), a2 66 (by decide) (by decide)]
  refine w_MX ?_
  show mm_W 127 0 [.ref 61, .null] [] _ _ _
  generalize hF : mm_EQ _ _ _ = F
  refine w_st rfl rfl rfl trivial ?_
  refine w_st rfl rfl rfl trivial ?_
  refine w_pi rfl (mm_foc rfl) ?_
  show mm_W 127 5 _ _ g (sp_st6 I 0) F
  refine w_st rfl rfl rfl trivial ?_
  refine w_k11 (hM) rfl ⟨rfl, by decide, by decide, by decide, Or.inl ⟨_, rfl⟩⟩ (Nat.le_of_ble_eq_true rfl) (mm_foc rfl) (Nat.le_of_ble_eq_true rfl) ?_  -- calls 124 cX5_isText
  refine w_z_ne rfl (fun _ => ?_) (fun z => by first | exact absurd ((by decide : ¬ sp_q true = 0)) z | exact absurd z ((by decide : ¬ sp_q true = 0)))
  refine w_st rfl rfl rfl trivial ?_
  refine w_k10 (hM2) rfl ⟨rfl, by decide, by decide, by decide, Or.inl ⟨_, rfl⟩⟩ (Nat.le_of_ble_eq_true rfl) (mm_foc rfl) (Nat.le_of_ble_eq_true rfl) ?_  -- calls 96 cX5_saves
  refine w_st rfl rfl rfl trivial ?_
  refine w_st rfl rfl rfl trivial ?_
  refine w_pi rfl (mm_foc rfl) ?_
  refine w_st rfl rfl rfl trivial ?_
  refine w_st rfl rfl rfl (Nat.le_of_ble_eq_true rfl) ?_
  have K : ∀ k, k ≤ t → ∀ I4, ((∀ j, j < 72 → I4 63 j = sp_ta (I1 66) k σ j) ∧ ∀ p, ¬ p = 63 → I4 p = va_up I2 61 (upd (I2 61) 5 0) p) → mm_W 127 29 [.ref 61, .int (nI k)] [] g I4 F := by
    refine mm_dn t ?_ ?_
    · intro I4 hI
      have e10 : I4 61 10 = nI t := by rw [hI.2 61 (by decide), mm_un (Or.inr (by decide)), b2 10 (by decide)]; exact h10
      have hN4 : sp_N I4 (sp_tc tx σ a) := by
        refine ⟨fun j hj => ?_, fun j hj => ?_⟩
        · rw [hI.2 62 (by decide), va_up_ne _ _ (by decide), a2 62 (by decide) (by decide)]; exact hfin.1.1.1 j hj
        · rw [hI.1 j hj, hta σ]
      refine w_st rfl rfl rfl trivial ?_
      refine w_st rfl rfl rfl trivial ?_
      refine w_gi rfl (mm_foc rfl) ?_
      rw [e10]
      refine w_n_ge (a := t) (b := t) rfl (by first | decide | omega) (by first | decide | omega) (by first | rfl | assumption | (simp only [← nI_add, ← nI_mul]; rfl)) (by first | rfl | assumption | (simp only [← nI_add, ← nI_mul]; rfl)) (fun _ => ?_) (fun c => by exfalso; omega)
      refine w_st rfl rfl rfl trivial ?_
      refine w_k11 (r_burnt hN4 (sp_ok_tc ok a)) rfl ⟨rfl, by decide, by decide, by decide, Or.inl ⟨_, rfl⟩⟩ (Nat.le_of_ble_eq_true rfl) (mm_foc rfl) (Nat.le_of_ble_eq_true rfl) ?_  -- calls 126 cX5_burnt
      refine w_reti rfl ?_
      subst hF
      refine ⟨rfl, rfl, ?_⟩
      refine ⟨⟨hN4, ⟨?_, hP2.2.1, fun i hi j hj => ?_⟩, ?_, fun i hi => absurd hi (Nat.not_lt_zero _)⟩, ?_, fun p hp => ?_⟩
      · rw [hI.2 61 (by decide), mm_un (Or.inr (by decide))]; exact hP2.1
      · rw [hI.2 64 (by decide), va_up_ne _ _ (by decide)]; exact hP2.2.2 i hi j hj
      · rw [hI.2 61 (by decide), mm_uu]; rfl
      · rw [hI.2 61 (by decide), mm_un (Or.inr (by decide)), b2 6 (by decide)]; exact hfin.2.1
      · rw [hI.2 p (by omega), va_up_ne _ _ (by omega), a2 p (by omega) (by omega)]; exact hfin.2.2 p hp
    · intro k hk ih I4 hI
      have e10 : I4 61 10 = nI t := by rw [hI.2 61 (by decide), mm_un (Or.inr (by decide)), b2 10 (by decide)]; exact h10
      have eT : I4 66 = I1 66 := by rw [hI.2 66 (by decide), e66]
      obtain ⟨f, l, q, hf, hl, t1, t2, t3⟩ := hv k hk
      obtain ⟨I5, hM5, hN5, f5⟩ : ∃ I', mm_M 112 4 [.ref 61, .int (nI f), .int (nI l), .int (sp_q q)] g I4 none I' ∧ ((∀ j, j < 72 → I' 63 j = sp_set (sp_ta (I1 66) k σ) f l q j) ∧ ∀ p, ¬ p = 63 → I' p = I4 p) := by
        cases q
        · exact r_changes_f hI.1 hf hl
        · exact r_changes_t hI.1 hf hl
      have e5 : sp_ta (I1 66) (k + 1) σ = sp_set (sp_ta (I1 66) k σ) f l q := by
        show sp_set _ (I1 66 (3 * k)).toNatClampNeg (I1 66 (3 * k + 2)).toNatClampNeg (decide (I1 66 (3 * k + 1) = 1)) = _
        rw [t1, t2, t3, sp_q_d, nI_clamp (by omega), nI_clamp (by omega)]
      refine w_st rfl rfl rfl trivial ?_
      refine w_st rfl rfl rfl trivial ?_
      refine w_gi rfl (mm_foc rfl) ?_
      rw [e10]
      refine w_n_ge (a := k) (b := t) rfl (by first | decide | omega) (by first | decide | omega) (by first | rfl | assumption | (simp only [← nI_add, ← nI_mul]; rfl)) (by first | rfl | assumption | (simp only [← nI_add, ← nI_mul]; rfl)) (fun c => by exfalso; omega) (fun _ => ?_)
      refine w_st rfl rfl rfl trivial ?_
      refine w_st rfl rfl rfl trivial ?_
      refine w_gr (j := 66) rfl (mm_foc rfl) rfl (by decide) ?_
      refine w_st rfl rfl rfl trivial ?_
      refine w_st rfl rfl rfl trivial ?_
      refine w_imul rfl ?_
      refine w_ia (3 * k) rfl (mm_fac (n := 180) rfl) (by first | rfl | assumption | (simp only [← nI_add, ← nI_mul]; rfl)) (by first | decide | omega) ?_
      rw [eT, t1]
      refine w_st rfl rfl rfl trivial ?_
      refine w_gr (j := 66) rfl (mm_foc rfl) rfl (by decide) ?_
      refine w_st rfl rfl rfl trivial ?_
      refine w_st rfl rfl rfl trivial ?_
      refine w_imul rfl ?_
      refine w_st rfl rfl rfl trivial ?_
      refine w_iadd rfl ?_
      refine w_ia (3 * k + 2) rfl (mm_fac (n := 180) rfl) (by first | rfl | assumption | (simp only [← nI_add, ← nI_mul]; rfl)) (by first | decide | omega) ?_
      rw [eT, t3]
      refine w_st rfl rfl rfl trivial ?_
      refine w_gr (j := 66) rfl (mm_foc rfl) rfl (by decide) ?_
      refine w_st rfl rfl rfl trivial ?_
      refine w_st rfl rfl rfl trivial ?_
      refine w_imul rfl ?_
      refine w_st rfl rfl rfl trivial ?_
      refine w_iadd rfl ?_
      refine w_ia (3 * k + 1) rfl (mm_fac (n := 180) rfl) (by first | rfl | assumption | (simp only [← nI_add, ← nI_mul]; rfl)) (by first | decide | omega) ?_
      rw [eT, t2]
      refine w_st rfl rfl rfl trivial ?_
      cases q
      · skip
        refine w_v_ne rfl (fun _ => ?_) (fun z => by first | exact absurd ((by decide : ¬ sp_q false = 1)) z | exact absurd z ((by decide : ¬ sp_q false = 1)))
        refine w_st rfl rfl rfl trivial ?_
        refine w_k40 (hM5) rfl ⟨rfl, by decide, by decide, by decide, Or.inl ⟨_, rfl⟩⟩ (Nat.le_of_ble_eq_true rfl) (mm_foc rfl) (Nat.le_of_ble_eq_true rfl) ?_  -- calls 112 cX5_changes
        refine w_inc rfl rfl rfl (Nat.le_of_ble_eq_true rfl) (nI_1 _) ?_
        refine w_st rfl rfl rfl trivial ?_
        exact ih I5 ⟨fun j hj => by rw [e5]; exact hN5 j hj, fun p hp => by rw [f5 p hp]; exact hI.2 p hp⟩
      · skip
        refine w_v_ne rfl (fun z => by first | exact absurd z ((by decide : ¬ ¬ sp_q true = 1)) | exact absurd ((by decide : ¬ ¬ sp_q true = 1)) z) (fun _ => ?_)
        refine w_st rfl rfl rfl trivial ?_
        refine w_st rfl rfl rfl trivial ?_
        refine w_k40 (hM5) rfl ⟨rfl, by decide, by decide, by decide, Or.inl ⟨_, rfl⟩⟩ (Nat.le_of_ble_eq_true rfl) (mm_foc rfl) (Nat.le_of_ble_eq_true rfl) ?_  -- calls 112 cX5_changes
        refine w_inc rfl rfl rfl (Nat.le_of_ble_eq_true rfl) (nI_1 _) ?_
        refine w_st rfl rfl rfl trivial ?_
        exact ih I5 ⟨fun j hj => by rw [e5]; exact hN5 j hj, fun p hp => by rw [f5 p hp]; exact hI.2 p hp⟩
  refine K 0 (Nat.zero_le _) _ ⟨fun j hj => ?_, fun _ _ => rfl⟩
  rw [va_up_ne _ _ (by decide), a2 63 (by decide) (by decide)]
  exact hfin.1.1.2 j hj
end SM
