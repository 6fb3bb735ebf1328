/-! the reference's own way to the table -/
def sp_S (I : mm_Is) : Prop := ∀ j, j < 30 → I 62 j = mm_SHP j
theorem sp_b15_sh {b : Int32} {d k : Nat} (hd : d < 10) (hk : k < 3) : sp_b15 (sp_sh b d (nI k)) := by
  rw [sp_sh_n hk]
  exact sp_b15_and (sp_b15_S _ (by omega)) _
theorem sp_ci_none {r : Nat → Int32} {b : Int32} {d : Nat} {a : Int32} (h : r d = -1) (n : Nat) : sp_ci r b d a n = a := by
  induction n with
  | zero => rfl
  | succ n ih =>
    show sp_cs r b d n (sp_ci r b d a n) = a
    unfold sp_cs
    rw [sp_if_t (Or.inl h), ih]
section SM
variable {g : mm_Gg} {I : mm_Is} {x y z b s L b' s' : Int32} {l d k t u p : Nat}
theorem r_shown (hS : sp_S I) (hd : d < 10) (hk : k < 3) : mm_M 98 4 [.ref 61, .int (nI d), .int (nI k), .int b] g I (some (.int (sp_sh b d (nI k)))) I := by
  refine w_M ?_
  show mm_W 98 0 [.ref 61, .int (nI d), .int (nI k), .int b] [] _ _ _
  generalize hF : mm_EX _ _ _ = F
  refine w_st rfl rfl rfl trivial ?_
  refine w_gr (j := 62) rfl (mm_foc rfl) rfl (by decide) ?_
  refine w_st rfl rfl rfl trivial ?_
  refine w_st rfl rfl rfl trivial ?_
  refine w_imul rfl ?_
  refine w_st rfl rfl rfl trivial ?_
  refine w_iadd rfl ?_
  refine w_ia (3 * d + k) rfl (mm_fac (n := 30) rfl) (by first | rfl | assumption | (simp only [← nI_add, ← nI_mul]; rfl)) (by first | decide | omega) ?_
  rw [hS _ (by omega)]
  refine w_st rfl rfl rfl trivial ?_
  refine w_st rfl rfl rfl trivial ?_
  refine w_ixor rfl ?_
  refine w_iand rfl ?_
  refine w_reti rfl ?_
  exact hF ▸ mm_EX_i ((sp_sh_n hk).symm)
theorem r_missing (hS : sp_S I) (hd : d < 10) (hk : k < 3) : mm_M 100 4 [.ref 61, .int (nI d), .int (nI k), .int b] g I (some (.int (sp_mi b d (nI k)))) I := by
  refine w_M ?_
  show mm_W 100 0 [.ref 61, .int (nI d), .int (nI k), .int b] [] _ _ _
  generalize hF : mm_EX _ _ _ = F
  refine w_st rfl rfl rfl trivial ?_
  refine w_gr (j := 62) rfl (mm_foc rfl) rfl (by decide) ?_
  refine w_st rfl rfl rfl trivial ?_
  refine w_st rfl rfl rfl trivial ?_
  refine w_imul rfl ?_
  refine w_st rfl rfl rfl trivial ?_
  refine w_iadd rfl ?_
  refine w_ia (3 * d + k) rfl (mm_fac (n := 30) rfl) (by first | rfl | assumption | (simp only [← nI_add, ← nI_mul]; rfl)) (by first | decide | omega) ?_
  rw [hS _ (by omega)]
  refine w_st rfl rfl rfl trivial ?_
  refine w_iand rfl ?_
  refine w_k11 (r_ones (sp_b15_and (sp_b15_S _ (by omega)) _)) rfl ⟨rfl, by decide, by decide, by decide, Or.inr (Or.inl ⟨_, rfl⟩)⟩ (Nat.le_of_ble_eq_true rfl) trivial (Nat.le_of_ble_eq_true rfl) ?_  -- calls 95 cX5_ones
  refine w_reti rfl ?_
  exact hF ▸ mm_EX_i ((sp_mi_n hk).symm)
theorem r_isApart (hS : sp_S I) (hP : mm_fa p 10 10) (hd : d < 10) (hk : k < 3) (hI : ∀ e, e < d → I p e = sp_row b s e) : mm_M 99 7 [.ref 61, .ref p, .int (nI d), .int (nI k), .int b, .int s] g I (some (.int (mm_bi (sp_ap (sp_row b s) b s (sp_sh b d (nI k)) d)))) I := by
  refine w_M ?_
  show mm_W 99 0 [.ref 61, .ref p, .int (nI d), .int (nI k), .int b, .int s, .null] [] _ _ _
  generalize hF : mm_EX _ _ _ = F
  refine w_st rfl rfl rfl trivial ?_
  refine w_st rfl rfl rfl (Nat.le_of_ble_eq_true rfl) ?_
  have K : ∀ j, j ≤ d → sp_ap (sp_row b s) b s (sp_sh b d (nI k)) j → mm_W 99 3 [.ref 61, .ref p, .int (nI d), .int (nI k), .int b, .int s, .int (nI j)] [] g I F := by
    refine mm_dn d ?_ ?_
    · intro h
      refine w_st rfl rfl rfl trivial ?_
      refine w_st rfl rfl rfl trivial ?_
      refine w_n_ge (a := d) (b := d) rfl (by first | decide | omega) (by first | decide | omega) (by first | rfl | assumption | (simp only [← nI_add, ← nI_mul]; rfl)) (by first | rfl | assumption | (simp only [← nI_add, ← nI_mul]; rfl)) (fun _ => ?_) (fun c => by exfalso; omega)
      refine w_st rfl rfl rfl trivial ?_
      refine w_retz rfl (by first | exact Or.inl rfl | exact Or.inr rfl | exact mm_bi_01 _ | assumption) ?_
      exact hF ▸ mm_EX_i ((mm_bi_t h).symm)
    · intro j hj ih h
      refine w_st rfl rfl rfl trivial ?_
      refine w_st rfl rfl rfl trivial ?_
      refine w_n_ge (a := j) (b := d) rfl (by first | decide | omega) (by first | decide | omega) (by first | rfl | assumption | (simp only [← nI_add, ← nI_mul]; rfl)) (by first | rfl | assumption | (simp only [← nI_add, ← nI_mul]; rfl)) (fun c => by exfalso; omega) (fun _ => ?_)
      refine w_st rfl rfl rfl trivial ?_
      refine w_st rfl rfl rfl trivial ?_
      refine w_ia (j) rfl hP (by first | rfl | assumption | (simp only [← nI_add, ← nI_mul]; rfl)) (by first | decide | omega) ?_
      rw [hI j hj]
      refine w_st rfl rfl rfl trivial ?_
      refine w_v_eq rfl (fun c1 => ?_) (fun c1 => ?_)
      · skip
        refine w_inc rfl rfl rfl (Nat.le_of_ble_eq_true rfl) (nI_1 _) ?_
        refine w_st rfl rfl rfl trivial ?_
        refine ih (fun e he hr => ?_)
        rcases Nat.lt_succ_iff_lt_or_eq.1 he with h1 | rfl
        · exact h e h1 hr
        · exact absurd c1 hr
      · skip
        refine w_st rfl rfl rfl trivial ?_
        refine w_st rfl rfl rfl trivial ?_
        refine w_st rfl rfl rfl trivial ?_
        refine w_st rfl rfl rfl trivial ?_
        refine w_ia (j) rfl hP (by first | rfl | assumption | (simp only [← nI_add, ← nI_mul]; rfl)) (by first | decide | omega) ?_
        rw [hI j hj]
        obtain ⟨i, hi, hr⟩ := (sp_row_k (b := b) (s := s) (d := j) (by omega)).resolve_left c1
        rw [hr]
        refine w_st rfl rfl rfl trivial ?_
        refine w_k41 (r_shown hS (by omega) hi) rfl ⟨rfl, by decide, by decide, by decide, Or.inl ⟨_, rfl⟩⟩ (Nat.le_of_ble_eq_true rfl) (mm_foc rfl) (Nat.le_of_ble_eq_true rfl) ?_  -- calls 98 cX5_shown
        refine w_st rfl rfl rfl trivial ?_
        refine w_st rfl rfl rfl trivial ?_
        refine w_st rfl rfl rfl trivial ?_
        refine w_st rfl rfl rfl trivial ?_
        refine w_k41 (r_shown hS hd hk) rfl ⟨rfl, by decide, by decide, by decide, Or.inl ⟨_, rfl⟩⟩ (Nat.le_of_ble_eq_true rfl) (mm_foc rfl) (Nat.le_of_ble_eq_true rfl) ?_  -- calls 98 cX5_shown
        refine w_ixor rfl ?_
        refine w_k11 (r_ones (sp_b15_xor (sp_b15_sh (by omega) hi) (sp_b15_sh hd hk))) rfl ⟨rfl, by decide, by decide, by decide, Or.inr (Or.inl ⟨_, rfl⟩)⟩ (Nat.le_of_ble_eq_true rfl) trivial (Nat.le_of_ble_eq_true rfl) ?_  -- calls 95 cX5_ones
        rw [← hr, Int32.xor_comm]
        refine w_st rfl rfl rfl trivial ?_
        refine w_v_ge rfl (fun c2 => ?_) (fun c2 => ?_)
        · skip
          refine w_inc rfl rfl rfl (Nat.le_of_ble_eq_true rfl) (nI_1 _) ?_
          refine w_st rfl rfl rfl trivial ?_
          refine ih (fun e he hr => ?_)
          rcases Nat.lt_succ_iff_lt_or_eq.1 he with h1 | rfl
          · exact h e h1 hr
          · exact Int32.not_lt.2 c2
        · skip
          refine w_st rfl rfl rfl trivial ?_
          refine w_retz rfl (by first | exact Or.inl rfl | exact Or.inr rfl | exact mm_bi_01 _ | assumption) ?_
          exact hF ▸ mm_EX_i ((mm_bi_f (fun z => z j hj c1 (Int32.not_le.1 c2))).symm)
  exact K 0 (Nat.zero_le _) (fun e he => absurd he (Nat.not_lt_zero _))
theorem r_lays (hS : sp_S I) (hP : mm_fa p 10 10) (h62 : ¬ p = 62) (hb : sp_b15 b) : ∃ I', mm_M 101 8 [.ref 61, .ref p, .int b, .int s] g I (some (.int (nI (sp_no (sp_row b s) 10)))) I' ∧ ((∀ d, d < 10 → I' p d = sp_row b s d) ∧ ∀ q, ¬ q = p → I' q = I q) := by
  refine w_MX ?_
  show mm_W 101 0 [.ref 61, .ref p, .int b, .int s, .null, .null, .null, .null] [] _ _ _
  generalize hF : mm_EQ _ _ _ = F
  refine w_st rfl rfl rfl trivial ?_
  refine w_st rfl rfl rfl (Nat.le_of_ble_eq_true rfl) ?_
  refine w_st rfl rfl rfl trivial ?_
  refine w_st rfl rfl rfl (Nat.le_of_ble_eq_true rfl) ?_
  have K : ∀ d, d ≤ 10 → ∀ I1 v6 v7, ((∀ e, e < d → I1 p e = sp_row b s e) ∧ ∀ q, ¬ q = p → I1 q = I q) → mm_W 101 6 [.ref 61, .ref p, .int b, .int s, .int (nI (sp_no (sp_row b s) d)), .int (nI d), v6, v7] [] g I1 F := by
    refine mm_dn 10 ?_ ?_
    · intro I1 v6 v7 h
      refine w_st rfl rfl rfl trivial ?_
      refine w_st rfl rfl rfl trivial ?_
      refine w_n_ge (a := 10) (b := 10) rfl (by first | decide | omega) (by first | decide | omega) (by first | rfl | assumption | (simp only [← nI_add, ← nI_mul]; rfl)) (by first | rfl | assumption | (simp only [← nI_add, ← nI_mul]; rfl)) (fun _ => ?_) (fun c => by exfalso; omega)
      refine w_st rfl rfl rfl trivial ?_
      refine w_reti rfl ?_
      exact hF ▸ ⟨rfl, rfl, h⟩
    · intro d hd ih I1 v6 v7 h
      refine w_st rfl rfl rfl trivial ?_
      refine w_st rfl rfl rfl trivial ?_
      refine w_n_ge (a := d) (b := 10) rfl (by first | decide | omega) (by first | decide | omega) (by first | rfl | assumption | (simp only [← nI_add, ← nI_mul]; rfl)) (by first | rfl | assumption | (simp only [← nI_add, ← nI_mul]; rfl)) (fun c => by exfalso; omega) (fun _ => ?_)
      refine w_st rfl rfl rfl trivial ?_
      refine w_st rfl rfl rfl trivial ?_
      refine w_st rfl rfl rfl trivial ?_
      refine w_is (d) rfl hP (by first | rfl | assumption | (simp only [← nI_add, ← nI_mul]; rfl)) (by first | decide | omega) ?_
      refine w_st rfl rfl rfl trivial ?_
      refine w_st rfl rfl rfl (Nat.le_of_ble_eq_true rfl) ?_
      have K2 : ∀ k, k ≤ 3 → ∀ I2 v7, ((∀ e, e < d → I2 p e = sp_row b s e) ∧ (∀ q, ¬ q = p → I2 q = I q) ∧ I2 p d = sp_pk (sp_row b s) b s d k) → mm_W 101 21 [.ref 61, .ref p, .int b, .int s, .int (nI (sp_no (sp_row b s) d)), .int (nI d), .int (nI k), v7] [] g I2 F := by
        refine mm_dn 3 ?_ ?_
        · intro I2 v7 h2
          rw [← sp_row_eq hd] at h2
          have e : sp_no (sp_row b s) (d + 1) = sp_no (sp_row b s) d + sp_if (sp_row b s d = -1) 1 0 := rfl
          have h3 : (∀ e, e < d + 1 → I2 p e = sp_row b s e) ∧ ∀ q, ¬ q = p → I2 q = I q := by
            refine ⟨fun e he => ?_, h2.2.1⟩
            rcases Nat.lt_succ_iff_lt_or_eq.1 he with z | rfl
            · exact h2.1 e z
            · exact h2.2.2
          refine w_st rfl rfl rfl trivial ?_
          refine w_st rfl rfl rfl trivial ?_
          refine w_n_ge (a := 3) (b := 3) rfl (by first | decide | omega) (by first | decide | omega) (by first | rfl | assumption | (simp only [← nI_add, ← nI_mul]; rfl)) (by first | rfl | assumption | (simp only [← nI_add, ← nI_mul]; rfl)) (fun _ => ?_) (fun c => by exfalso; omega)
          refine w_st rfl rfl rfl trivial ?_
          refine w_st rfl rfl rfl trivial ?_
          refine w_st rfl rfl rfl trivial ?_
          refine w_ia (d) rfl hP (by first | rfl | assumption | (simp only [← nI_add, ← nI_mul]; rfl)) (by first | decide | omega) ?_
          rw [h2.2.2]
          refine w_st rfl rfl rfl trivial ?_
          refine w_v_ne rfl (fun c => ?_) (fun c => ?_)
          · rw [sp_if_f c] at e
            refine w_st rfl rfl rfl trivial ?_
            refine w_iadd rfl ?_
            refine w_hd (nI_add _ 0) ?_
            refine w_st rfl rfl rfl (Nat.le_of_ble_eq_true rfl) ?_
            refine w_inc rfl rfl rfl (Nat.le_of_ble_eq_true rfl) (nI_1 _) ?_
            refine w_st rfl rfl rfl trivial ?_
            rw [e] at ih; exact ih I2 (.int (nI 3)) v7 h3
          · rw [sp_if_t c] at e
            refine w_st rfl rfl rfl trivial ?_
            refine w_st rfl rfl rfl trivial ?_
            refine w_iadd rfl ?_
            refine w_hd (nI_1 _) ?_
            refine w_st rfl rfl rfl (Nat.le_of_ble_eq_true rfl) ?_
            refine w_inc rfl rfl rfl (Nat.le_of_ble_eq_true rfl) (nI_1 _) ?_
            refine w_st rfl rfl rfl trivial ?_
            rw [e] at ih; exact ih I2 (.int (nI 3)) v7 h3
        · intro k hk ih2 I2 v7 h2
          have hS2 : sp_S I2 := fun j hj => by rw [h2.2.1 62 (fun z => h62 z.symm)]; exact hS j hj
          have E : ∀ x, x = sp_pk (sp_row b s) b s d (k + 1) → ((∀ e, e < d → va_up I2 p (upd (I2 p) d x) p e = sp_row b s e) ∧ (∀ q, ¬ q = p → va_up I2 p (upd (I2 p) d x) q = I q) ∧ va_up I2 p (upd (I2 p) d x) p d = sp_pk (sp_row b s) b s d (k + 1)) := by
            intro x hx
            refine ⟨fun e he => ?_, fun q hq => ?_, ?_⟩
            · rw [mm_un (Or.inr (by omega))]; exact h2.1 e he
            · rw [va_up_ne _ _ hq]; exact h2.2.1 q hq
            · rw [mm_uu]; exact hx
          have N : ∀ w, sp_pk (sp_row b s) b s d (k + 1) = sp_pk (sp_row b s) b s d k → mm_W 101 92 [.ref 61, .ref p, .int b, .int s, .int (nI (sp_no (sp_row b s) d)), .int (nI d), .int (nI k), .int w] [.int (nI d), .ref p] g I2 F := by
            intro w hw
            refine w_st rfl rfl rfl trivial ?_
            refine w_st rfl rfl rfl trivial ?_
            refine w_ia (d) rfl hP (by first | rfl | assumption | (simp only [← nI_add, ← nI_mul]; rfl)) (by first | decide | omega) ?_
            refine w_is (d) rfl hP (by first | rfl | assumption | (simp only [← nI_add, ← nI_mul]; rfl)) (by first | decide | omega) ?_
            refine w_inc rfl rfl rfl (Nat.le_of_ble_eq_true rfl) (nI_1 _) ?_
            refine w_st rfl rfl rfl trivial ?_
            exact ih2 _ (.int w) (E _ (by rw [h2.2.2, hw]))
          have Y : ∀ w, ¬ w = 0 → (sp_pk (sp_row b s) b s d k = -1 ∨ sp_mi b d (nI k) < sp_mi b d (sp_pk (sp_row b s) b s d k)) → mm_W 101 65 [.ref 61, .ref p, .int b, .int s, .int (nI (sp_no (sp_row b s) d)), .int (nI d), .int (nI k), .int w] [] g I2 F := by
            intro w w0 hw
            refine w_st rfl rfl rfl trivial ?_
            refine w_st rfl rfl rfl trivial ?_
            refine w_st rfl rfl rfl trivial ?_
            refine w_z_eq rfl (fun z => absurd z (w0)) (fun _ => ?_)
            refine w_st rfl rfl rfl trivial ?_
            refine w_st rfl rfl rfl trivial ?_
            refine w_st rfl rfl rfl trivial ?_
            refine w_st rfl rfl rfl trivial ?_
            refine w_st rfl rfl rfl trivial ?_
            refine w_st rfl rfl rfl trivial ?_
            refine w_k61 (r_isApart hS2 hP hd hk h2.1) rfl ⟨rfl, by decide, by decide, by decide, Or.inl ⟨_, rfl⟩⟩ (Nat.le_of_ble_eq_true rfl) (mm_foc rfl) (Nat.le_of_ble_eq_true rfl) ?_  -- calls 99 cX5_isApart
            refine w_b_eq rfl (fun c2 => ?_) (fun c2 => ?_)
            · refine N _ ?_
              show sp_if _ _ _ = _
              rw [sp_if_f (fun z => c2 z.2)]
            · have hp : sp_pk (sp_row b s) b s d (k + 1) = nI k := by
                show sp_if _ _ _ = _
                rw [sp_if_t ⟨hw, c2⟩]
              refine w_st rfl rfl rfl trivial ?_
              refine w_st rfl rfl rfl trivial ?_
              refine w_is (d) rfl hP (by first | rfl | assumption | (simp only [← nI_add, ← nI_mul]; rfl)) (by first | decide | omega) ?_
              refine w_inc rfl rfl rfl (Nat.le_of_ble_eq_true rfl) (nI_1 _) ?_
              refine w_st rfl rfl rfl trivial ?_
              exact ih2 _ (.int w) (E _ hp.symm)
          refine w_st rfl rfl rfl trivial ?_
          refine w_st rfl rfl rfl trivial ?_
          refine w_n_ge (a := k) (b := 3) rfl (by first | decide | omega) (by first | decide | omega) (by first | rfl | assumption | (simp only [← nI_add, ← nI_mul]; rfl)) (by first | rfl | assumption | (simp only [← nI_add, ← nI_mul]; rfl)) (fun c => by exfalso; omega) (fun _ => ?_)
          refine w_st rfl rfl rfl trivial ?_
          refine w_st rfl rfl rfl trivial ?_
          refine w_ia (d) rfl hP (by first | rfl | assumption | (simp only [← nI_add, ← nI_mul]; rfl)) (by first | decide | omega) ?_
          rw [h2.2.2]
          refine w_st rfl rfl rfl trivial ?_
          refine w_v_eq rfl (fun c1 => ?_) (fun c1 => ?_)
          · skip
            refine w_st rfl rfl rfl trivial ?_
            refine w_st rfl rfl rfl trivial ?_
            refine w_st rfl rfl rfl (Nat.le_of_ble_eq_true rfl) ?_
            exact Y 1 (by decide) (Or.inl c1)
          · skip
            refine w_st rfl rfl rfl trivial ?_
            refine w_st rfl rfl rfl trivial ?_
            refine w_st rfl rfl rfl trivial ?_
            refine w_st rfl rfl rfl trivial ?_
            refine w_k41 (r_missing hS2 hd hk) rfl ⟨rfl, by decide, by decide, by decide, Or.inl ⟨_, rfl⟩⟩ (Nat.le_of_ble_eq_true rfl) (mm_foc rfl) (Nat.le_of_ble_eq_true rfl) ?_  -- calls 100 cX5_missing
            refine w_st rfl rfl rfl trivial ?_
            refine w_st rfl rfl rfl trivial ?_
            refine w_st rfl rfl rfl trivial ?_
            refine w_st rfl rfl rfl trivial ?_
            refine w_ia (d) rfl hP (by first | rfl | assumption | (simp only [← nI_add, ← nI_mul]; rfl)) (by first | decide | omega) ?_
            rw [h2.2.2]
            obtain ⟨i, hi, hr⟩ := (sp_pk_k (r := sp_row b s) (b := b) (s := s) (d := d) k).resolve_left c1
            rw [hr]
            refine w_st rfl rfl rfl trivial ?_
            refine w_k41 (r_missing hS2 hd (show i < 3 by omega)) rfl ⟨rfl, by decide, by decide, by decide, Or.inl ⟨_, rfl⟩⟩ (Nat.le_of_ble_eq_true rfl) (mm_foc rfl) (Nat.le_of_ble_eq_true rfl) ?_  -- calls 100 cX5_missing
            rw [← hr]
            refine w_v_ge rfl (fun c3 => ?_) (fun c3 => ?_)
            · skip
              refine w_st rfl rfl rfl trivial ?_
              refine w_st rfl rfl rfl (Nat.le_of_ble_eq_true rfl) ?_
              refine w_st rfl rfl rfl trivial ?_
              refine w_st rfl rfl rfl trivial ?_
              refine w_st rfl rfl rfl trivial ?_
              refine w_z_eq rfl (fun _ => ?_) (fun z => absurd (rfl) z)
              refine N _ ?_
              show sp_if _ _ _ = _
              rw [sp_if_f (fun z => z.1.elim c1 (fun z1 => absurd c3 (Int32.not_le.2 z1)))]
            · skip
              refine w_st rfl rfl rfl trivial ?_
              refine w_st rfl rfl rfl trivial ?_
              refine w_st rfl rfl rfl (Nat.le_of_ble_eq_true rfl) ?_
              exact Y 1 (by decide) (Or.inr (Int32.not_le.1 c3))
      refine K2 0 (by decide) _ v7 ⟨fun e he => ?_, fun q hq => ?_, ?_⟩
      · rw [mm_un (Or.inr (by omega))]; exact h.1 e he
      · rw [va_up_ne _ _ hq]; exact h.2 q hq
      · rw [mm_uu]; rfl
  exact K 0 (by decide) I .null .null ⟨fun e he => absurd he (Nat.not_lt_zero _), fun _ _ => rfl⟩
theorem r_unlike {r r' : Nat → Int32} (h : ∀ d, d < 10 → I 67 d = r d) (h' : ∀ d, d < 10 → I 68 d = r' d) : mm_M 103 3 [.ref 61] g I (some (.int (nI (sp_cg r r' 10)))) I := by
  refine w_M ?_
  show mm_W 103 0 [.ref 61, .null, .null] [] _ _ _
  generalize hF : mm_EX _ _ _ = F
  refine w_st rfl rfl rfl trivial ?_
  refine w_st rfl rfl rfl (Nat.le_of_ble_eq_true rfl) ?_
  refine w_st rfl rfl rfl trivial ?_
  refine w_st rfl rfl rfl (Nat.le_of_ble_eq_true rfl) ?_
  refine mm_dn (P := fun j => mm_W 103 4 [.ref 61, .int (nI (sp_cg r r' j)), .int (nI j)] [] g I F) (10) ?_ ?_ 0 (by first | decide | omega)
  · try dsimp only
    refine w_st rfl rfl rfl trivial ?_
    refine w_st rfl rfl rfl trivial ?_
    refine w_n_ge (a := 10) (b := 10) rfl (by first | decide | omega) (by first | decide | omega) (by first | rfl | assumption | (simp only [← nI_add, ← nI_mul]; rfl)) (by first | rfl | assumption | (simp only [← nI_add, ← nI_mul]; rfl)) (fun _ => ?_) (fun c => by exfalso; omega)
    refine w_st rfl rfl rfl trivial ?_
    refine w_reti rfl ?_
    exact hF ▸ mm_EX_i (rfl)
  · intro j hj ih
    try dsimp only at ih ⊢
    have e : sp_cg r r' (j + 1) = sp_cg r r' j + sp_if (r j = r' j) 0 1 := rfl
    refine w_st rfl rfl rfl trivial ?_
    refine w_st rfl rfl rfl trivial ?_
    refine w_n_ge (a := j) (b := 10) rfl (by first | decide | omega) (by first | decide | omega) (by first | rfl | assumption | (simp only [← nI_add, ← nI_mul]; rfl)) (by first | rfl | assumption | (simp only [← nI_add, ← nI_mul]; rfl)) (fun c => by exfalso; omega) (fun _ => ?_)
    refine w_st rfl rfl rfl trivial ?_
    refine w_st rfl rfl rfl trivial ?_
    refine w_gr (j := 67) rfl (mm_foc rfl) rfl (by decide) ?_
    refine w_st rfl rfl rfl trivial ?_
    refine w_ia (j) rfl (mm_fac (n := 10) rfl) (by first | rfl | assumption | (simp only [← nI_add, ← nI_mul]; rfl)) (by first | decide | omega) ?_
    refine w_st rfl rfl rfl trivial ?_
    refine w_gr (j := 68) rfl (mm_foc rfl) rfl (by decide) ?_
    refine w_st rfl rfl rfl trivial ?_
    refine w_ia (j) rfl (mm_fac (n := 10) rfl) (by first | rfl | assumption | (simp only [← nI_add, ← nI_mul]; rfl)) (by first | decide | omega) ?_
    rw [h j hj, h' j hj]
    refine w_v_ne rfl (fun c => ?_) (fun c => ?_)
    · rw [sp_if_f c] at e
      refine w_st rfl rfl rfl trivial ?_
      refine w_iadd rfl ?_
      refine w_hd (nI_1 _) ?_
      refine w_st rfl rfl rfl (Nat.le_of_ble_eq_true rfl) ?_
      refine w_inc rfl rfl rfl (Nat.le_of_ble_eq_true rfl) (nI_1 _) ?_
      refine w_st rfl rfl rfl trivial ?_
      rw [e] at ih; exact ih
    · rw [sp_if_t c] at e
      refine w_st rfl rfl rfl trivial ?_
      refine w_st rfl rfl rfl trivial ?_
      refine w_iadd rfl ?_
      refine w_hd (nI_add _ 0) ?_
      refine w_st rfl rfl rfl (Nat.le_of_ble_eq_true rfl) ?_
      refine w_inc rfl rfl rfl (Nat.le_of_ble_eq_true rfl) (nI_1 _) ?_
      refine w_st rfl rfl rfl trivial ?_
      rw [e] at ih; exact ih
theorem r_closest (hS : sp_S I) (hP : mm_fa p 10 10) (h : ∀ d, d < 10 → I p d = sp_row b s d) : mm_M 104 7 [.ref 61, .ref p, .int b] g I (some (.int (sp_co (sp_row b s) b 10))) I := by
  refine w_M ?_
  show mm_W 104 0 [.ref 61, .ref p, .int b, .null, .null, .null, .null] [] _ _ _
  generalize hF : mm_EX _ _ _ = F
  refine w_st rfl rfl rfl trivial ?_
  refine w_st rfl rfl rfl (Nat.le_of_ble_eq_true rfl) ?_
  refine w_st rfl rfl rfl trivial ?_
  refine w_st rfl rfl rfl (Nat.le_of_ble_eq_true rfl) ?_
  have K : ∀ d, d ≤ 10 → 1 ≤ d → ∀ v5 v6, mm_W 104 5 [.ref 61, .ref p, .int b, .int (sp_co (sp_row b s) b d), .int (nI d), v5, v6] [] g I F := by
    refine mm_dn 10 ?_ ?_
    · intro _ v5 v6
      refine w_st rfl rfl rfl trivial ?_
      refine w_st rfl rfl rfl trivial ?_
      refine w_n_ge (a := 10) (b := 10) rfl (by first | decide | omega) (by first | decide | omega) (by first | rfl | assumption | (simp only [← nI_add, ← nI_mul]; rfl)) (by first | rfl | assumption | (simp only [← nI_add, ← nI_mul]; rfl)) (fun _ => ?_) (fun c => by exfalso; omega)
      refine w_st rfl rfl rfl trivial ?_
      refine w_reti rfl ?_
      exact hF ▸ mm_EX_i (rfl)
    · intro d hd ih d1 v5 v6
      refine w_st rfl rfl rfl trivial ?_
      refine w_st rfl rfl rfl trivial ?_
      refine w_n_ge (a := d) (b := 10) rfl (by first | decide | omega) (by first | decide | omega) (by first | rfl | assumption | (simp only [← nI_add, ← nI_mul]; rfl)) (by first | rfl | assumption | (simp only [← nI_add, ← nI_mul]; rfl)) (fun c => by exfalso; omega) (fun _ => ?_)
      refine w_st rfl rfl rfl trivial ?_
      refine w_st rfl rfl rfl (Nat.le_of_ble_eq_true rfl) ?_
      have K2 : ∀ e, e ≤ d → ∀ v6, mm_W 104 15 [.ref 61, .ref p, .int b, .int (sp_ci (sp_row b s) b d (sp_co (sp_row b s) b d) e), .int (nI d), .int (nI e), v6] [] g I F := by
        refine mm_dn d ?_ ?_
        · intro v6
          refine w_st rfl rfl rfl trivial ?_
          refine w_st rfl rfl rfl trivial ?_
          refine w_n_ge (a := d) (b := d) rfl (by first | decide | omega) (by first | decide | omega) (by first | rfl | assumption | (simp only [← nI_add, ← nI_mul]; rfl)) (by first | rfl | assumption | (simp only [← nI_add, ← nI_mul]; rfl)) (fun _ => ?_) (fun c => by exfalso; omega)
          refine w_inc rfl rfl rfl (Nat.le_of_ble_eq_true rfl) (nI_1 _) ?_
          refine w_st rfl rfl rfl trivial ?_
          exact ih (by omega) (.int (nI d)) v6
        · intro e he ih2 v6
          have e1 : sp_ci (sp_row b s) b d (sp_co (sp_row b s) b d) (e + 1) = sp_cs (sp_row b s) b d e (sp_ci (sp_row b s) b d (sp_co (sp_row b s) b d) e) := rfl
          unfold sp_cs at e1
          refine w_st rfl rfl rfl trivial ?_
          refine w_st rfl rfl rfl trivial ?_
          refine w_n_ge (a := e) (b := d) rfl (by first | decide | omega) (by first | decide | omega) (by first | rfl | assumption | (simp only [← nI_add, ← nI_mul]; rfl)) (by first | rfl | assumption | (simp only [← nI_add, ← nI_mul]; rfl)) (fun c => by exfalso; omega) (fun _ => ?_)
          refine w_st rfl rfl rfl trivial ?_
          refine w_st rfl rfl rfl trivial ?_
          refine w_ia (d) rfl hP (by first | rfl | assumption | (simp only [← nI_add, ← nI_mul]; rfl)) (by first | decide | omega) ?_
          rw [h d hd]
          refine w_st rfl rfl rfl trivial ?_
          refine w_v_eq rfl (fun c1 => ?_) (fun c1 => ?_)
          · have e2 : sp_co (sp_row b s) b (d + 1) = sp_ci (sp_row b s) b d (sp_co (sp_row b s) b d) e := by
              show sp_ci _ _ _ _ d = _
              rw [sp_ci_none c1, sp_ci_none c1]
            rw [e2] at ih
            refine w_inc rfl rfl rfl (Nat.le_of_ble_eq_true rfl) (nI_1 _) ?_
            refine w_st rfl rfl rfl trivial ?_
            exact ih (by omega) (.int (nI e)) v6
          · skip
            refine w_st rfl rfl rfl trivial ?_
            refine w_st rfl rfl rfl trivial ?_
            refine w_ia (e) rfl hP (by first | rfl | assumption | (simp only [← nI_add, ← nI_mul]; rfl)) (by first | decide | omega) ?_
            rw [h e (by omega)]
            refine w_st rfl rfl rfl trivial ?_
            refine w_v_ne rfl (fun c2 => ?_) (fun c2 => ?_)
            · rw [sp_if_f (fun z => z.elim c1 c2)] at e1
              refine w_st rfl rfl rfl trivial ?_
              refine w_st rfl rfl rfl trivial ?_
              refine w_st rfl rfl rfl trivial ?_
              refine w_st rfl rfl rfl trivial ?_
              refine w_ia (d) rfl hP (by first | rfl | assumption | (simp only [← nI_add, ← nI_mul]; rfl)) (by first | decide | omega) ?_
              rw [h d hd]
              obtain ⟨i, hi, hr⟩ := (sp_row_k (b := b) (s := s) hd).resolve_left c1
              rw [hr]
              refine w_st rfl rfl rfl trivial ?_
              refine w_k41 (r_shown hS hd hi) rfl ⟨rfl, by decide, by decide, by decide, Or.inl ⟨_, rfl⟩⟩ (Nat.le_of_ble_eq_true rfl) (mm_foc rfl) (Nat.le_of_ble_eq_true rfl) ?_  -- calls 98 cX5_shown
              refine w_st rfl rfl rfl trivial ?_
              refine w_st rfl rfl rfl trivial ?_
              refine w_st rfl rfl rfl trivial ?_
              refine w_st rfl rfl rfl trivial ?_
              refine w_ia (e) rfl hP (by first | rfl | assumption | (simp only [← nI_add, ← nI_mul]; rfl)) (by first | decide | omega) ?_
              rw [h e (by omega)]
              obtain ⟨i2, hi2, hr2⟩ := (sp_row_k (b := b) (s := s) (d := e) (by omega)).resolve_left c2
              rw [hr2]
              refine w_st rfl rfl rfl trivial ?_
              refine w_k41 (r_shown hS (show e < 10 by omega) hi2) rfl ⟨rfl, by decide, by decide, by decide, Or.inl ⟨_, rfl⟩⟩ (Nat.le_of_ble_eq_true rfl) (mm_foc rfl) (Nat.le_of_ble_eq_true rfl) ?_  -- calls 98 cX5_shown
              refine w_ixor rfl ?_
              refine w_k11 (r_ones (sp_b15_xor (sp_b15_sh hd hi) (sp_b15_sh (by omega) hi2))) rfl ⟨rfl, by decide, by decide, by decide, Or.inr (Or.inl ⟨_, rfl⟩)⟩ (Nat.le_of_ble_eq_true rfl) trivial (Nat.le_of_ble_eq_true rfl) ?_  -- calls 95 cX5_ones
              rw [← hr, ← hr2]
              refine w_st rfl rfl rfl (Nat.le_of_ble_eq_true rfl) ?_
              refine w_st rfl rfl rfl trivial ?_
              refine w_st rfl rfl rfl trivial ?_
              refine w_ia (e) rfl hP (by first | rfl | assumption | (simp only [← nI_add, ← nI_mul]; rfl)) (by first | decide | omega) ?_
              rw [h e (by omega)]
              refine w_st rfl rfl rfl trivial ?_
              refine w_v_eq rfl (fun z => absurd z (c2)) (fun _ => ?_)
              refine w_st rfl rfl rfl trivial ?_
              refine w_st rfl rfl rfl trivial ?_
              refine w_v_eq rfl (fun c3 => ?_) (fun c3 => ?_)
              · rw [sp_if_t (Or.inl c3)] at e1
                refine w_st rfl rfl rfl trivial ?_
                refine w_st rfl rfl rfl trivial ?_
                refine w_st rfl rfl rfl (Nat.le_of_ble_eq_true rfl) ?_
                refine w_inc rfl rfl rfl (Nat.le_of_ble_eq_true rfl) (nI_1 _) ?_
                refine w_st rfl rfl rfl trivial ?_
                rw [e1] at ih2; exact ih2 (.int (sp_df (sp_row b s) b d e))
              · skip
                refine w_st rfl rfl rfl trivial ?_
                refine w_st rfl rfl rfl trivial ?_
                refine w_v_ge rfl (fun c4 => ?_) (fun c4 => ?_)
                · rw [sp_if_f (fun z => z.elim c3 (fun z => absurd c4 (Int32.not_le.2 z)))] at e1
                  refine w_st rfl rfl rfl trivial ?_
                  refine w_st rfl rfl rfl (Nat.le_of_ble_eq_true rfl) ?_
                  refine w_inc rfl rfl rfl (Nat.le_of_ble_eq_true rfl) (nI_1 _) ?_
                  refine w_st rfl rfl rfl trivial ?_
                  rw [e1] at ih2; exact ih2 (.int (sp_df (sp_row b s) b d e))
                · rw [sp_if_t (Or.inr (show sp_df (sp_row b s) b d e < _ from Int32.not_le.1 c4))] at e1
                  refine w_st rfl rfl rfl trivial ?_
                  refine w_st rfl rfl rfl trivial ?_
                  refine w_st rfl rfl rfl (Nat.le_of_ble_eq_true rfl) ?_
                  refine w_inc rfl rfl rfl (Nat.le_of_ble_eq_true rfl) (nI_1 _) ?_
                  refine w_st rfl rfl rfl trivial ?_
                  rw [e1] at ih2; exact ih2 (.int (sp_df (sp_row b s) b d e))
            · rw [sp_if_t (Or.inr c2)] at e1
              refine w_st rfl rfl rfl trivial ?_
              refine w_st rfl rfl rfl trivial ?_
              refine w_st rfl rfl rfl (Nat.le_of_ble_eq_true rfl) ?_
              refine w_st rfl rfl rfl trivial ?_
              refine w_st rfl rfl rfl trivial ?_
              refine w_ia (e) rfl hP (by first | rfl | assumption | (simp only [← nI_add, ← nI_mul]; rfl)) (by first | decide | omega) ?_
              rw [h e (by omega)]
              refine w_st rfl rfl rfl trivial ?_
              refine w_v_eq rfl (fun _ => ?_) (fun z => absurd (c2) z)
              refine w_st rfl rfl rfl trivial ?_
              refine w_st rfl rfl rfl (Nat.le_of_ble_eq_true rfl) ?_
              refine w_inc rfl rfl rfl (Nat.le_of_ble_eq_true rfl) (nI_1 _) ?_
              refine w_st rfl rfl rfl trivial ?_
              rw [e1] at ih2; exact ih2 (.int 99)
      exact K2 0 (Nat.zero_le _) v6
  exact K 1 (by decide) (by decide) .null .null
end SM
