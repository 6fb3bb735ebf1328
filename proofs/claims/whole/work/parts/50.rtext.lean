/-! the reference: a text, its first error -/
theorem va_id {I : mm_Is} {p d : Nat} {x : Int32} (h : I p d = x) : va_up I p (upd (I p) d x) = I := by
  funext q j
  by_cases c : q = p ∧ j = d
  · rw [c.1, c.2, mm_uu, h]
  · rw [mm_un (by omega)]
section SM
variable {g : mm_Gg} {I I1 : mm_Is} {x y z : Int32} {l d k t u f w n b o m N c s i a : Nat} {σ τ : sp_St} {ps : Nat → sp_St} {tx : Nat → Int32}
/-- how the reading of the text ends -/
def sp_te2 (I : mm_Is) (m : Nat) (tx : Nat → Int32) (q : Bool) (I' : mm_Is) : Prop := ∃ a, sp_pa I I' m tx a ∧ ((q = true ∧ a = m ∧ sp_rn tx m = 3) ∨ (q = false ∧ ¬ sp_rn tx m = 3 ∧ ∃ P : Prop, I' 61 8 = mm_bi P ∧ (P → sp_fe tx m = a) ∧ (¬ P → sp_fe tx m = m)))
theorem sp_te2_f {q : Bool} (hq : q = false) {I' : mm_Is} (p : sp_pa I I' m tx a) (h8 : I' 61 8 = mm_bi (a < m)) (h3 : a = m → ¬ sp_rn tx a = 3) (h4 : ¬ sp_rn tx a = 4) (h5 : a < m → sp_rn tx (a + 1) = 4) : sp_te2 I m tx q I' := by
  have ha := p.1.2.1
  refine ⟨a, p, Or.inr ⟨hq, ?_, a < m, h8, fun c => ?_, fun c => ?_⟩⟩
  · by_cases c : a = m
    · rw [← c]; exact h3 c
    · obtain ⟨k, hk⟩ : ∃ k, m = a + 1 + k := ⟨m - (a + 1), by omega⟩
      rw [hk, sp_rn4 (h5 (by omega)) k]; decide
  · obtain ⟨k, hk⟩ : ∃ k, m = a + 1 + k := ⟨m - (a + 1), by omega⟩
    rw [hk]; exact sp_fe_at h4 (h5 c) k
  · have e : a = m := by omega
    rw [← e]; exact sp_fe_ok h4
theorem r_isText (h : sp_bu I m tx) : ∃ q I', mm_M 124 2 [.ref 61] g I (some (.int (sp_q q))) I' ∧ sp_te2 I m tx q I' := by
  have hm := h.2.1
  refine w_MQ ?_
  show mm_W 124 0 [.ref 61, .null] [] _ _ _
  generalize hF : (fun (q' : Nat × Option Value) (g' : mm_Gg) (I' : mm_Is) => ∃ q, q' = (0, some (.int (sp_q q))) ∧ g' = g ∧ sp_te2 I m tx q I') = F
  show mm_W 124 0 [.ref 61, .null] [] _ _ _
  have K : ∀ n a I1, m - a < n → sp_pa I I1 m tx a → sp_rn tx a = 0 → mm_W 124 17 [.ref 61, .int 1] [] g I1 F := by
    intro n
    induction n with
    | zero => intro a I1 hn; omega
    | succ n ih =>
      intro a I1 hn p h0
      have ha := p.1.2.1
      obtain ⟨q, I2, hM, a', ha', p', hc⟩ := r_isPart (g := g) h p h0
      have pb := sp_pa_b h p'
      have ha2 := p'.1.2.1
      refine w_st rfl rfl rfl trivial ?_
      refine w_z_eq rfl (fun z => by first | exact absurd z ((by decide : ¬ (1 : Int32) = 0)) | exact absurd ((by decide : ¬ (1 : Int32) = 0)) z) (fun _ => ?_)
      rcases hc with ⟨rfl, lt, r3, nl⟩ | ⟨rfl, e8, r3, r4, r5⟩
      · skip
        refine w_st rfl rfl rfl trivial ?_
        refine w_k11 (hM) rfl ⟨rfl, by decide, by decide, by decide, Or.inl ⟨_, rfl⟩⟩ (Nat.le_of_ble_eq_true rfl) (mm_foc rfl) (Nat.le_of_ble_eq_true rfl) ?_  -- calls 123 cX5_isPart
        refine w_z_ne rfl (fun _ => ?_) (fun z => by first | exact absurd ((by decide : ¬ sp_q true = 0)) z | exact absurd z ((by decide : ¬ sp_q true = 0)))
        refine w_st rfl rfl rfl trivial ?_
        refine w_st rfl rfl rfl trivial ?_
        refine w_st rfl rfl rfl trivial ?_
        refine w_k31 (r_isAt pb p'.1.1 ha2) rfl ⟨rfl, by decide, by decide, by decide, Or.inl ⟨_, rfl⟩⟩ (Nat.le_of_ble_eq_true rfl) (mm_foc rfl) (Nat.le_of_ble_eq_true rfl) ?_  -- calls 121 cX5_isAt
        refine w_st rfl rfl rfl (Nat.le_of_ble_eq_true rfl) ?_
        refine w_st rfl rfl rfl trivial ?_
        refine w_st rfl rfl rfl trivial ?_
        refine w_gi rfl (mm_foc rfl) ?_
        rw [p'.1.1]
        refine w_st rfl rfl rfl trivial ?_
        refine w_b_eq rfl (fun c => ?_) (fun c => ?_)
        · rw [mm_bi_f c]
          refine w_st rfl rfl rfl trivial ?_
          refine w_iadd rfl ?_
          refine w_hd (nI_add a' 0) ?_
          refine w_pi rfl (mm_foc rfl) ?_
          rw [show a' + 0 = a' from rfl, va_id p'.1.1]
          refine w_st rfl rfl rfl trivial ?_
          refine w_st rfl rfl rfl trivial ?_
          refine w_z_eq rfl (fun _ => ?_) (fun z => by first | exact absurd (rfl) z | exact absurd z (rfl))
          refine w_st rfl rfl rfl trivial ?_
          refine w_st rfl rfl rfl trivial ?_
          refine w_gi rfl (mm_foc rfl) ?_
          refine w_st rfl rfl rfl trivial ?_
          refine w_gi rfl (mm_foc rfl) ?_
          rw [p'.1.1, pb.1]
          have r5 : a' < m → sp_rn tx (a' + 1) = 4 := by
            intro am
            show sp_nx (sp_rn tx a') (tx a') = 4
            unfold sp_nx
            rw [r3, sp_if_f (fun z => by have := z.1; omega), sp_if_f (fun z => by have := z.1; omega), sp_if_f (fun z => nl ⟨am, z.2⟩), sp_if_f (fun z => c ⟨am, by rw [z.2]; exact ⟨by decide, by decide⟩⟩)]
          refine w_n_ge (a := a') (b := m) rfl (by first | decide | omega) (by first | decide | omega) (by first | rfl | assumption | (simp only [← nI_add, ← nI_mul]; rfl)) (by first | rfl | assumption | (simp only [← nI_add, ← nI_mul]; rfl)) (fun c2 => ?_) (fun c2 => ?_)
          · have em : a' = m := by omega
            refine w_st rfl rfl rfl trivial ?_
            refine w_pb rfl (mm_foc rfl) (by first | exact Or.inl rfl | exact Or.inr rfl | exact mm_bi_01 _) ?_
            refine w_st rfl rfl rfl trivial ?_
            refine w_gi rfl (mm_foc rfl) ?_
            refine w_st rfl rfl rfl trivial ?_
            refine w_gi rfl (mm_foc rfl) ?_
            rw [mm_un (Or.inr (by decide)), pb.1, mm_un (Or.inr (by decide)), p'.1.1]
            refine w_n_ne (a := a') (b := m) rfl (by first | decide | omega) (by first | decide | omega) (by first | rfl | assumption | (simp only [← nI_add, ← nI_mul]; rfl)) (by first | rfl | assumption | (simp only [← nI_add, ← nI_mul]; rfl)) (fun c => by exfalso; omega) (fun _ => ?_)
            refine w_st rfl rfl rfl trivial ?_
            refine w_st rfl rfl rfl trivial ?_
            refine w_retz rfl (by first | exact Or.inl rfl | exact Or.inr rfl | exact mm_bi_01 _ | assumption) ?_
            subst hF
            exact ⟨true, rfl, rfl, a', sp_pa_8 p', Or.inl ⟨rfl, em, by rw [← em]; exact r3⟩⟩
          · skip
            refine w_st rfl rfl rfl trivial ?_
            refine w_st rfl rfl rfl trivial ?_
            refine w_pb rfl (mm_foc rfl) (by first | exact Or.inl rfl | exact Or.inr rfl | exact mm_bi_01 _) ?_
            refine w_st rfl rfl rfl trivial ?_
            refine w_gi rfl (mm_foc rfl) ?_
            refine w_st rfl rfl rfl trivial ?_
            refine w_gi rfl (mm_foc rfl) ?_
            rw [mm_un (Or.inr (by decide)), pb.1, mm_un (Or.inr (by decide)), p'.1.1]
            refine w_n_ne (a := a') (b := m) rfl (by first | decide | omega) (by first | decide | omega) (by first | rfl | assumption | (simp only [← nI_add, ← nI_mul]; rfl)) (by first | rfl | assumption | (simp only [← nI_add, ← nI_mul]; rfl)) (fun _ => ?_) (fun c => by exfalso; omega)
            refine w_st rfl rfl rfl trivial ?_
            refine w_retz rfl (by first | exact Or.inl rfl | exact Or.inr rfl | exact mm_bi_01 _ | assumption) ?_
            subst hF
            exact ⟨false, rfl, rfl, sp_te2_f rfl (sp_pa_8 p') (mm_uu.trans (mm_bi_t c2).symm) (fun z => by omega) (by rw [r3]; decide) r5⟩
        · rw [mm_bi_t c]
          have e59 : tx a' = nI 59 := by
            obtain ⟨c', b1, b2, b3⟩ := (sp_in_n (a := 59) (b := 59) (x := tx a') (by decide) (by decide) rfl rfl).1 c.2
            rw [b3, show c' = 59 from by omega]
          have p2 := sp_pa_s p' c.1 (sp_59 e59).2.2
          have r0 : sp_rn tx (a' + 1) = 0 := by
            show sp_nx (sp_rn tx a') (tx a') = 0
            unfold sp_nx
            rw [r3, sp_if_f (fun z => by have := z.1; omega), sp_if_f (fun z => by have := z.1; omega), sp_if_f (fun z => (sp_59 e59).2.2 z.2), sp_if_t ⟨rfl, e59⟩]
          refine w_st rfl rfl rfl trivial ?_
          refine w_st rfl rfl rfl trivial ?_
          refine w_iadd rfl ?_
          refine w_hd (nI_1 a') ?_
          refine w_pi rfl (mm_foc rfl) ?_
          refine w_st rfl rfl rfl trivial ?_
          exact ih (a' + 1) _ (by omega) p2 r0
      · skip
        refine w_st rfl rfl rfl trivial ?_
        refine w_k11 (hM) rfl ⟨rfl, by decide, by decide, by decide, Or.inl ⟨_, rfl⟩⟩ (Nat.le_of_ble_eq_true rfl) (mm_foc rfl) (Nat.le_of_ble_eq_true rfl) ?_  -- calls 123 cX5_isPart
        refine w_z_ne rfl (fun z => by first | exact absurd z ((by decide : sp_q false = 0)) | exact absurd ((by decide : sp_q false = 0)) z) (fun _ => ?_)
        refine w_st rfl rfl rfl trivial ?_
        refine w_retz rfl (by first | exact Or.inl rfl | exact Or.inr rfl | exact mm_bi_01 _ | assumption) ?_
        subst hF
        exact ⟨false, rfl, rfl, sp_te2_f rfl p' e8 (fun _ => r3) r4 r5⟩
  refine w_st rfl rfl rfl trivial ?_
  refine w_st rfl rfl rfl trivial ?_
  refine w_pi rfl (mm_foc rfl) ?_
  refine w_st rfl rfl rfl trivial ?_
  refine w_st rfl rfl rfl trivial ?_
  refine w_pi rfl (mm_foc rfl) ?_
  refine w_st rfl rfl rfl trivial ?_
  refine w_st rfl rfl rfl trivial ?_
  refine w_pb rfl (mm_foc rfl) (by first | exact Or.inl rfl | exact Or.inr rfl | exact mm_bi_01 _) ?_
  refine w_st rfl rfl rfl trivial ?_
  refine w_st rfl rfl rfl (Nat.le_of_ble_eq_true rfl) ?_
  refine K (m + 1) 0 _ (by omega) ⟨⟨?_, Nat.zero_le _, 0, Nat.le_refl _, ?_, fun k hk => absurd hk (Nat.not_lt_zero _), fun σ => rfl⟩, fun p b c => ?_, fun j b c d => ?_⟩ rfl
  · rw [mm_un (Or.inr (by decide)), mm_un (Or.inr (by decide)), mm_uu]; rfl
  · rw [mm_un (Or.inr (by decide)), mm_uu]; rfl
  · rw [va_up_ne _ _ b, va_up_ne _ _ b, va_up_ne _ _ b]
  · rw [mm_un (Or.inr c), mm_un (Or.inr d), mm_un (Or.inr b)]
theorem sp_bu_M (h : sp_M I σ n ps m tx) (hm : m ≤ 60) : sp_bu (sp_st6 I 0) m tx := by
  refine ⟨(mm_un (Or.inr (by decide))).trans h.2.2.1, hm, fun i hi => ?_⟩
  rw [sp_st6_o (by decide)]; exact h.2.2.2 i hi
theorem sp_M_pa {I' : mm_Is} (h : sp_M I σ n ps m tx) (p : sp_pa (sp_st6 I 0) I' m tx a) : sp_M I' σ n ps m tx ∧ I' 61 6 = nI 0 ∧ sp_rf I I' := by
  obtain ⟨_, h1, h2⟩ := p
  have e : ∀ q, ¬ q = 61 → ¬ q = 66 → I' q = I q := fun q b c => by rw [h1 q b c]; exact sp_st6_o b
  have e1 : ∀ j, ¬ j = 7 → ¬ j = 8 → ¬ j = 10 → ¬ j = 6 → I' 61 j = I 61 j := fun j b c d f => by rw [h2 j b c d]; exact mm_un (Or.inr f)
  refine ⟨?_, ?_, fun q hq => e q (by omega) (by omega)⟩
  · unfold sp_M sp_N sp_S sp_P at h ⊢
    rw [e1 3 (by decide) (by decide) (by decide) (by decide), e1 5 (by decide) (by decide) (by decide) (by decide), e 62 (by decide) (by decide), e 63 (by decide) (by decide), e 64 (by decide) (by decide), e 65 (by decide) (by decide)]
    exact h
  · rw [h2 6 (by decide) (by decide) (by decide)]; exact mm_uu
theorem r_firstError (h : sp_M I σ n ps m tx) (hm : m ≤ 60) : ∃ I', mm_M 125 2 [.ref 61] g I (some (.int (nI (sp_fe tx m)))) I' ∧ (sp_M I' σ n ps m tx ∧ I' 61 6 = nI 0 ∧ sp_rf I I') := by
  obtain ⟨q, I1, hM, a, p, hc⟩ := r_isText (g := g) (sp_bu_M h hm)
  have hfin := sp_M_pa h p
  refine w_MX ?_
  show mm_W 125 0 [.ref 61, .null] [] _ _ _
  generalize hF : mm_EQ _ _ _ = F
  refine w_st rfl rfl rfl trivial ?_
  refine w_st rfl rfl rfl trivial ?_
  refine w_pi rfl (mm_foc rfl) ?_
  show mm_W 125 5 _ _ g (sp_st6 I 0) F
  refine w_st rfl rfl rfl trivial ?_
  refine w_k11 (hM) rfl ⟨rfl, by decide, by decide, by decide, Or.inl ⟨_, rfl⟩⟩ (Nat.le_of_ble_eq_true rfl) (mm_foc rfl) (Nat.le_of_ble_eq_true rfl) ?_  -- calls 124 cX5_isText
  rcases hc with ⟨rfl, e1, e2⟩ | ⟨rfl, e2, P, e8, hP, hnP⟩
  · skip
    refine w_st rfl rfl rfl (Nat.le_of_ble_eq_true rfl) ?_
    refine w_st rfl rfl rfl trivial ?_
    refine w_z_ne rfl (fun _ => ?_) (fun z => by first | exact absurd ((by decide : ¬ sp_q true = 0)) z | exact absurd z ((by decide : ¬ sp_q true = 0)))
    refine w_st rfl rfl rfl trivial ?_
    refine w_gi rfl (mm_foc rfl) ?_
    rw [hfin.1.2.2.1]
    refine w_reti rfl ?_
    exact hF ▸ ⟨by rw [sp_fe_ok (show ¬ sp_rn tx m = 4 by rw [e2]; decide)], rfl, hfin⟩
  · skip
    refine w_st rfl rfl rfl (Nat.le_of_ble_eq_true rfl) ?_
    refine w_st rfl rfl rfl trivial ?_
    refine w_z_ne rfl (fun z => by first | exact absurd z ((by decide : sp_q false = 0)) | exact absurd ((by decide : sp_q false = 0)) z) (fun _ => ?_)
    refine w_st rfl rfl rfl trivial ?_
    refine w_gb rfl (mm_foc rfl) ?_
    rw [e8]
    refine w_b_eq rfl (fun c => ?_) (fun c => ?_)
    · skip
      refine w_st rfl rfl rfl trivial ?_
      refine w_gi rfl (mm_foc rfl) ?_
      rw [hfin.1.2.2.1]
      refine w_reti rfl ?_
      exact hF ▸ ⟨by rw [hnP c], rfl, hfin⟩
    · skip
      refine w_st rfl rfl rfl trivial ?_
      refine w_gi rfl (mm_foc rfl) ?_
      refine w_st rfl rfl rfl trivial ?_
      rw [p.1.1]
      refine w_reti rfl ?_
      exact hF ▸ ⟨by rw [hP c], rfl, hfin⟩
end SM
