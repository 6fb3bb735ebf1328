/-! the reference's way to read the buffer -/
theorem w_MQ {mj L : Nat} {av : List Value} {g : mm_Gg} {I : mm_Is} {Q : Bool → mm_Is → Prop} (h : mm_W mj 0 (mm_ent L av) [] g I (fun q' g' I' => ∃ q, q' = (0, some (.int (sp_q q))) ∧ g' = g ∧ Q q I')) : ∃ q I', mm_M mj L av g I (some (.int (sp_q q))) I' ∧ Q q I' := by
  obtain ⟨q', g', J, h1, q, h2, h3, h4⟩ := h
  subst h2 h3
  exact ⟨q, J, h1, h4⟩
/-- what the told triples do to a state -/
def sp_ta (T : Nat → Int32) : Nat → sp_St → sp_St
  | 0, σ => σ
  | k + 1, σ => sp_set (sp_ta T k σ) (T (3 * k)).toNatClampNeg (T (3 * k + 2)).toNatClampNeg (decide (T (3 * k + 1) = 1))
def sp_tv (T : Nat → Int32) (t : Nat) : Prop := ∀ k, k < t → ∃ f l q, f < 4 ∧ l < 15 ∧ T (3 * k) = nI f ∧ T (3 * k + 1) = sp_q q ∧ T (3 * k + 2) = nI l
theorem sp_ta_c {T T' : Nat → Int32} : ∀ (t : Nat), (∀ i, i < 3 * t → T i = T' i) → ∀ σ, sp_ta T t σ = sp_ta T' t σ := by
  intro t
  induction t with
  | zero => intro _ σ; rfl
  | succ t ih =>
    intro h σ
    show sp_set (sp_ta T t σ) _ _ _ = sp_set (sp_ta T' t σ) _ _ _
    rw [ih (fun i hi => h i (by omega)) σ, h (3 * t) (by omega), h (3 * t + 1) (by omega), h (3 * t + 2) (by omega)]
/-- where the reader stands: at place a, the triples told so far -/
def sp_pa (I I1 : mm_Is) (m : Nat) (tx : Nat → Int32) (a : Nat) : Prop := (I1 61 7 = nI a ∧ a ≤ m ∧ ∃ t, t ≤ a ∧ I1 61 10 = nI t ∧ sp_tv (I1 66) t ∧ ∀ σ, sp_ta (I1 66) t σ = sp_tc tx σ a) ∧ (∀ p, ¬ p = 61 → ¬ p = 66 → I1 p = I p) ∧ ∀ j, ¬ j = 7 → ¬ j = 8 → ¬ j = 10 → I1 61 j = I 61 j
def sp_bu (I : mm_Is) (m : Nat) (tx : Nat → Int32) : Prop := I 61 5 = nI m ∧ m ≤ 60 ∧ ∀ i, i < m → I 65 i = tx i
theorem sp_isFA {x : Int32} (h : sp_isA x) : ¬ sp_isF x := by
  rintro ⟨c, h1, h2, h3⟩
  rcases h with h | h
  · rw [h] at h3; have := (nI_eq (by omega) (by omega)).1 h3; omega
  · rw [h] at h3; have := (nI_eq (by omega) (by omega)).1 h3; omega
theorem sp_isFL {x : Int32} (h : sp_isL x) : ¬ sp_isF x := by
  rintro ⟨c, h1, h2, h3⟩
  obtain ⟨d, h4, h5, h6⟩ := h
  rw [h6] at h3; have := (nI_eq (by omega) (by omega)).1 h3; omega
theorem sp_isAL {x : Int32} (h : sp_isL x) : ¬ sp_isA x := by
  obtain ⟨d, h4, h5, h6⟩ := h
  rintro (h | h)
  · rw [h6] at h; have := (nI_eq (by omega) (by omega)).1 h; omega
  · rw [h6] at h; have := (nI_eq (by omega) (by omega)).1 h; omega
theorem sp_59 {x : Int32} (h : x = nI 59) : ¬ sp_isF x ∧ ¬ sp_isA x ∧ ¬ sp_isL x := by
  subst h
  refine ⟨?_, ?_, ?_⟩
  · rintro ⟨c, h1, h2, h3⟩; have := (nI_eq (by omega) (by omega)).1 h3; omega
  · rintro (h | h)
    · have := (nI_eq (by omega) (by omega)).1 h; omega
    · have := (nI_eq (by omega) (by omega)).1 h; omega
  · rintro ⟨c, h1, h2, h3⟩; have := (nI_eq (by omega) (by omega)).1 h3; omega
theorem sp_tc_n {tx : Nat → Int32} {σ : sp_St} {a : Nat} (h : ¬ sp_isL (tx a)) : sp_tc tx σ (a + 1) = sp_tc tx σ a := sp_if_f (fun z => h z.2.2) _ _
section SM
variable {g : mm_Gg} {I I1 : mm_Is} {x y z : Int32} {l d k t u f w n b o m N c s i a : Nat} {σ τ : sp_St} {ps : Nat → sp_St} {tx : Nat → Int32}
theorem sp_pa_b (h : sp_bu I m tx) (p : sp_pa I I1 m tx a) : sp_bu I1 m tx := by
  unfold sp_bu at h ⊢
  rw [p.2.2 5 (by decide) (by decide) (by decide), p.2.1 65 (by decide) (by decide)]
  exact h
/-- one place on, where no letter stands -/
theorem sp_pa_s (p : sp_pa I I1 m tx a) (ha : a < m) (hn : ¬ sp_isL (tx a)) : sp_pa I (va_up I1 61 (upd (I1 61) 7 (nI (a + 1)))) m tx (a + 1) := by
  obtain ⟨⟨h1, h2, t, h3, h4, h5, h6⟩, h7, h8⟩ := p
  refine ⟨⟨mm_uu, ha, t, by omega, ?_, ?_, fun σ => ?_⟩, fun q b c => ?_, fun j b c d => ?_⟩
  · rw [mm_un (Or.inr (by decide))]; exact h4
  · rw [va_up_ne _ _ (by decide)]; exact h5
  · rw [va_up_ne _ _ (by decide), sp_tc_n hn]; exact h6 σ
  · rw [va_up_ne _ _ b]; exact h7 q b c
  · rw [mm_un (Or.inr b)]; exact h8 j b c d
theorem sp_pa_8 (p : sp_pa I I1 m tx a) : sp_pa I (va_up I1 61 (upd (I1 61) 8 x)) m tx a := by
  obtain ⟨⟨h1, h2, t, h3, h4, h5, h6⟩, h7, h8⟩ := p
  refine ⟨⟨?_, h2, t, h3, ?_, ?_, fun σ => ?_⟩, fun q b c => ?_, fun j b c d => ?_⟩
  · rw [mm_un (Or.inr (by decide))]; exact h1
  · rw [mm_un (Or.inr (by decide))]; exact h4
  · rw [va_up_ne _ _ (by decide)]; exact h5
  · rw [va_up_ne _ _ (by decide)]; exact h6 σ
  · rw [va_up_ne _ _ b]; exact h7 q b c
  · rw [mm_un (Or.inr c)]; exact h8 j b c d
theorem r_isAt (h : sp_bu I m tx) (ha : I 61 7 = nI a) (ham : a ≤ m) : mm_M 121 3 [.ref 61, .int y, .int z] g I (some (.int (mm_bi (a < m ∧ y ≤ tx a ∧ tx a ≤ z)))) I := by
  have hm := h.2.1
  refine w_M ?_
  show mm_W 121 0 [.ref 61, .int y, .int z] [] _ _ _
  generalize hF : mm_EX _ _ _ = F
  refine w_st rfl rfl rfl trivial ?_
  refine w_gi rfl (mm_foc rfl) ?_
  refine w_st rfl rfl rfl trivial ?_
  refine w_gi rfl (mm_foc rfl) ?_
  rw [ha, h.1]
  refine w_n_ge (a := a) (b := m) rfl (by first | decide | omega) (by first | decide | omega) (by first | rfl | assumption | (simp only [← nI_add, ← nI_mul]; rfl)) (by first | rfl | assumption | (simp only [← nI_add, ← nI_mul]; rfl)) (fun c => ?_) (fun c => ?_)
  · skip
    refine w_st rfl rfl rfl trivial ?_
    refine w_retz rfl (by first | exact Or.inl rfl | exact Or.inr rfl | exact mm_bi_01 _ | assumption) ?_
    exact hF ▸ mm_EX_i ((mm_bi_f (fun q => by omega)).symm)
  · skip
    refine w_st rfl rfl rfl trivial ?_
    refine w_gr (j := 65) rfl (mm_foc rfl) rfl (by decide) ?_
    refine w_st rfl rfl rfl trivial ?_
    refine w_gi rfl (mm_foc rfl) ?_
    rw [ha]
    refine w_ia (a) rfl (mm_fac (n := 60) rfl) (by first | rfl | assumption | (simp only [← nI_add, ← nI_mul]; rfl)) (by first | decide | omega) ?_
    rw [h.2.2 a c]
    refine w_st rfl rfl rfl trivial ?_
    refine w_st rfl rfl rfl trivial ?_
    refine w_k31 (c_in) rfl ⟨rfl, by decide, by decide, by decide, Or.inr (Or.inl ⟨_, rfl⟩)⟩ (Nat.le_of_ble_eq_true rfl) trivial (Nat.le_of_ble_eq_true rfl) ?_  -- calls 90 cX5_in
    refine w_b_eq rfl (fun c2 => ?_) (fun c2 => ?_)
    · skip
      refine w_st rfl rfl rfl trivial ?_
      refine w_retz rfl (by first | exact Or.inl rfl | exact Or.inr rfl | exact mm_bi_01 _ | assumption) ?_
      exact hF ▸ mm_EX_i ((mm_bi_f (fun q => c2 q.2)).symm)
    · skip
      refine w_st rfl rfl rfl trivial ?_
      refine w_st rfl rfl rfl trivial ?_
      refine w_retz rfl (by first | exact Or.inl rfl | exact Or.inr rfl | exact mm_bi_01 _ | assumption) ?_
      exact hF ▸ mm_EX_i ((mm_bi_t ⟨c, c2⟩).symm)
theorem r_stops (h : sp_bu I m tx) (ha : I 61 7 = nI a) (ham : a ≤ m) : mm_M 122 1 [.ref 61] g I (some (.int 0)) (va_up I 61 (upd (I 61) 8 (mm_bi (a < m)))) := by
  have hm := h.2.1
  refine w_M ?_
  show mm_W 122 0 [.ref 61] [] _ _ _
  generalize hF : mm_EX _ _ _ = F
  refine w_st rfl rfl rfl trivial ?_
  refine w_st rfl rfl rfl trivial ?_
  refine w_gi rfl (mm_foc rfl) ?_
  refine w_st rfl rfl rfl trivial ?_
  refine w_gi rfl (mm_foc rfl) ?_
  rw [ha, h.1]
  refine w_n_ge (a := a) (b := m) rfl (by first | decide | omega) (by first | decide | omega) (by first | rfl | assumption | (simp only [← nI_add, ← nI_mul]; rfl)) (by first | rfl | assumption | (simp only [← nI_add, ← nI_mul]; rfl)) (fun c => ?_) (fun c => ?_)
  · rw [mm_bi_f (by omega)] at hF
    refine w_st rfl rfl rfl trivial ?_
    refine w_pb rfl (mm_foc rfl) (by first | exact Or.inl rfl | exact Or.inr rfl | exact mm_bi_01 _) ?_
    refine w_st rfl rfl rfl trivial ?_
    refine w_retz rfl (by first | exact Or.inl rfl | exact Or.inr rfl | exact mm_bi_01 _ | assumption) ?_
    exact hF ▸ mm_EX_i (rfl)
  · rw [mm_bi_t c] at hF
    refine w_st rfl rfl rfl trivial ?_
    refine w_st rfl rfl rfl trivial ?_
    refine w_pb rfl (mm_foc rfl) (by first | exact Or.inl rfl | exact Or.inr rfl | exact mm_bi_01 _) ?_
    refine w_st rfl rfl rfl trivial ?_
    refine w_retz rfl (by first | exact Or.inl rfl | exact Or.inr rfl | exact mm_bi_01 _ | assumption) ?_
    exact hF ▸ mm_EX_i (rfl)
/-- how a part ends -/
def sp_pe (I : mm_Is) (m : Nat) (tx : Nat → Int32) (a : Nat) (q : Bool) (I' : mm_Is) : Prop := ∃ a', a ≤ a' ∧ sp_pa I I' m tx a' ∧ ((q = true ∧ a < a' ∧ sp_rn tx a' = 3 ∧ ¬ (a' < m ∧ sp_isL (tx a'))) ∨ (q = false ∧ I' 61 8 = mm_bi (a' < m) ∧ ¬ sp_rn tx a' = 3 ∧ ¬ sp_rn tx a' = 4 ∧ (a' < m → sp_rn tx (a' + 1) = 4)))
theorem sp_pe_s (p : sp_pa I I1 m tx a) (b : Nat) (hb : b ≤ a) (h3 : ¬ sp_rn tx a = 3) (h4 : ¬ sp_rn tx a = 4) (h5 : a < m → sp_rn tx (a + 1) = 4) : sp_pe I m tx b false (va_up I1 61 (upd (I1 61) 8 (mm_bi (a < m)))) :=
  ⟨a, hb, sp_pa_8 p, Or.inr ⟨rfl, mm_uu, h3, h4, h5⟩⟩
theorem sp_q_d (q : Bool) : decide (sp_q q = 1) = q := by cases q <;> decide
theorem sp_pa_l {I3 : mm_Is} {e ec : Nat} {q : Bool} (h7 : I3 61 7 = nI e) (he : e < m) (ht : t ≤ e) (h10 : I3 61 10 = nI t) (hv : sp_tv (I3 66) t) (hta : ∀ σ, sp_ta (I3 66) t σ = sp_tc tx σ e) (hfr : (∀ p, ¬ p = 61 → ¬ p = 66 → I3 p = I p) ∧ ∀ j, ¬ j = 7 → ¬ j = 8 → ¬ j = 10 → I3 61 j = I 61 j) (hfl : sp_fl tx e = f) (hbr : sp_br tx e = q) (hf : f < 4) (g1 : 97 ≤ ec) (g2 : ec ≤ 111) (hx : tx e = nI ec) {A B C D : mm_Is} (eA : A = va_up I3 66 (upd (I3 66) (3 * t) (nI f))) (eB : B = va_up A 66 (upd (A 66) (3 * t + 1) (sp_q q))) (eC : C = va_up B 66 (upd (B 66) (3 * t + 2) (nI (ec - 97)))) (eD : D = va_up C 61 (upd (C 61) 10 (nI (t + 1)))) : sp_pa I (va_up D 61 (upd (D 61) 7 (nI (e + 1)))) m tx (e + 1) := by
  have hL : sp_isL (tx e) := ⟨ec, g1, g2, hx⟩
  have c0 : ∀ i, i < 3 * t → C 66 i = I3 66 i := fun i hi => by
    rw [eC, mm_un (Or.inr (by omega)), eB, mm_un (Or.inr (by omega)), eA, mm_un (Or.inr (by omega))]
  have c1 : C 66 (3 * t) = nI f := by rw [eC, mm_un (Or.inr (by omega)), eB, mm_un (Or.inr (by omega)), eA, mm_uu]
  have c2 : C 66 (3 * t + 1) = sp_q q := by rw [eC, mm_un (Or.inr (by omega)), eB, mm_uu]
  have c3 : C 66 (3 * t + 2) = nI (ec - 97) := by rw [eC, mm_uu]
  have e66 : va_up D 61 (upd (D 61) 7 (nI (e + 1))) 66 = C 66 := by rw [va_up_ne _ _ (by decide), eD, va_up_ne _ _ (by decide)]
  have e61 : ∀ j, C 61 j = I3 61 j := fun j => by rw [eC, va_up_ne _ _ (by decide), eB, va_up_ne _ _ (by decide), eA, va_up_ne _ _ (by decide)]
  refine ⟨⟨mm_uu, he, t + 1, by omega, ?_, ?_, fun σ => ?_⟩, fun p b c => ?_, fun j b c d => ?_⟩
  · rw [mm_un (Or.inr (by decide)), eD, mm_uu]
  · rw [e66]
    intro k hk
    by_cases ck : k = t
    · subst ck; exact ⟨f, ec - 97, q, hf, by omega, c1, c2, c3⟩
    · obtain ⟨f', l', q', a1, a2, a3, a4, a5⟩ := hv k (by omega)
      exact ⟨f', l', q', a1, a2, by rw [c0 _ (by omega)]; exact a3, by rw [c0 _ (by omega)]; exact a4, by rw [c0 _ (by omega)]; exact a5⟩
  · rw [e66]
    show sp_set (sp_ta (C 66) t σ) (C 66 (3 * t)).toNatClampNeg (C 66 (3 * t + 2)).toNatClampNeg (decide (C 66 (3 * t + 1) = 1)) = sp_if _ (sp_set (sp_tc tx σ e) (sp_fl tx e) ((tx e).toNatClampNeg - 97) (sp_br tx e)) _
    rw [sp_if_t ⟨sp_isFL hL, sp_isAL hL, hL⟩, sp_ta_c t c0 σ, hta σ, c1, c2, c3, sp_q_d, nI_clamp (by omega), nI_clamp (by omega), hfl, hbr, hx, nI_clamp (by omega)]
  · rw [va_up_ne _ _ b, eD, va_up_ne _ _ b, eC, va_up_ne _ _ c, eB, va_up_ne _ _ c, eA, va_up_ne _ _ c]; exact hfr.1 p b c
  · rw [mm_un (Or.inr b), eD, mm_un (Or.inr d), e61 j]; exact hfr.2 j b c d
theorem r_isPart (h : sp_bu I m tx) (p : sp_pa I I1 m tx a) (h0 : sp_rn tx a = 0) : ∃ q I', mm_M 123 3 [.ref 61] g I1 (some (.int (sp_q q))) I' ∧ sp_pe I m tx a q I' := by
  have hm := h.2.1
  refine w_MQ ?_
  show mm_W 123 0 [.ref 61, .null, .null] [] _ _ _
  generalize hF : (fun (q' : Nat × Option Value) (g' : mm_Gg) (I' : mm_Is) => ∃ q, q' = (0, some (.int (sp_q q))) ∧ g' = g ∧ sp_pe I m tx a q I') = F
  have ha := p.1.2.1
  show mm_W 123 0 [.ref 61, .null, .null] [] _ _ _
  refine w_st rfl rfl rfl trivial ?_
  refine w_st rfl rfl rfl trivial ?_
  refine w_st rfl rfl rfl trivial ?_
  refine w_k31 (r_isAt (sp_pa_b h p) p.1.1 ha) rfl ⟨rfl, by decide, by decide, by decide, Or.inl ⟨_, rfl⟩⟩ (Nat.le_of_ble_eq_true rfl) (mm_foc rfl) (Nat.le_of_ble_eq_true rfl) ?_  -- calls 121 cX5_isAt
  refine w_b_ne rfl (fun c1 => ?_) (fun c1 => ?_)
  · have c1 : a < m ∧ sp_isF (tx a) := ⟨c1.1, (sp_in_n (a := 48) (b := 51) (y := 48) (z := 51) (by decide) (by decide) rfl rfl).1 c1.2⟩
    obtain ⟨am, fc, f1, f2, f3⟩ := c1
    have r1 : sp_rn tx (a + 1) = 1 := by
      show sp_nx (sp_rn tx a) (tx a) = 1
      unfold sp_nx
      rw [h0, sp_if_t ⟨rfl, fc, f1, f2, f3⟩]
    have p1 := sp_pa_s p am (fun z => sp_isFL z ⟨fc, f1, f2, f3⟩)
    have e1 : sp_fl tx (a + 1) = fc - 48 := by
      show sp_if _ _ _ = _
      rw [sp_if_t ⟨fc, f1, f2, f3⟩, f3, nI_clamp (by omega)]
    refine w_st rfl rfl rfl trivial ?_
    refine w_gr (j := 65) rfl (mm_foc rfl) rfl (by decide) ?_
    refine w_st rfl rfl rfl trivial ?_
    refine w_gi rfl (mm_foc rfl) ?_
    rw [p.1.1]
    refine w_ia (a) rfl (mm_fac (n := 60) rfl) (by first | rfl | assumption | (simp only [← nI_add, ← nI_mul]; rfl)) (by first | decide | omega) ?_
    rw [(sp_pa_b h p).2.2 a am, f3]
    refine w_st rfl rfl rfl trivial ?_
    refine w_isub rfl ?_
    refine w_hd (show nI fc - nI 48 = nI (fc - 48) from nI_sub f1) ?_
    refine w_st rfl rfl rfl (Nat.le_of_ble_eq_true rfl) ?_
    refine w_st rfl rfl rfl trivial ?_
    refine w_st rfl rfl rfl trivial ?_
    refine w_gi rfl (mm_foc rfl) ?_
    refine w_st rfl rfl rfl trivial ?_
    refine w_iadd rfl ?_
    refine w_hd (show I1 61 7 + 1 = nI (a + 1) from by rw [p.1.1]; exact nI_1 a) ?_
    refine w_pi rfl (mm_foc rfl) ?_
    refine w_st rfl rfl rfl trivial ?_
    refine w_st rfl rfl rfl trivial ?_
    refine w_st rfl rfl rfl trivial ?_
    refine w_k31 (r_isAt (sp_pa_b h p1) p1.1.1 p1.1.2.1) rfl ⟨rfl, by decide, by decide, by decide, Or.inl ⟨_, rfl⟩⟩ (Nat.le_of_ble_eq_true rfl) (mm_foc rfl) (Nat.le_of_ble_eq_true rfl) ?_  -- calls 121 cX5_isAt
    have pb1 := sp_pa_b h p1
    have fc4 : fc - 48 < 4 := by omega
    have K68 : ∀ q, a + 1 < m → sp_isA (tx (a + 1)) → sp_br tx (a + 2) = q → mm_W 123 68 [.ref 61, .int (nI (fc - 48)), .int (sp_q q)] [] g (va_up I1 61 (upd (I1 61) 7 (nI (a + 1)))) F := by
      intro q am1 hA hbr
      have p2 := sp_pa_s p1 am1 (fun z => sp_isAL z hA)
      have pb2 := sp_pa_b h p2
      have r2 : sp_rn tx (a + 2) = 2 := by
        show sp_nx (sp_rn tx (a + 1)) (tx (a + 1)) = 2
        unfold sp_nx
        rw [r1, sp_if_f (fun z => by have := z.1; omega), sp_if_t ⟨rfl, hA⟩]
      have fl2 : sp_fl tx (a + 2) = fc - 48 := by
        show sp_if _ _ (sp_fl tx (a + 1)) = _
        rw [sp_if_f (sp_isFA hA), e1]
      refine w_st rfl rfl rfl trivial ?_
      refine w_st rfl rfl rfl trivial ?_
      refine w_gi rfl (mm_foc rfl) ?_
      refine w_st rfl rfl rfl trivial ?_
      refine w_iadd rfl ?_
      refine w_hd (show va_up I1 61 (upd (I1 61) 7 (nI (a + 1))) 61 7 + 1 = nI (a + 2) from by rw [mm_uu]; exact nI_1 _) ?_
      refine w_pi rfl (mm_foc rfl) ?_
      refine w_st rfl rfl rfl trivial ?_
      refine w_st rfl rfl rfl trivial ?_
      refine w_st rfl rfl rfl trivial ?_
      refine w_k31 (r_isAt pb2 p2.1.1 p2.1.2.1) rfl ⟨rfl, by decide, by decide, by decide, Or.inl ⟨_, rfl⟩⟩ (Nat.le_of_ble_eq_true rfl) (mm_foc rfl) (Nat.le_of_ble_eq_true rfl) ?_  -- calls 121 cX5_isAt
      refine w_b_ne rfl (fun c2 => ?_) (fun c2 => ?_)
      · have c2' : a + 2 < m ∧ sp_isL (tx (a + 2)) := ⟨c2.1, (sp_in_n (a := 97) (b := 111) (by decide) (by decide) rfl rfl).1 c2.2⟩
        have L : ∀ e, e ≤ m → ∀ I3, a + 2 ≤ e → sp_pa I I3 m tx e → sp_fl tx e = fc - 48 → sp_br tx e = q → (sp_rn tx e = 3 ∨ (sp_rn tx e = 2 ∧ e < m ∧ sp_isL (tx e))) → mm_W 123 94 [.ref 61, .int (nI (fc - 48)), .int (sp_q q)] [] g I3 F := by
          have X : ∀ e I3, a + 2 ≤ e → sp_pa I I3 m tx e → (sp_rn tx e = 3 ∨ (sp_rn tx e = 2 ∧ e < m ∧ sp_isL (tx e))) → ¬ (e < m ∧ sp_isL (tx e)) → mm_W 123 187 [.ref 61, .int (nI (fc - 48)), .int (sp_q q)] [] g I3 F := by
            intro e I3 h1 h2 h3 h4
            refine w_st rfl rfl rfl trivial ?_
            refine w_retz rfl (by first | exact Or.inl rfl | exact Or.inr rfl | exact mm_bi_01 _ | assumption) ?_
            subst hF
            exact ⟨true, rfl, rfl, e, by omega, h2, Or.inl ⟨rfl, by omega, h3.resolve_right (fun z => h4 z.2), h4⟩⟩
          refine mm_dn m ?_ ?_
          · intro I3 h1 h2 _ _ h5
            refine w_st rfl rfl rfl trivial ?_
            refine w_st rfl rfl rfl trivial ?_
            refine w_st rfl rfl rfl trivial ?_
            refine w_k31 (r_isAt (sp_pa_b h h2) h2.1.1 h2.1.2.1) rfl ⟨rfl, by decide, by decide, by decide, Or.inl ⟨_, rfl⟩⟩ (Nat.le_of_ble_eq_true rfl) (mm_foc rfl) (Nat.le_of_ble_eq_true rfl) ?_  -- calls 121 cX5_isAt
            refine w_b_eq rfl (fun _ => ?_) (fun z => absurd z (fun z => absurd z.1 (Nat.lt_irrefl m)))
            exact X m I3 h1 h2 h5 (fun z => absurd z.1 (Nat.lt_irrefl m))
          · intro e he ih I3 h1 h2 h3 h4 h5
            refine w_st rfl rfl rfl trivial ?_
            refine w_st rfl rfl rfl trivial ?_
            refine w_st rfl rfl rfl trivial ?_
            refine w_k31 (r_isAt (sp_pa_b h h2) h2.1.1 h2.1.2.1) rfl ⟨rfl, by decide, by decide, by decide, Or.inl ⟨_, rfl⟩⟩ (Nat.le_of_ble_eq_true rfl) (mm_foc rfl) (Nat.le_of_ble_eq_true rfl) ?_  -- calls 121 cX5_isAt
            refine w_b_eq rfl (fun c3 => ?_) (fun c3 => ?_)
            · exact X e I3 h1 h2 h5 (fun z => c3 ⟨z.1, (sp_in_n (a := 97) (b := 111) (by decide) (by decide) rfl rfl).2 z.2⟩)
            · obtain ⟨ec, g1, g2, hx⟩ := (sp_in_n (a := 97) (b := 111) (x := tx e) (by decide) (by decide) rfl rfl).1 c3.2
              obtain ⟨⟨k7, k8, t, k9, k10, k11, k12⟩, kf⟩ := id h2
              have pb := sp_pa_b h h2
              have pn := sp_pa_l (q := q) (f := fc - 48) k7 he k9 k10 k11 k12 kf h3 h4 fc4 g1 g2 hx rfl rfl rfl rfl
              have hL : sp_isL (tx e) := ⟨ec, g1, g2, hx⟩
              refine w_st rfl rfl rfl trivial ?_
              refine w_gr (j := 66) rfl (mm_foc rfl) rfl (by decide) ?_
              refine w_st rfl rfl rfl trivial ?_
              refine w_st rfl rfl rfl trivial ?_
              refine w_gi rfl (mm_foc rfl) ?_
              rw [k10]
              refine w_imul rfl ?_
              refine w_st rfl rfl rfl trivial ?_
              refine w_is (3 * t) rfl (mm_fac (n := 180) rfl) (by first | rfl | assumption | (simp only [← nI_add, ← nI_mul]; rfl)) (by first | decide | omega) ?_
              have n1 : sp_fl tx (e + 1) = fc - 48 := (sp_if_f (sp_isFL hL) _ _).trans h3
              have n2 : sp_br tx (e + 1) = q := (sp_if_f (fun z => sp_isAL hL z.2) _ _).trans h4
              have n3 : sp_rn tx (e + 1) = 3 := by
                show sp_nx (sp_rn tx e) (tx e) = 3
                unfold sp_nx
                have h23 : sp_rn tx e = 2 ∨ sp_rn tx e = 3 := h5.elim Or.inr (fun z => Or.inl z.1)
                rw [sp_if_f (fun z => by have := z.1; omega), sp_if_f (fun z => by have := z.1; omega), sp_if_t ⟨h23, hL⟩]
              refine w_st rfl rfl rfl trivial ?_
              refine w_gr (j := 66) rfl (mm_foc rfl) rfl (by decide) ?_
              refine w_st rfl rfl rfl trivial ?_
              refine w_st rfl rfl rfl trivial ?_
              refine w_gi rfl (mm_foc rfl) ?_
              rw [va_up_ne _ _ (show ¬ 61 = 66 by decide), k10]
              refine w_imul rfl ?_
              refine w_st rfl rfl rfl trivial ?_
              refine w_iadd rfl ?_
              refine w_st rfl rfl rfl trivial ?_
              cases q
              · skip
                refine w_z_eq rfl (fun _ => ?_) (fun z => by first | exact absurd (rfl) z | exact absurd z (rfl))
                refine w_st rfl rfl rfl trivial ?_
                refine w_is (3 * t + 1) rfl (mm_fac (n := 180) rfl) (by first | rfl | assumption | (simp only [← nI_add, ← nI_mul]; rfl)) (by first | decide | omega) ?_
                refine w_st rfl rfl rfl trivial ?_
                refine w_gr (j := 66) rfl (mm_foc rfl) rfl (by decide) ?_
                refine w_st rfl rfl rfl trivial ?_
                refine w_st rfl rfl rfl trivial ?_
                refine w_gi rfl (mm_foc rfl) ?_
                rw [va_up_ne _ _ (show ¬ 61 = 66 by decide), va_up_ne _ _ (show ¬ 61 = 66 by decide), k10]
                refine w_imul rfl ?_
                refine w_st rfl rfl rfl trivial ?_
                refine w_iadd rfl ?_
                refine w_st rfl rfl rfl trivial ?_
                refine w_gr (j := 65) rfl (mm_foc rfl) rfl (by decide) ?_
                refine w_st rfl rfl rfl trivial ?_
                refine w_gi rfl (mm_foc rfl) ?_
                rw [va_up_ne _ _ (show ¬ 61 = 66 by decide), va_up_ne _ _ (show ¬ 61 = 66 by decide), k7]
                refine w_ia (e) rfl (mm_fac (n := 60) rfl) (by first | rfl | assumption | (simp only [← nI_add, ← nI_mul]; rfl)) (by first | decide | omega) ?_
                rw [va_up_ne _ _ (show ¬ 65 = 66 by decide), va_up_ne _ _ (show ¬ 65 = 66 by decide), pb.2.2 e he, hx]
                refine w_st rfl rfl rfl trivial ?_
                refine w_isub rfl ?_
                refine w_hd (show nI ec - nI 97 = nI (ec - 97) from nI_sub g1) ?_
                refine w_is (3 * t + 2) rfl (mm_fac (n := 180) rfl) (by first | rfl | assumption | (simp only [← nI_add, ← nI_mul]; rfl)) (by first | decide | omega) ?_
                refine w_st rfl rfl rfl trivial ?_
                refine w_st rfl rfl rfl trivial ?_
                refine w_gi rfl (mm_foc rfl) ?_
                refine w_st rfl rfl rfl trivial ?_
                refine w_iadd rfl ?_
                refine w_hd (show _ = nI (t + 1) from by rw [va_up_ne _ _ (show ¬ 61 = 66 by decide), va_up_ne _ _ (show ¬ 61 = 66 by decide), va_up_ne _ _ (show ¬ 61 = 66 by decide), k10]; exact nI_1 t) ?_
                refine w_pi rfl (mm_foc rfl) ?_
                refine w_st rfl rfl rfl trivial ?_
                refine w_st rfl rfl rfl trivial ?_
                refine w_gi rfl (mm_foc rfl) ?_
                refine w_st rfl rfl rfl trivial ?_
                refine w_iadd rfl ?_
                refine w_hd (show _ = nI (e + 1) from by rw [mm_un (Or.inr (by decide)), va_up_ne _ _ (show ¬ 61 = 66 by decide), va_up_ne _ _ (show ¬ 61 = 66 by decide), va_up_ne _ _ (show ¬ 61 = 66 by decide), k7]; exact nI_1 e) ?_
                refine w_pi rfl (mm_foc rfl) ?_
                refine w_st rfl rfl rfl trivial ?_
                exact ih _ (by omega) pn n1 n2 (Or.inl n3)
              · skip
                refine w_z_eq rfl (fun z => by first | exact absurd z ((by decide : ¬ sp_q true = 0)) | exact absurd ((by decide : ¬ sp_q true = 0)) z) (fun _ => ?_)
                refine w_st rfl rfl rfl trivial ?_
                refine w_st rfl rfl rfl trivial ?_
                refine w_is (3 * t + 1) rfl (mm_fac (n := 180) rfl) (by first | rfl | assumption | (simp only [← nI_add, ← nI_mul]; rfl)) (by first | decide | omega) ?_
                refine w_st rfl rfl rfl trivial ?_
                refine w_gr (j := 66) rfl (mm_foc rfl) rfl (by decide) ?_
                refine w_st rfl rfl rfl trivial ?_
                refine w_st rfl rfl rfl trivial ?_
                refine w_gi rfl (mm_foc rfl) ?_
                rw [va_up_ne _ _ (show ¬ 61 = 66 by decide), va_up_ne _ _ (show ¬ 61 = 66 by decide), k10]
                refine w_imul rfl ?_
                refine w_st rfl rfl rfl trivial ?_
                refine w_iadd rfl ?_
                refine w_st rfl rfl rfl trivial ?_
                refine w_gr (j := 65) rfl (mm_foc rfl) rfl (by decide) ?_
                refine w_st rfl rfl rfl trivial ?_
                refine w_gi rfl (mm_foc rfl) ?_
                rw [va_up_ne _ _ (show ¬ 61 = 66 by decide), va_up_ne _ _ (show ¬ 61 = 66 by decide), k7]
                refine w_ia (e) rfl (mm_fac (n := 60) rfl) (by first | rfl | assumption | (simp only [← nI_add, ← nI_mul]; rfl)) (by first | decide | omega) ?_
                rw [va_up_ne _ _ (show ¬ 65 = 66 by decide), va_up_ne _ _ (show ¬ 65 = 66 by decide), pb.2.2 e he, hx]
                refine w_st rfl rfl rfl trivial ?_
                refine w_isub rfl ?_
                refine w_hd (show nI ec - nI 97 = nI (ec - 97) from nI_sub g1) ?_
                refine w_is (3 * t + 2) rfl (mm_fac (n := 180) rfl) (by first | rfl | assumption | (simp only [← nI_add, ← nI_mul]; rfl)) (by first | decide | omega) ?_
                refine w_st rfl rfl rfl trivial ?_
                refine w_st rfl rfl rfl trivial ?_
                refine w_gi rfl (mm_foc rfl) ?_
                refine w_st rfl rfl rfl trivial ?_
                refine w_iadd rfl ?_
                refine w_hd (show _ = nI (t + 1) from by rw [va_up_ne _ _ (show ¬ 61 = 66 by decide), va_up_ne _ _ (show ¬ 61 = 66 by decide), va_up_ne _ _ (show ¬ 61 = 66 by decide), k10]; exact nI_1 t) ?_
                refine w_pi rfl (mm_foc rfl) ?_
                refine w_st rfl rfl rfl trivial ?_
                refine w_st rfl rfl rfl trivial ?_
                refine w_gi rfl (mm_foc rfl) ?_
                refine w_st rfl rfl rfl trivial ?_
                refine w_iadd rfl ?_
                refine w_hd (show _ = nI (e + 1) from by rw [mm_un (Or.inr (by decide)), va_up_ne _ _ (show ¬ 61 = 66 by decide), va_up_ne _ _ (show ¬ 61 = 66 by decide), va_up_ne _ _ (show ¬ 61 = 66 by decide), k7]; exact nI_1 e) ?_
                refine w_pi rfl (mm_foc rfl) ?_
                refine w_st rfl rfl rfl trivial ?_
                exact ih _ (by omega) pn n1 n2 (Or.inl n3)
        exact L (a + 2) p2.1.2.1 _ (Nat.le_refl _) p2 fl2 hbr (Or.inr ⟨r2, c2'⟩)
      · skip
        refine w_st rfl rfl rfl trivial ?_
        refine w_k11 (r_stops pb2 p2.1.1 p2.1.2.1) rfl ⟨rfl, by decide, by decide, by decide, Or.inl ⟨_, rfl⟩⟩ (Nat.le_of_ble_eq_true rfl) (mm_foc rfl) (Nat.le_of_ble_eq_true rfl) ?_  -- calls 122 cX5_stops
        refine w_retz rfl (by first | exact Or.inl rfl | exact Or.inr rfl | exact mm_bi_01 _ | assumption) ?_
        subst hF
        refine ⟨false, rfl, rfl, sp_pe_s p2 a (by omega) (by rw [r2]; decide) (by rw [r2]; decide) (fun am2 => ?_)⟩
        show sp_nx (sp_rn tx (a + 2)) (tx (a + 2)) = 4
        unfold sp_nx
        rw [r2, sp_if_f (fun z => by have := z.1; omega), sp_if_f (fun z => by have := z.1; omega), sp_if_f (fun z => c2 ⟨am2, (sp_in_n (a := 97) (b := 111) (by decide) (by decide) rfl rfl).2 z.2⟩), sp_if_f (fun z => by have := z.1; omega)]
    have hbrA : ∀ q, ¬ sp_isF (tx (a + 1)) → sp_isA (tx (a + 1)) → (sp_if (tx (a + 1) = nI 45) true false) = q → sp_br tx (a + 2) = q := by
      intro q b1 b2 b3
      show sp_if _ _ _ = _
      rw [sp_if_t ⟨b1, b2⟩, b3]
    refine w_st rfl rfl rfl (Nat.le_of_ble_eq_true rfl) ?_
    refine w_st rfl rfl rfl trivial ?_
    refine w_b_ne rfl (fun c2 => ?_) (fun c2 => ?_)
    · have e45 : tx (a + 1) = nI 45 := by
        obtain ⟨c, b1, b2, b3⟩ := (sp_in_n (a := 45) (b := 45) (x := tx (a + 1)) (by decide) (by decide) rfl rfl).1 c2.2
        rw [b3, show c = 45 from by omega]
      rw [mm_bi_t c2]
      exact K68 true c2.1 (Or.inl e45) (hbrA true (sp_isFA (Or.inl e45)) (Or.inl e45) (sp_if_t e45 _ _))
    · rw [mm_bi_f c2]
      refine w_st rfl rfl rfl trivial ?_
      refine w_st rfl rfl rfl trivial ?_
      refine w_st rfl rfl rfl trivial ?_
      refine w_k31 (r_isAt pb1 p1.1.1 p1.1.2.1) rfl ⟨rfl, by decide, by decide, by decide, Or.inl ⟨_, rfl⟩⟩ (Nat.le_of_ble_eq_true rfl) (mm_foc rfl) (Nat.le_of_ble_eq_true rfl) ?_  -- calls 121 cX5_isAt
      refine w_b_ne rfl (fun c3 => ?_) (fun c3 => ?_)
      · have e43 : tx (a + 1) = nI 43 := by
          obtain ⟨c, b1, b2, b3⟩ := (sp_in_n (a := 43) (b := 43) (x := tx (a + 1)) (by decide) (by decide) rfl rfl).1 c3.2
          rw [b3, show c = 43 from by omega]
        exact K68 false c3.1 (Or.inr e43) (hbrA false (sp_isFA (Or.inr e43)) (Or.inr e43) (sp_if_f (fun z => by rw [e43] at z; have := (nI_eq (by omega) (by omega)).1 z; omega) _ _))
      · skip
        refine w_st rfl rfl rfl trivial ?_
        refine w_k11 (r_stops pb1 p1.1.1 p1.1.2.1) rfl ⟨rfl, by decide, by decide, by decide, Or.inl ⟨_, rfl⟩⟩ (Nat.le_of_ble_eq_true rfl) (mm_foc rfl) (Nat.le_of_ble_eq_true rfl) ?_  -- calls 122 cX5_stops
        refine w_retz rfl (by first | exact Or.inl rfl | exact Or.inr rfl | exact mm_bi_01 _ | assumption) ?_
        subst hF
        refine ⟨false, rfl, rfl, sp_pe_s p1 a (by omega) (by rw [r1]; decide) (by rw [r1]; decide) (fun am2 => ?_)⟩
        show sp_nx (sp_rn tx (a + 1)) (tx (a + 1)) = 4
        unfold sp_nx
        rw [r1, sp_if_f (fun z => by have := z.1; omega), sp_if_f (fun z => z.2.elim (fun z => c2 ⟨am2, by rw [z]; exact ⟨by decide, by decide⟩⟩) (fun z => c3 ⟨am2, by rw [z]; exact ⟨by decide, by decide⟩⟩)), sp_if_f (fun z => by have := z.1; omega), sp_if_f (fun z => by have := z.1; omega)]
  · skip
    refine w_st rfl rfl rfl trivial ?_
    refine w_k11 (r_stops (sp_pa_b h p) p.1.1 ha) rfl ⟨rfl, by decide, by decide, by decide, Or.inl ⟨_, rfl⟩⟩ (Nat.le_of_ble_eq_true rfl) (mm_foc rfl) (Nat.le_of_ble_eq_true rfl) ?_  -- calls 122 cX5_stops
    refine w_retz rfl (by first | exact Or.inl rfl | exact Or.inr rfl | exact mm_bi_01 _ | assumption) ?_
    subst hF
    refine ⟨false, rfl, rfl, sp_pe_s p a (Nat.le_refl _) (by rw [h0]; decide) (by rw [h0]; decide) (fun am => ?_)⟩
    show sp_nx (sp_rn tx a) (tx a) = 4
    unfold sp_nx
    rw [h0, sp_if_f (fun z => c1 ⟨am, (sp_in_n (a := 48) (b := 51) (by decide) (by decide) rfl rfl).2 z.2⟩), sp_if_f (fun z => by have := z.1; omega), sp_if_f (fun z => by have := z.1; omega), sp_if_f (fun z => by have := z.1; omega)]
end SM
