/-! lamps burn by their hours as it was told: pure facts -/
section SM
variable {x y z : Int32} {l d e k f j n m N H s b : Nat} {σ τ ρ : sp_St} {a : sp_St × Nat}
theorem sp_ok_sp {ps : Nat → sp_St} (ok : sp_ok σ) (okp : ∀ i, i < n → sp_ok (ps i)) : ∀ i, i < sp_sn n → sp_ok (sp_sp n ps σ i) := by
  intro i hi
  unfold sp_sn at hi
  show sp_ok (if n < 6 then (if i = n then σ else ps i) else (if i = 5 then σ else ps (i + 1)))
  by_cases c : n < 6
  · rw [if_pos c] at hi ⊢
    by_cases c2 : i = n
    · rw [if_pos c2]; exact ok
    · rw [if_neg c2]; exact okp i (by omega)
  · rw [if_neg c] at hi ⊢
    by_cases c2 : i = 5
    · rw [if_pos c2]; exact ok
    · rw [if_neg c2]; exact okp (i + 1) (by omega)
theorem sp_ok_show (ok : sp_ok σ) (hf : f < 4) (hy : y = -1 ∨ ∃ d, d < 10 ∧ y = nI d) : sp_ok (upd σ (4 + f) y) := by
  obtain ⟨o1, o2, o3, o4, N, o5, o6, o7⟩ := ok
  refine ⟨fun e he => ?_, fun e he => ?_, ?_, ?_, N, o5, ?_, fun j hj => ?_⟩
  · by_cases c : e = f
    · subst c; rw [upd_s]; exact hy
    · rw [upd_n (by omega)]; exact o1 e he
  · rw [upd_n (by omega)]; exact o2 e he
  · rw [upd_n (by omega)]; exact o3
  · rw [upd_n (by omega)]; exact o4
  · rw [upd_n (by omega)]; exact o6
  · rw [upd_n (by omega)]; exact o7 j hj
theorem sp_ok_st (ok : sp_ok σ) (hk : k < 2) (h2 : (k = 0 ∧ 1 ≤ y ∧ y ≤ 5) ∨ (k = 1 ∧ sp_lt 100 y)) : sp_ok (upd σ (1 + k) y) := by
  obtain ⟨o1, o2, o3, o4, N, o5, o6, o7⟩ := ok
  refine ⟨fun e he => ?_, fun e he => ?_, ?_, ?_, N, o5, ?_, fun j hj => ?_⟩
  · rw [upd_n (by omega)]; exact o1 e he
  · rw [upd_n (by omega)]; exact o2 e he
  · rcases h2 with ⟨rfl, a, b⟩ | ⟨rfl, _⟩
    · rw [upd_s]
      obtain ⟨s, hs, rfl⟩ := sp_le_i (n := 5) (by decide) rfl (Int32.le_trans (by decide) a) b
      exact ⟨s, (nI_leI (a := 1) (by omega) (by omega)).1 a, by omega, rfl⟩
    · rw [upd_n (by omega)]; exact o3
  · rcases h2 with ⟨rfl, a, b⟩ | ⟨rfl, s, hs, rfl⟩
    · rw [upd_n (by omega)]; exact o4
    · rw [upd_s]; exact ⟨s, by omega, rfl⟩
  · rw [upd_n (by omega)]; exact o6
  · rw [upd_n (by omega)]; exact o7 j hj
theorem sp_ok_set {q : Bool} (ok : sp_ok σ) (hf : f < 4) (hl : l < 15) : sp_ok (sp_set σ f l q) := by
  obtain ⟨o1, o2, o3, o4, N, o5, o6, o7⟩ := ok
  refine ⟨fun e he => ?_, fun e he => ?_, ?_, ?_, N, o5, ?_, fun j hj => ?_⟩
  · rw [sp_set_o (by omega) (by omega)]; exact o1 e he
  · by_cases c : e = f
    · subst c
      cases q
      · show sp_b15 (upd (upd σ (8 + e) _) (12 + (15 * e + l)) 0 (8 + e))
        rw [upd_n (by omega), upd_s]
        exact sp_b15_and (o2 e he) _
      · show sp_b15 (upd σ (8 + e) _ (8 + e))
        rw [upd_s]
        exact sp_b15_or (o2 e he) (sp_b15_bit hl)
    · rw [sp_set_o (by omega) (by omega)]; exact o2 e he
  · rw [sp_set_o (by omega) (by omega)]; exact o3
  · rw [sp_set_o (by omega) (by omega)]; exact o4
  · rw [sp_set_o (by omega) (by omega)]; exact o6
  · cases q
    · show ∃ h, h ≤ N ∧ upd (upd σ (8 + f) _) (12 + (15 * f + l)) 0 (12 + j) = nI h
      by_cases c : j = 15 * f + l
      · subst c; rw [upd_s]; exact ⟨0, Nat.zero_le _, rfl⟩
      · rw [upd_n (by omega), upd_n (by omega)]; exact o7 j hj
    · show ∃ h, h ≤ N ∧ upd σ (8 + f) _ (12 + j) = nI h
      rw [upd_n (by omega)]; exact o7 j hj
theorem sp_ok_md (ok : sp_ok σ) (hf : f < 4) : ∀ k, k ≤ 15 → sp_ok (sp_md σ f k) := by
  intro k
  induction k with
  | zero => intro _; exact ok
  | succ k ih => intro hk; exact sp_ok_set (ih (by omega)) hf (by omega)
-- burnt lamps grow by what burns
theorem p_bl_c (n : Nat) (h : ∀ e, e < n → τ (8 + e) = σ (8 + e)) : sp_bl τ n = sp_bl σ n := by
  induction n with
  | zero => rfl
  | succ n ih =>
    show sp_bl τ n + sp_pop (τ (8 + n)) = sp_bl σ n + sp_pop (σ (8 + n))
    rw [ih (fun e he => h e (by omega)), h n (by omega)]
theorem p_bl_up (hx : sp_pop (τ (8 + f)) = sp_pop (σ (8 + f)) + x) : ∀ n, f < n → (∀ e, e < n → ¬ e = f → τ (8 + e) = σ (8 + e)) → sp_bl τ n = sp_bl σ n + x := by
  intro n
  induction n with
  | zero => intro hf _; exact absurd hf (Nat.not_lt_zero _)
  | succ n ih =>
    intro hf h
    show sp_bl τ n + sp_pop (τ (8 + n)) = sp_bl σ n + sp_pop (σ (8 + n)) + x
    by_cases c : n = f
    · subst c
      rw [p_bl_c n (fun e he => h e (by omega) (by omega)), hx, Int32.add_assoc]
    · rw [ih (by omega) (fun e he => h e (by omega)), h n (by omega) c, Int32.add_assoc, Int32.add_comm x, Int32.add_assoc]
theorem p_bf_u (hf : f < 4) (hb : ∀ e, e < 4 → sp_b15 (a.1 (8 + e))) : ∀ k, k ≤ 15 → ∃ c, c ≤ k ∧ (sp_bf f k a).2 = a.2 + c ∧ sp_pop ((sp_bf f k a).1 (8 + f)) = sp_pop (a.1 (8 + f)) + nI c := by
  intro k
  induction k with
  | zero => intro _; exact ⟨0, Nat.le_refl _, rfl, (Int32.add_zero _).symm⟩
  | succ k ih =>
    intro hk
    obtain ⟨c, c1, c2, c3⟩ := ih (by omega)
    have hq := sp_bf_b15 (f := f) k (by omega) hb f hf
    rw [sp_bf_e]
    by_cases q : (sp_bf f k a).1 (8 + f) &&& sp_bit k = 0 ∧ sp_wn (sp_bf f k a).1 f k
    · rw [sp_if_t q]
      refine ⟨c + 1, by omega, by show (sp_bf f k a).2 + 1 = _; omega, ?_⟩
      show sp_pop (upd (sp_bf f k a).1 (8 + f) ((sp_bf f k a).1 (8 + f) ||| sp_bit k) (8 + f)) = _
      rw [upd_s, p_pop_or (by omega) hq q.1, c3, Int32.add_assoc]
      exact congrArg _ (nI_1 c)
    · rw [sp_if_f q]; exact ⟨c, by omega, c2, c3⟩
theorem p_bw_u (hb : ∀ e, e < 4 → sp_b15 (σ (8 + e))) : ∀ k, k ≤ 4 → sp_bl (sp_bw σ k).1 4 = sp_bl σ 4 + nI (sp_bw σ k).2 ∧ (sp_bw σ k).2 ≤ 15 * k := by
  intro k
  induction k with
  | zero => intro _; exact ⟨(Int32.add_zero _).symm, Nat.le_refl _⟩
  | succ k ih =>
    intro hk
    obtain ⟨i1, i2⟩ := ih (by omega)
    obtain ⟨c, c1, c2, c3⟩ := p_bf_u (f := k) (a := sp_bw σ k) (by omega) (sp_bw_b15 k hb) 15 (Nat.le_refl _)
    have u := p_bl_up (f := k) (τ := (sp_bf k 15 (sp_bw σ k)).1) (σ := (sp_bw σ k).1) c3 4 (by omega) (fun e he hne => sp_bf_o (by omega) (by omega) 15)
    have e2 : (sp_bw σ (k + 1)).2 = (sp_bw σ k).2 + c := c2
    have e1 : sp_bl (sp_bw σ (k + 1)).1 4 = sp_bl (sp_bw σ k).1 4 + nI c := u
    rw [e1, e2, i1, Int32.add_assoc, nI_add]
    exact ⟨rfl, by omega⟩
theorem p_ho_u (ok : sp_ok σ) : sp_bl (sp_ho σ) 4 = sp_bl σ 4 + nI (sp_hq σ).2 ∧ (sp_hq σ).2 ≤ 60 := by
  obtain ⟨u1, u2⟩ := p_bw_u (σ := sp_hA σ 1) (fun e he => by rw [sp_hA_o (by omega)]; exact ok.2.1 e he) 4 (Nat.le_refl _)
  refine ⟨?_, u2⟩
  rw [p_bl_c (τ := sp_ho σ) (σ := (sp_hq σ).1) 4 (fun e he => sp_ho_e3 _ (by omega) (by omega))]
  rw [p_bl_c (τ := sp_hA σ 1) (σ := σ) 4 (fun e he => sp_hA_o (by omega))] at u1
  exact u1
theorem p_hi_u (ok : sp_ok σ) (h0 : σ 0 = nI N) : ∀ k, N + k ≤ 99999 → sp_bl (sp_hi σ k).1 4 = sp_bl σ 4 + nI (sp_hi σ k).2 ∧ (sp_hi σ k).2 ≤ 60 * k := by
  intro k
  induction k with
  | zero => intro _; exact ⟨(Int32.add_zero _).symm, Nat.le_refl _⟩
  | succ k ih =>
    intro hk
    obtain ⟨i1, i2⟩ := ih (by omega)
    obtain ⟨u1, u2⟩ := p_ho_u (sp_ok_hi ok h0 k (by omega))
    have e1 : sp_bl (sp_hi σ (k + 1)).1 4 = sp_bl (sp_hi σ k).1 4 + nI (sp_hq (sp_hi σ k).1).2 := u1
    have e2 : (sp_hi σ (k + 1)).2 = (sp_hi σ k).2 + (sp_hq (sp_hi σ k).1).2 := rfl
    rw [e1, e2, i1, Int32.add_assoc, nI_add]
    exact ⟨rfl, by omega⟩
-- some burn just where it was told
theorem p_bf_0 (k : Nat) : a.2 ≤ (sp_bf f k a).2 ∧ ((sp_bf f k a).2 = a.2 → sp_bf f k a = a ∧ ∀ l, l < k → ¬ (a.1 (8 + f) &&& sp_bit l = 0 ∧ sp_wn a.1 f l)) := by
  induction k with
  | zero => exact ⟨Nat.le_refl _, fun _ => ⟨rfl, fun l hl => absurd hl (Nat.not_lt_zero _)⟩⟩
  | succ k ih =>
    obtain ⟨i1, i2⟩ := ih
    rw [sp_bf_e]
    by_cases q : (sp_bf f k a).1 (8 + f) &&& sp_bit k = 0 ∧ sp_wn (sp_bf f k a).1 f k
    · rw [sp_if_t q]
      refine ⟨by show a.2 ≤ (sp_bf f k a).2 + 1; omega, fun z => ?_⟩
      have z' : (sp_bf f k a).2 + 1 = a.2 := z
      omega
    · rw [sp_if_f q]
      refine ⟨i1, fun z => ?_⟩
      obtain ⟨j1, j2⟩ := i2 z
      refine ⟨j1, fun l hl => ?_⟩
      by_cases c : l = k
      · subst c; rw [j1] at q; exact q
      · exact j2 l (by omega)
theorem p_bw_0 (k : Nat) : (sp_bw σ k).2 = 0 → sp_bw σ k = (σ, 0) ∧ ∀ f, f < k → ∀ l, l < 15 → ¬ (σ (8 + f) &&& sp_bit l = 0 ∧ sp_wn σ f l) := by
  induction k with
  | zero => intro _; exact ⟨rfl, fun f hf => absurd hf (Nat.not_lt_zero _)⟩
  | succ k ih =>
    intro h
    have h' : (sp_bf k 15 (sp_bw σ k)).2 = 0 := h
    obtain ⟨i1, i2⟩ := p_bf_0 (f := k) (a := sp_bw σ k) 15
    have e0 : (sp_bw σ k).2 = 0 := by omega
    obtain ⟨j1, j2⟩ := ih e0
    obtain ⟨q1, q2⟩ := i2 (by omega)
    refine ⟨?_, fun f hf l hl => ?_⟩
    · show sp_bf k 15 (sp_bw σ k) = _
      rw [q1, j1]
    · by_cases c : f = k
      · subst c
        have q3 := q2 l hl
        rw [j1] at q3
        exact q3
      · exact j2 f (by omega) l hl
theorem p_n1_or (x y : Int32) : sp_n1 x y = x ∨ sp_n1 x y = y := by
  unfold sp_n1
  by_cases c : ¬ y = -1 ∧ (x = -1 ∨ y < x)
  · rw [sp_if_t c]; exact Or.inr rfl
  · rw [sp_if_f c]; exact Or.inl rfl
theorem p_n2_or (n : Nat) : sp_n2 σ f x n = x ∨ ∃ l, l < n ∧ sp_n2 σ f x n = sp_hu σ f l := by
  induction n with
  | zero => exact Or.inl rfl
  | succ n ih =>
    have e : sp_n2 σ f x (n + 1) = sp_n1 (sp_n2 σ f x n) (sp_hu σ f n) := rfl
    rw [e]
    rcases p_n1_or (sp_n2 σ f x n) (sp_hu σ f n) with h | h
    · rw [h]
      rcases ih with i | ⟨l, l1, l2⟩
      · exact Or.inl i
      · exact Or.inr ⟨l, by omega, l2⟩
    · rw [h]; exact Or.inr ⟨n, by omega, rfl⟩
theorem p_nb_or (n : Nat) : sp_nb σ n = -1 ∨ ∃ f, f < n ∧ ∃ l, l < 15 ∧ sp_nb σ n = sp_hu σ f l := by
  induction n with
  | zero => exact Or.inl rfl
  | succ n ih =>
    have e : sp_nb σ (n + 1) = sp_n2 σ n (sp_nb σ n) 15 := rfl
    rw [e]
    rcases p_n2_or (σ := σ) (f := n) (x := sp_nb σ n) 15 with h | ⟨l, l1, l2⟩
    · rw [h]
      rcases ih with i | ⟨f, f1, l, l1, l2⟩
      · exact Or.inl i
      · exact Or.inr ⟨f, by omega, l, l1, l2⟩
    · exact Or.inr ⟨n, by omega, l, l1, l2⟩
theorem p_hu_w (ok : sp_ok σ) (hf : f < 4) (hl : l < 15) (hb : b ≤ 500) (e : sp_hu σ f l = nI b) : sp_hA σ (nI b) (8 + f) &&& sp_bit l = 0 ∧ sp_wn (sp_hA σ (nI b)) f l := by
  obtain ⟨o1, o2, o3, ⟨L, o4, o4'⟩, N, o5, o6, o7⟩ := ok
  obtain ⟨h, h1, h2⟩ := o7 (15 * f + l) (by omega)
  have e2 : sp_hu σ f l = sp_if (σ 2 = 0 ∨ ¬ σ (8 + f) &&& sp_bit l = 0) (-1) (sp_if (sp_wn σ f l) 1 (sp_if (¬ sp_lit σ f &&& sp_bit l = 0) (100 * σ 2 - σ (12 + (15 * f + l))) (-1))) := rfl
  rw [e2] at e
  by_cases c : σ 2 = 0 ∨ ¬ σ (8 + f) &&& sp_bit l = 0
  · rw [sp_if_t c] at e; exact absurd e.symm (nI_ne1 (by omega))
  · rw [sp_if_f c] at e
    rw [sp_hA_o (by omega)]
    refine ⟨Classical.byContradiction (fun z => c (Or.inr z)), ?_⟩
    have hL : 0 < L := Nat.pos_of_ne_zero (fun z => c (Or.inl (by rw [o4', z]; rfl)))
    have key : 100 * L ≤ h ∨ (¬ sp_lit σ f &&& sp_bit l = 0 ∧ 100 * L ≤ h + b) := by
      by_cases c2 : sp_wn σ f l
      · left
        have w2 := c2.2
        rw [o4', h2, show (100 : Int32) = nI 100 from rfl, nI_mul] at w2
        exact (nI_leI (by omega) (by omega)).1 w2
      · rw [sp_if_f c2] at e
        by_cases c3 : ¬ sp_lit σ f &&& sp_bit l = 0
        · right
          rw [sp_if_t c3] at e
          refine ⟨c3, ?_⟩
          by_cases c4 : 100 * L ≤ h
          · omega
          · rw [o4', h2, show (100 : Int32) = nI 100 from rfl, nI_mul, nI_sub (by omega)] at e
            have := (nI_eq (by omega) (by omega)).1 e
            omega
        · rw [sp_if_f c3] at e; exact absurd e.symm (nI_ne1 (by omega))
    unfold sp_wn
    rw [sp_hA_o (show 2 < 12 by decide), sp_hA_h hf hl, o4', h2, show (100 : Int32) = nI 100 from rfl, nI_mul]
    refine ⟨(nI_ltI (a := 0) (by omega) (by omega)).2 (by omega), ?_⟩
    by_cases c5 : ¬ sp_lit σ f &&& sp_bit l = 0
    · rw [sp_if_t c5, nI_add]
      refine (nI_leI (by omega) (by omega)).2 ?_
      rcases key with q | q
      · omega
      · exact q.2
    · rw [sp_if_f c5]
      refine (nI_leI (by omega) (by omega)).2 ?_
      rcases key with q | q
      · exact q
      · exact absurd q.1 c5
theorem p_told (ok : sp_ok σ) (hH : H < 500) : (0 < (sp_hi σ H).2 ∧ ∃ b, 1 ≤ b ∧ b ≤ H ∧ sp_nb σ 4 = nI b) ∨ ((sp_hi σ H).2 = 0 ∧ (sp_nb σ 4 = -1 ∨ ∃ b, H < b ∧ b < 2 ^ 31 ∧ sp_nb σ 4 = nI b)) := by
  obtain ⟨g1, g2⟩ := sp_nb_ge (fun f hf l hl => sp_hu_ge ok hf hl) 4 (Nat.le_refl _)
  have no : sp_ge (H + 1) (sp_nb σ 4) → (sp_hi σ H).2 = 0 := fun hge => (sp_run ok (g2 (H + 1) hge) (by omega) H (Nat.lt_succ_self H)).2
  rcases g1 with z | ⟨b, b1, b2, b3⟩
  · exact Or.inr ⟨no (Or.inl z), Or.inl z⟩
  · by_cases c : b ≤ H
    · left
      refine ⟨?_, b, b1, c, b3⟩
      obtain ⟨-, R2⟩ := sp_run2 ok (g2 b (Or.inr ⟨b, Nat.le_refl _, b2, b3⟩)) b1 (by omega)
      have hp : 0 < (sp_hi σ b).2 := by
        refine Nat.pos_of_ne_zero (fun z => ?_)
        rw [R2] at z
        obtain ⟨-, q⟩ := p_bw_0 4 z
        rcases p_nb_or (σ := σ) 4 with w | ⟨f, f1, l, l1, l2⟩
        · rw [b3] at w; exact nI_ne1 (by omega) w
        · exact q f f1 l l1 (p_hu_w ok f1 l1 (by omega) (l2.symm.trans b3))
      have ea := sp_hi_add (σ := σ) b (H - b)
      rw [show b + (H - b) = H from by omega] at ea
      rw [ea]
      show 0 < (sp_hi σ b).2 + _
      omega
    · exact Or.inr ⟨no (Or.inr ⟨b, by omega, b2, b3⟩), Or.inr ⟨b, by omega, b2, b3⟩⟩
end SM
