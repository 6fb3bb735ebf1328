/-! the class's own property: pure facts -/
section SM
variable {x y z b s L : Int32} {l d e k f j n m N : Nat} {σ τ : sp_St} {r : Nat → Int32} {a : sp_St × Nat}
-- tables: shown digits are apart
theorem p_pk (k : Nat) : sp_pk r b s d k = -1 ∨ sp_ap r b s (sp_sh b d (sp_pk r b s d k)) d := by
  induction k with
  | zero => exact Or.inl rfl
  | succ k ih =>
    have e : sp_pk r b s d (k + 1) = sp_if ((sp_pk r b s d k = -1 ∨ sp_mi b d (nI k) < sp_mi b d (sp_pk r b s d k)) ∧ sp_ap r b s (sp_sh b d (nI k)) d) (nI k) (sp_pk r b s d k) := rfl
    rw [e]
    by_cases c : (sp_pk r b s d k = -1 ∨ sp_mi b d (nI k) < sp_mi b d (sp_pk r b s d k)) ∧ sp_ap r b s (sp_sh b d (nI k)) d
    · rw [sp_if_t c]; exact Or.inr c.2
    · rw [sp_if_f c]; exact ih
theorem p_apart (hd : d < 10) (he : e < d) (h1 : ¬ sp_row b s d = -1) (h2 : ¬ sp_row b s e = -1) : ¬ sp_pop (sp_sh b d (sp_row b s d) ^^^ sp_sh b e (sp_row b s e)) < s := by
  have q := p_pk (r := sp_row b s) (b := b) (s := s) (d := d) 3
  rw [← sp_row_eq hd] at q
  exact q.resolve_left h1 e he h2
theorem p_sh_b (hd : d < 10) (h : ¬ sp_row b s d = -1) : sp_b15 (sp_sh b d (sp_row b s d)) := by
  obtain ⟨j, hj, e⟩ := (sp_row_k hd).resolve_left h
  rw [e]
  exact sp_b15_sh hd hj
theorem p_mi_le (hd : d < 10) (hb : sp_b15 b) (h : ¬ sp_row b s d = -1) : ∃ i j, i ≤ j ∧ j < 16 ∧ sp_mi b d (sp_row b s d) = nI i ∧ sp_pop b = nI j := by
  obtain ⟨j, hj, e⟩ := (sp_row_k hd).resolve_left h
  rw [e, sp_mi_n hj]
  exact p_pop_and (sp_b15_S _ (by omega)) hb
theorem p_sh_nb (x : Int32) : sp_sh b d x &&& b = 0 := by
  unfold sp_sh
  rw [Int32.and_assoc, Int32.xor_neg_one, Int32.not_and_self, Int32.and_zero]
theorem p_ci (hd : d < 10) (n : Nat) (hn : n ≤ d) (ha : y = -1 ∨ ¬ y < s) : sp_ci (sp_row b s) b d y n = -1 ∨ ¬ sp_ci (sp_row b s) b d y n < s := by
  induction n with
  | zero => exact ha
  | succ n ih =>
    have ih := ih (by omega)
    have e : sp_ci (sp_row b s) b d y (n + 1) = sp_cs (sp_row b s) b d n (sp_ci (sp_row b s) b d y n) := rfl
    rw [e]
    generalize sp_ci (sp_row b s) b d y n = a at ih ⊢
    unfold sp_cs
    by_cases c : sp_row b s d = -1 ∨ sp_row b s n = -1
    · rw [sp_if_t c]; exact ih
    · rw [sp_if_f c]
      by_cases c2 : a = -1 ∨ sp_df (sp_row b s) b d n < a
      · rw [sp_if_t c2]
        exact Or.inr (p_apart hd (by omega) (fun z => c (Or.inl z)) (fun z => c (Or.inr z)))
      · rw [sp_if_f c2]; exact ih
theorem p_co : ∀ d, d ≤ 10 → (sp_co (sp_row b s) b d = -1 ∨ ¬ sp_co (sp_row b s) b d < s) := by
  intro d
  induction d with
  | zero => intro _; exact Or.inl rfl
  | succ d ih => intro hd; exact p_ci (by omega) d (Nat.le_refl _) (ih (by omega))
-- a shown digit is read as itself
theorem p_pop_xx (x : Int32) : sp_pop (x ^^^ x) = 0 := by rw [Int32.xor_self]; decide +kernel
theorem p_nr_e (d : Nat) : sp_nr r b L (d + 1) = sp_if (r d = -1) (sp_nr r b L d) (sp_if (sp_pop (L ^^^ sp_sh b d (r d)) < (sp_nr r b L d).2) (nI d, sp_pop (L ^^^ sp_sh b d (r d))) (sp_if (sp_pop (L ^^^ sp_sh b d (r d)) = (sp_nr r b L d).2) (-1, (sp_nr r b L d).2) (sp_nr r b L d))) := rfl
theorem p_nr_lo (ho : ∀ e, e < d → ¬ r e = -1 → ∃ k, 1 ≤ k ∧ k < 16 ∧ sp_pop (L ^^^ sp_sh b e (r e)) = nI k) : ∀ n, n ≤ d → ∃ k, 1 ≤ k ∧ k ≤ 16 ∧ (sp_nr r b L n).2 = nI k := by
  intro n
  induction n with
  | zero => intro _; exact ⟨16, by decide, by decide, rfl⟩
  | succ n ih =>
    intro hn
    obtain ⟨k, k1, k2, k3⟩ := ih (by omega)
    rw [p_nr_e]
    by_cases c : r n = -1
    · rw [sp_if_t c]; exact ⟨k, k1, k2, k3⟩
    · rw [sp_if_f c]
      by_cases c2 : sp_pop (L ^^^ sp_sh b n (r n)) < (sp_nr r b L n).2
      · rw [sp_if_t c2]
        obtain ⟨i, i1, i2, i3⟩ := ho n (by omega) c
        exact ⟨i, i1, by omega, i3⟩
      · rw [sp_if_f c2]
        by_cases c3 : sp_pop (L ^^^ sp_sh b n (r n)) = (sp_nr r b L n).2
        · rw [sp_if_t c3]; exact ⟨k, k1, k2, k3⟩
        · rw [sp_if_f c3]; exact ⟨k, k1, k2, k3⟩
theorem p_nr_hi (hr : ¬ r d = -1) (h0 : sp_pop (L ^^^ sp_sh b d (r d)) = 0) (ho : ∀ e, e < d → ¬ r e = -1 → ∃ k, 1 ≤ k ∧ k < 16 ∧ sp_pop (L ^^^ sp_sh b e (r e)) = nI k) (ho2 : ∀ e, d < e → e < 10 → ¬ r e = -1 → ∃ k, 1 ≤ k ∧ k < 16 ∧ sp_pop (L ^^^ sp_sh b e (r e)) = nI k) : ∀ n, d + n ≤ 9 → sp_nr r b L (d + 1 + n) = (nI d, 0) := by
  intro n
  induction n with
  | zero =>
    intro _
    obtain ⟨k, k1, k2, k3⟩ := p_nr_lo ho d (Nat.le_refl _)
    have lt : sp_pop (L ^^^ sp_sh b d (r d)) < (sp_nr r b L d).2 := by
      rw [h0, k3]; exact (nI_ltI (a := 0) (by omega) (by omega)).2 k1
    rw [Nat.add_zero, p_nr_e, sp_if_f hr, sp_if_t lt, h0]
  | succ n ih =>
    intro hn
    have ih := ih (by omega)
    rw [show d + 1 + (n + 1) = (d + 1 + n) + 1 from rfl, p_nr_e, ih]
    by_cases c : r (d + 1 + n) = -1
    · exact sp_if_t c _ _
    · obtain ⟨k, k1, k2, k3⟩ := ho2 (d + 1 + n) (by omega) (by omega) c
      have n1 : ¬ sp_pop (L ^^^ sp_sh b (d + 1 + n) (r (d + 1 + n))) < (0 : Int32) := by
        rw [k3]; intro z; have := (nI_ltI (b := 0) (by omega) (by decide)).1 z; omega
      have n2 : ¬ sp_pop (L ^^^ sp_sh b (d + 1 + n) (r (d + 1 + n))) = (0 : Int32) := by
        rw [k3]; intro z; have := (nI_eq (b := 0) (by omega) (by decide)).1 z; omega
      exact (sp_if_f c _ _).trans ((sp_if_f n1 _ _).trans (sp_if_f n2 _ _))
theorem p_read (h1 : 1 ≤ m) (h5 : m ≤ 5) (es : s = nI m) (hd : d < 10) (hr : ¬ sp_row b s d = -1) : (sp_nr (sp_row b s) b (sp_sh b d (sp_row b s d)) 10).1 = nI d := by
  have ne : ∀ e, e < 10 → ¬ e = d → ¬ sp_row b s e = -1 → ∃ k, 1 ≤ k ∧ k < 16 ∧ sp_pop (sp_sh b d (sp_row b s d) ^^^ sp_sh b e (sp_row b s e)) = nI k := by
    intro e he hne hre
    obtain ⟨k, hk, e1⟩ := sp_pop_k (sp_b15_xor (p_sh_b hd hr) (p_sh_b he hre))
    refine ⟨k, ?_, hk, e1⟩
    have q : ¬ nI k < nI m := by
      rw [← e1, ← es]
      rcases Nat.lt_or_gt_of_ne hne with z | z
      · exact p_apart hd z hr hre
      · rw [Int32.xor_comm]; exact p_apart he z hre hr
    have := not_congr (nI_ltI (a := k) (b := m) (by omega) (by omega)) |>.1 q
    omega
  have z := p_nr_hi (r := sp_row b s) (b := b) (L := sp_sh b d (sp_row b s d)) hr (p_pop_xx _) (fun e he => ne e (by omega) (by omega)) (fun e he h10 => ne e h10 (by omega)) (9 - d) (by omega)
  rw [show d + 1 + (9 - d) = 10 from by omega] at z
  rw [z]
-- with all lamps at work all digits are shown
def p_R0 (m d : Nat) : Nat := bif Nat.beq m 2 && (Nat.beq d 6 || Nat.beq d 8 || Nat.beq d 9) then 1 else 0
theorem p_R0_lt : ∀ m, m < 3 → ∀ d, d < 10 → p_R0 m d < 3 := by decide +kernel
theorem p_sh0 : ∀ m, m < 3 → ∀ d, d < 10 → ∀ e, e < d → ¬ sp_pop (sp_sh 0 d (nI (p_R0 m d)) ^^^ sp_sh 0 e (nI (p_R0 m e))) < nI m := by decide +kernel
theorem p_sh1 : ∀ m, m < 3 → ∀ d, d < 10 → ∀ j, j < p_R0 m d → ¬ ∀ e, e < d → ¬ sp_pop (sp_sh 0 d (nI j) ^^^ sp_sh 0 e (nI (p_R0 m e))) < nI m := by decide +kernel
theorem p_mi0 (hk : k < 3) : sp_mi 0 d (nI k) = 0 := by
  rw [sp_mi_n hk, Int32.and_zero]
  decide +kernel
theorem p_row0 (hm : m < 3) : ∀ d, d < 10 → sp_row 0 (nI m) d = nI (p_R0 m d) := by
  intro d
  induction d using Nat.strongRecOn with
  | ind d ih =>
    intro hd
    have hR := p_R0_lt m hm d hd
    have ap : sp_ap (sp_row 0 (nI m)) 0 (nI m) (sp_sh 0 d (nI (p_R0 m d))) d := by
      intro e he _
      rw [ih e he (by omega)]
      exact p_sh0 m hm d hd e he
    have na : ∀ j, j < p_R0 m d → ¬ sp_ap (sp_row 0 (nI m)) 0 (nI m) (sp_sh 0 d (nI j)) d := by
      intro j hj z
      refine p_sh1 m hm d hd j hj (fun e he => ?_)
      have q := z e he
      rw [ih e he (by omega)] at q
      exact q (nI_ne1 (by have := p_R0_lt m hm e (by omega); omega))
    have K : ∀ k, k ≤ 3 → (k ≤ p_R0 m d ∧ sp_pk (sp_row 0 (nI m)) 0 (nI m) d k = -1) ∨ (p_R0 m d < k ∧ sp_pk (sp_row 0 (nI m)) 0 (nI m) d k = nI (p_R0 m d)) := by
      intro k
      induction k with
      | zero => intro _; exact Or.inl ⟨Nat.zero_le _, rfl⟩
      | succ k ihk =>
        intro hk
        have e : sp_pk (sp_row 0 (nI m)) 0 (nI m) d (k + 1) = sp_if ((sp_pk (sp_row 0 (nI m)) 0 (nI m) d k = -1 ∨ sp_mi 0 d (nI k) < sp_mi 0 d (sp_pk (sp_row 0 (nI m)) 0 (nI m) d k)) ∧ sp_ap (sp_row 0 (nI m)) 0 (nI m) (sp_sh 0 d (nI k)) d) (nI k) (sp_pk (sp_row 0 (nI m)) 0 (nI m) d k) := rfl
        rw [e]
        rcases ihk (by omega) with ⟨i1, i2⟩ | ⟨i1, i2⟩
        · rw [i2]
          by_cases c : k = p_R0 m d
          · right
            refine ⟨by omega, ?_⟩
            rw [c]
            exact sp_if_t ⟨Or.inl rfl, ap⟩ _ _
          · left
            exact ⟨by omega, sp_if_f (fun z => na k (by omega) z.2) _ _⟩
        · right
          refine ⟨by omega, ?_⟩
          rw [i2, p_mi0 (by omega), p_mi0 hR]
          exact sp_if_f (fun z => z.1.elim (nI_ne1 (by omega)) (fun z => absurd z (by decide))) _ _
    rw [sp_row_eq hd]
    rcases K 3 (Nat.le_refl _) with ⟨i1, i2⟩ | ⟨i1, i2⟩
    · omega
    · exact i2
theorem p_mk_st : ∀ n, n < 10 → nI (2 ^ n - 1) ||| (1 : Int32) <<< (nI n &&& 31) = nI (2 ^ (n + 1) - 1) := by decide +kernel
theorem p_mk_all (h : ∀ d, d < 10 → ¬ r d = -1) : ∀ n, n ≤ 10 → sp_mk r n = nI (2 ^ n - 1) := by
  intro n
  induction n with
  | zero => intro _; rfl
  | succ n ih =>
    intro hn
    show sp_mk r n ||| sp_if _ _ _ = _
    rw [ih (by omega), sp_if_f (h n (by omega)), p_mk_st n (by omega)]
theorem p_all0 (hm : m < 3) : sp_mk (sp_row 0 (nI m)) 10 = nI 1023 :=
  p_mk_all (fun d hd => by rw [p_row0 hm d hd]; exact nI_ne1 (by have := p_R0_lt m hm d hd; omega)) 10 (Nat.le_refl _)
-- the bits of the digits that can be shown
theorem p_b_n : p_b (nI m) j = (decide (j < 32) && m.testBit j) := by
  show (BitVec.ofNat 32 m).getLsbD j = _
  rw [BitVec.getLsbD_ofNat]
theorem p_mk_b : ∀ n, n ≤ 10 → ∀ j, p_b (sp_mk r n) j = (decide (j < n) && decide (¬ r j = -1)) := by
  intro n
  induction n with
  | zero => intro _ j; show p_b 0 j = _; rw [p_b_0, decide_eq_false (Nat.not_lt_zero j), Bool.false_and]
  | succ n ih =>
    intro hn j
    show p_b (sp_mk r n ||| sp_if _ _ _) j = _
    rw [p_b_or, ih (by omega) j]
    have e : p_b (sp_if (r n = -1) (0 : Int32) ((1 : Int32) <<< (nI n &&& 31))) j = (decide (j = n) && decide (¬ r j = -1)) := by
      by_cases c : r n = -1
      · rw [sp_if_t c, p_b_0]
        by_cases cj : j = n
        · subst cj; rw [decide_eq_false (show ¬ ¬ r j = -1 from fun z => z c), Bool.and_false]
        · rw [decide_eq_false cj, Bool.false_and]
      · rw [sp_if_f c, sp_bit_n n (by omega), p_b_n, Nat.testBit_two_pow]
        by_cases cj : j = n
        · subst cj; rw [decide_eq_true c, decide_eq_true rfl, decide_eq_true (show j < 32 by omega)]
        · rw [decide_eq_false cj, decide_eq_false (fun z : n = j => cj z.symm), Bool.and_false, Bool.false_and]
    rw [e]
    by_cases c1 : j < n
    · rw [decide_eq_true c1, decide_eq_true (show j < n + 1 by omega), decide_eq_false (show ¬ j = n by omega), Bool.false_and, Bool.or_false]
    · rw [decide_eq_false c1, Bool.false_and, Bool.false_or]
      by_cases c2 : j = n
      · rw [decide_eq_true c2, decide_eq_true (show j < n + 1 by omega)]
      · rw [decide_eq_false c2, decide_eq_false (show ¬ j < n + 1 by omega)]
theorem p_shd : ∀ d, d < 10 → ((nI d &&& 31).toBitVec.smod 32).toNat = d := by decide +kernel
theorem p_b_shr (hd : d < 10) : p_b (x >>> (nI d &&& 31)) 0 = p_b x d := by
  unfold p_b
  rw [Int32.toBitVec_shiftRight, BitVec.sshiftRight_eq', p_shd d hd, BitVec.getLsbD_sshiftRight]
  rw [decide_eq_false (show ¬ 32 ≤ 0 by omega), if_pos (show d + 0 < 32 by omega)]
  rfl
theorem p_b_1 : p_b 1 j = decide (j = 0) := by
  rw [show (1 : Int32) = nI (2 ^ 0) from rfl, p_b_n, Nat.testBit_two_pow]
  by_cases c : j = 0
  · subst c; rfl
  · rw [decide_eq_false c, decide_eq_false (fun z : 0 = j => c z.symm), Bool.and_false]
theorem p_bit (hd : d < 10) : (sp_mk r 10 >>> (nI d &&& 31)) &&& 1 = sp_if (r d = -1) 0 1 := by
  refine p_ext fun j => ?_
  rw [p_b_and, p_b_1]
  by_cases c0 : j = 0
  · subst c0
    rw [decide_eq_true rfl, Bool.and_true, p_b_shr hd, p_mk_b 10 (Nat.le_refl _), decide_eq_true hd, Bool.true_and]
    by_cases c : r d = -1
    · rw [sp_if_t c, p_b_0, decide_eq_false (fun z => z c)]
    · rw [sp_if_f c, p_b_1, decide_eq_true c, decide_eq_true rfl]
  · rw [decide_eq_false c0, Bool.and_false]
    by_cases c : r d = -1
    · rw [sp_if_t c, p_b_0]
    · rw [sp_if_f c, p_b_1, decide_eq_false c0]
theorem p_can_n (r : Nat → Int32) : ∃ m, m ≤ 10 ∧ m + sp_no r 10 = 10 ∧ sp_pop (sp_mk r 10) = nI m ∧ sp_b15 (sp_mk r 10) := by
  obtain ⟨m, h1, h2, h3⟩ := sp_mk_n r 10 (Nat.le_refl _)
  exact ⟨sp_qq m, by omega, h3, by rw [h2, sp_pop_n (by omega)], m, by omega, h2⟩
theorem p_dw_le (r : Nat → Int32) (l n : Nat) : sp_dw r l n + sp_no r n ≤ n := by
  induction n with
  | zero => exact Nat.le_refl _
  | succ n ih =>
    show sp_dw r l n + sp_if (¬ r n = -1 ∧ ¬ mm_SHP (3 * n + (r n).toNatClampNeg) &&& sp_bit l = 0) 1 0 + (sp_no r n + sp_if (r n = -1) 1 0) ≤ n + 1
    by_cases c : r n = -1
    · rw [sp_if_t c, sp_if_f (fun z => z.1 c)]; omega
    · rw [sp_if_f c]
      by_cases c2 : ¬ r n = -1 ∧ ¬ mm_SHP (3 * n + (r n).toNatClampNeg) &&& sp_bit l = 0
      · rw [sp_if_t c2]; omega
      · rw [sp_if_f c2]; omega
-- the worst lamp
theorem p_m1 (hn : n < 2 ^ 31) : (-1 : Int32) < nI n := by
  rw [Int32.lt_iff_toInt_lt, nI_toInt hn, show (-1 : Int32).toInt = -1 from by decide]
  omega
theorem p_wl (f : Nat) : ∀ n, n ≤ 15 → ((∀ l, l < n → ¬ σ (8 + f) &&& sp_bit l = 0) ∧ sp_wl σ f n = (-1, -1, -1)) ∨ ((∃ l, l < n ∧ σ (8 + f) &&& sp_bit l = 0) ∧ ∃ j, j < 15 ∧ (sp_wl σ f n).1 = nI j) := by
  intro n
  induction n with
  | zero => intro _; exact Or.inl ⟨fun l hl => absurd hl (Nat.not_lt_zero _), rfl⟩
  | succ n ih =>
    intro hn
    have ih := ih (by omega)
    have e : sp_wl σ f (n + 1) = sp_if (¬ σ (8 + f) &&& sp_bit n = 0) (sp_wl σ f n) (sp_if ((sp_wl σ f n).2.1 < sp_ib σ f n 0 ∨ (sp_ib σ f n 0 = (sp_wl σ f n).2.1 ∧ (sp_wl σ f n).2.2 < sp_ib σ f n 1)) (nI n, sp_ib σ f n 0, sp_ib σ f n 1) (sp_wl σ f n)) := rfl
    by_cases c : ¬ σ (8 + f) &&& sp_bit n = 0
    · rw [e, sp_if_t c]
      rcases ih with ⟨h1, h2⟩ | ⟨⟨l, hl, h1⟩, h2⟩
      · refine Or.inl ⟨fun l hl => ?_, h2⟩
        by_cases cl : l = n
        · subst cl; exact c
        · exact h1 l (by omega)
      · exact Or.inr ⟨⟨l, by omega, h1⟩, h2⟩
    · have c' := Classical.not_not.1 c
      rw [e, sp_if_f c]
      by_cases c2 : (sp_wl σ f n).2.1 < sp_ib σ f n 0 ∨ (sp_ib σ f n 0 = (sp_wl σ f n).2.1 ∧ (sp_wl σ f n).2.2 < sp_ib σ f n 1)
      · rw [sp_if_t c2]
        exact Or.inr ⟨⟨n, by omega, c'⟩, n, by omega, rfl⟩
      · rw [sp_if_f c2]
        rcases ih with ⟨h1, h2⟩ | ⟨h1, h2⟩
        · exfalso
          refine c2 (Or.inl ?_)
          rw [h2]
          have := sp_no_le (sp_Q σ f n) 10
          exact p_m1 (n := sp_no (sp_Q σ f n) 10) (by omega)
        · exact Or.inr ⟨⟨n, by omega, c'⟩, h2⟩
theorem p_worst (hb : σ (8 + f) = nI m) (hm : m < 32768) : (m < 32767 ∧ ∃ j, j < 15 ∧ (sp_wl σ f 15).1 = nI j) ∨ (¬ m < 32767 ∧ (sp_wl σ f 15).1 = -1) := by
  rcases p_wl (σ := σ) f 15 (Nat.le_refl _) with ⟨h1, h2⟩ | ⟨⟨l, hl, h1⟩, h2⟩
  · right
    have q := (p_all ⟨m, hm, hb⟩).2 h1
    rw [hb] at q
    have := (nI_eq (by omega) (by decide)).1 q
    exact ⟨by omega, by rw [h2]⟩
  · left
    refine ⟨?_, h2⟩
    apply Classical.byContradiction
    intro z
    have e : m = 32767 := by omega
    subst e
    exact (p_all ⟨_, hm, hb⟩).1 hb l hl h1
-- the number that is shown
theorem p_ns : ∀ f, f ≤ 4 → ∀ a : Int32, sp_dk σ f = 0 → (a = -1 ∨ 0 < sp_wd σ f) → sp_ns σ (4 - f) a = -1 ∨ (sp_dk σ 4 = 0 ∧ 0 < sp_wd σ 4) := by
  refine mm_dn 4 ?_ ?_
  · intro a h0 h1
    exact h1.imp (fun z => z) (fun z => ⟨h0, z⟩)
  · intro f hf ih a h0 h1
    have ed : sp_dk σ (f + 1) = sp_dk σ f + sp_if (¬ σ (4 + f) = -1 ∧ ¬ sp_vis σ f) 1 0 := rfl
    have ew : sp_wd σ (f + 1) = sp_wd σ f + sp_if (σ (4 + f) = -1) 0 1 := rfl
    rw [sp_ns_s hf]
    by_cases v : sp_vis σ f
    · rw [sp_if_t v]
      rw [sp_if_f (fun z => z.2 v), h0] at ed
      rw [sp_if_f (sp_vis_ne v)] at ew
      exact ih _ ed (Or.inr (by omega))
    · rw [sp_if_f v]
      by_cases c : ¬ σ (4 + f) = -1 ∨ ¬ a = -1
      · rw [sp_if_t c]; exact Or.inl rfl
      · rw [sp_if_f c]
        rw [sp_if_f (fun z => c (Or.inl z.1)), h0] at ed
        exact ih a ed (Or.inl (Classical.byContradiction (fun z => c (Or.inr z))))
theorem p_ns4 : sp_ns σ 4 (-1) = -1 ∨ (sp_dk σ 4 = 0 ∧ 0 < sp_wd σ 4) := p_ns 0 (by decide) (-1) rfl (Or.inl rfl)
-- lit lamps, and the next burning where none is lit
theorem p_ll (n : Nat) : ∃ q, q ≤ 16 * n ∧ sp_ll σ n = nI q ∧ (q = 0 → ∀ f, f < n → sp_lit σ f = 0) := by
  induction n with
  | zero => exact ⟨0, Nat.le_refl _, rfl, fun _ f hf => absurd hf (Nat.not_lt_zero _)⟩
  | succ n ih =>
    obtain ⟨q, q1, q2, q3⟩ := ih
    obtain ⟨k, k1, k2⟩ := sp_pop_k (sp_lit_b (σ := σ) (f := n))
    refine ⟨q + k, by omega, ?_, fun z f hf => ?_⟩
    · show sp_ll σ n + sp_pop (sp_lit σ n) = _
      rw [q2, k2, nI_add]
    · by_cases c : f = n
      · subst c
        have k0 : k = 0 := by omega
        subst k0
        exact p_pop_0 sp_lit_b k2
      · exact q3 (by omega) f (by omega)
theorem p_bl (ok : sp_ok σ) : ∀ n, n ≤ 4 → ∃ q, q ≤ 16 * n ∧ sp_bl σ n = nI q := by
  intro n
  induction n with
  | zero => intro _; exact ⟨0, Nat.le_refl _, rfl⟩
  | succ n ih =>
    intro hn
    obtain ⟨q, q1, q2⟩ := ih (by omega)
    obtain ⟨k, k1, k2⟩ := sp_pop_k (ok.2.1 n (by omega))
    refine ⟨q + k, by omega, ?_⟩
    show sp_bl σ n + sp_pop (σ (8 + n)) = _
    rw [q2, k2, nI_add]
theorem p_hu0 (h : sp_lit σ f = 0) : sp_hu σ f l = -1 ∨ sp_hu σ f l = 1 := by
  unfold sp_hu
  by_cases c : σ 2 = 0 ∨ ¬ σ (8 + f) &&& sp_bit l = 0
  · rw [sp_if_t c]; exact Or.inl rfl
  · rw [sp_if_f c]
    by_cases c2 : sp_wn σ f l
    · rw [sp_if_t c2]; exact Or.inr rfl
    · rw [sp_if_f c2, h, sp_if_f (fun z => z Int32.zero_and)]; exact Or.inl rfl
theorem p_n1 (hx : x = -1 ∨ x = 1) (hy : y = -1 ∨ y = 1) : sp_n1 x y = -1 ∨ sp_n1 x y = 1 := by
  unfold sp_n1
  by_cases c : ¬ y = -1 ∧ (x = -1 ∨ y < x)
  · rw [sp_if_t c]; exact hy
  · rw [sp_if_f c]; exact hx
theorem p_n2 (h : sp_lit σ f = 0) (hx : x = -1 ∨ x = 1) (n : Nat) : sp_n2 σ f x n = -1 ∨ sp_n2 σ f x n = 1 := by
  induction n with
  | zero => exact hx
  | succ n ih => exact p_n1 ih (p_hu0 h)
theorem p_nb : ∀ n, (∀ f, f < n → sp_lit σ f = 0) → (sp_nb σ n = -1 ∨ sp_nb σ n = 1) := by
  intro n
  induction n with
  | zero => intro _; exact Or.inl rfl
  | succ n ih => intro h; exact p_n2 (h n (by omega)) (ih (fun f hf => h f (by omega))) 15
end SM
