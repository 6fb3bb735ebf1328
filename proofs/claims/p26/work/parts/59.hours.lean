/-! hours go by: the pure side -/
def sp_e3 (τ ρ : sp_St) : Prop := ∀ j, ¬ j = 0 → ¬ j = 3 → τ j = ρ j
noncomputable def sp_hA (τ : sp_St) (x : Int32) : sp_St := fun j => sp_if (12 ≤ j ∧ j < 72 ∧ ¬ sp_lit τ ((j - 12) / 15) &&& sp_bit ((j - 12) % 15) = 0) (τ j + x) (τ j)
noncomputable def sp_hq (σ : sp_St) : sp_St × Nat := sp_bw (sp_hA σ 1) 4
noncomputable def sp_ho (σ : sp_St) : sp_St := upd (upd (sp_hq σ).1 0 (σ 0 + 1)) 3 (σ 3 + nI (sp_hq σ).2)
/-- k hours, one by one -/
noncomputable def sp_hi (σ : sp_St) : Nat → sp_St × Nat
  | 0 => (σ, 0)
  | k + 1 => (sp_ho (sp_hi σ k).1, (sp_hi σ k).2 + (sp_hq (sp_hi σ k).1).2)
def sp_ge (s : Nat) (x : Int32) : Prop := x = -1 ∨ ∃ h, s ≤ h ∧ h < 2 ^ 31 ∧ x = nI h
theorem sp_if_c {α : Type} {p q : Prop} {x y : α} (h : p ↔ q) : sp_if p x y = sp_if q x y := by rw [propext h]
section SM
variable {x y z : Int32} {l d k f s n j : Nat} {σ τ ρ : sp_St} {a b : sp_St × Nat}
theorem sp_lf_at : ∀ k, k ≤ 15 → ∀ j, sp_lf σ x f k τ j = sp_if (12 + 15 * f ≤ j ∧ j < 12 + 15 * f + k ∧ ¬ sp_lit σ f &&& sp_bit (j - (12 + 15 * f)) = 0) (τ j + x) (τ j) := by
  intro k
  induction k with
  | zero => intro _ j; exact (sp_if_f (fun z => by omega) _ _).symm
  | succ k ih =>
    intro hk j
    have e : sp_lf σ x f (k + 1) τ = sp_if (¬ sp_lit σ f &&& sp_bit k = 0) (upd (sp_lf σ x f k τ) (12 + (15 * f + k)) (sp_lf σ x f k τ (12 + (15 * f + k)) + x)) (sp_lf σ x f k τ) := rfl
    rw [e]
    by_cases c : ¬ sp_lit σ f &&& sp_bit k = 0
    · rw [sp_if_t c]
      by_cases ej : j = 12 + (15 * f + k)
      · subst ej
        rw [upd_s, ih (by omega), sp_if_f (fun z => by omega), sp_if_t ⟨by omega, by omega, by rw [show 12 + (15 * f + k) - (12 + 15 * f) = k from by omega]; exact c⟩]
      · rw [upd_n ej, ih (by omega)]
        exact sp_if_c ⟨fun z => ⟨z.1, by omega, z.2.2⟩, fun z => ⟨z.1, by omega, z.2.2⟩⟩
    · rw [sp_if_f c, ih (by omega)]
      refine sp_if_c ⟨fun z => ⟨z.1, by omega, z.2.2⟩, fun z => ⟨z.1, ?_, z.2.2⟩⟩
      have : ¬ j = 12 + 15 * f + k := fun ej => by
        have z2 := z.2.2
        rw [ej, show 12 + 15 * f + k - (12 + 15 * f) = k from by omega] at z2
        exact c z2
      omega
theorem sp_lg_at : ∀ k, k ≤ 4 → ∀ j, sp_lg σ x k j = sp_if (12 ≤ j ∧ j < 12 + 15 * k ∧ ¬ sp_lit σ ((j - 12) / 15) &&& sp_bit ((j - 12) % 15) = 0) (σ j + x) (σ j) := by
  intro k
  induction k with
  | zero => intro _ j; exact (sp_if_f (fun z => by omega) _ _).symm
  | succ k ih =>
    intro hk j
    show sp_lf σ x k 15 (sp_lg σ x k) j = _
    rw [sp_lf_at 15 (Nat.le_refl _)]
    by_cases c : 12 + 15 * k ≤ j ∧ j < 12 + 15 * k + 15
    · rw [show sp_lg σ x k j = σ j from by rw [ih (by omega)]; exact sp_if_f (fun z => by omega) _ _]
      have e1 : (j - 12) / 15 = k := by omega
      have e2 : (j - 12) % 15 = j - (12 + 15 * k) := by omega
      rw [e1, e2]
      exact sp_if_c ⟨fun z => ⟨by omega, by omega, z.2.2⟩, fun z => ⟨by omega, by omega, z.2.2⟩⟩
    · rw [sp_if_f (fun z => c ⟨z.1, z.2.1⟩), ih (by omega)]
      exact sp_if_c ⟨fun z => ⟨z.1, by omega, z.2.2⟩, fun z => ⟨z.1, by omega, z.2.2⟩⟩
theorem sp_lg_A : sp_lg σ x 4 = sp_hA σ x := funext fun j => sp_lg_at 4 (Nat.le_refl _) j
theorem sp_hA_o (h : j < 12) : sp_hA τ x j = τ j := sp_if_f (fun z => by omega) _ _
theorem sp_hA_h (hf : f < 4) (hl : l < 15) : sp_hA τ x (12 + (15 * f + l)) = sp_if (¬ sp_lit τ f &&& sp_bit l = 0) (τ (12 + (15 * f + l)) + x) (τ (12 + (15 * f + l))) := by
  have e1 : (12 + (15 * f + l) - 12) / 15 = f := by omega
  have e2 : (12 + (15 * f + l) - 12) % 15 = l := by omega
  show sp_if (12 ≤ 12 + (15 * f + l) ∧ 12 + (15 * f + l) < 72 ∧ ¬ sp_lit τ ((12 + (15 * f + l) - 12) / 15) &&& sp_bit ((12 + (15 * f + l) - 12) % 15) = 0) _ _ = _
  rw [e1, e2]
  exact sp_if_c ⟨fun z => z.2.2, fun z => ⟨by omega, by omega, z⟩⟩
theorem sp_hA_lit (hf : f < 4) : sp_lit (sp_hA τ x) f = sp_lit τ f := sp_lit_c8 (fun _ hi => sp_hA_o hi) hf
theorem sp_hA_t (x y : Int32) : sp_hA (sp_hA τ x) y = sp_hA τ (x + y) := by
  funext j
  by_cases c : 12 ≤ j ∧ j < 72
  · show sp_if (12 ≤ j ∧ j < 72 ∧ ¬ sp_lit (sp_hA τ x) ((j - 12) / 15) &&& sp_bit ((j - 12) % 15) = 0) (sp_hA τ x j + y) (sp_hA τ x j) = sp_if (12 ≤ j ∧ j < 72 ∧ ¬ sp_lit τ ((j - 12) / 15) &&& sp_bit ((j - 12) % 15) = 0) (τ j + (x + y)) (τ j)
    rw [sp_hA_lit (by omega)]
    by_cases c2 : ¬ sp_lit τ ((j - 12) / 15) &&& sp_bit ((j - 12) % 15) = 0
    · rw [sp_if_t ⟨c.1, c.2, c2⟩, sp_if_t ⟨c.1, c.2, c2⟩, show sp_hA τ x j = τ j + x from sp_if_t ⟨c.1, c.2, c2⟩ _ _, Int32.add_assoc]
    · rw [sp_if_f (fun z => c2 z.2.2), sp_if_f (fun z => c2 z.2.2)]; exact sp_if_f (fun z => c2 z.2.2) _ _
  · have e : ∀ (ρ : sp_St) y, sp_hA ρ y j = ρ j := fun ρ y => sp_if_f (fun z => c ⟨z.1, z.2.1⟩) _ _
    rw [e, e, e]
theorem sp_hA_0 : sp_hA τ 0 = τ := by
  funext j
  show sp_if _ (τ j + 0) (τ j) = τ j
  rw [Int32.add_zero]
  by_cases c : 12 ≤ j ∧ j < 72 ∧ ¬ sp_lit τ ((j - 12) / 15) &&& sp_bit ((j - 12) % 15) = 0
  · exact sp_if_t c _ _
  · exact sp_if_f c _ _
-- places 0 and 3 apart
theorem sp_e3_t (h : sp_e3 σ τ) (h' : sp_e3 τ ρ) : sp_e3 σ ρ := fun j a b => (h j a b).trans (h' j a b)
theorem sp_lit_e3 (h : sp_e3 τ ρ) : sp_lit τ f = sp_lit ρ f := by
  unfold sp_lit sp_vis sp_R
  rw [h (4 + f) (by omega) (by omega), h (8 + f) (by omega) (by omega), h 1 (by decide) (by decide)]
theorem sp_hA_e3 (h : sp_e3 τ ρ) : sp_e3 (sp_hA τ x) (sp_hA ρ x) := by
  intro j a b
  show sp_if (12 ≤ j ∧ j < 72 ∧ ¬ sp_lit τ ((j - 12) / 15) &&& sp_bit ((j - 12) % 15) = 0) (τ j + x) (τ j) = sp_if (12 ≤ j ∧ j < 72 ∧ ¬ sp_lit ρ ((j - 12) / 15) &&& sp_bit ((j - 12) % 15) = 0) (ρ j + x) (ρ j)
  rw [h j a b, sp_lit_e3 h]
theorem sp_wn_e3 (h : sp_e3 τ ρ) : sp_wn τ f l = sp_wn ρ f l := by
  unfold sp_wn
  rw [h 2 (by decide) (by decide), h (12 + (15 * f + l)) (by omega) (by omega)]
theorem sp_bf_e3 (h : sp_e3 a.1 b.1 ∧ a.2 = b.2) (k : Nat) : sp_e3 (sp_bf f k a).1 (sp_bf f k b).1 ∧ (sp_bf f k a).2 = (sp_bf f k b).2 := by
  induction k with
  | zero => exact h
  | succ k ih =>
    rw [sp_bf_e, sp_bf_e]
    have e8 := ih.1 (8 + f) (by omega) (by omega)
    by_cases c : (sp_bf f k b).1 (8 + f) &&& sp_bit k = 0 ∧ sp_wn (sp_bf f k b).1 f k
    · rw [sp_if_t c, sp_if_t (by rw [e8, sp_wn_e3 ih.1]; exact c)]
      refine ⟨fun j p q => ?_, by show _ + 1 = _ + 1; rw [ih.2]⟩
      show upd (sp_bf f k a).1 (8 + f) ((sp_bf f k a).1 (8 + f) ||| sp_bit k) j = upd (sp_bf f k b).1 (8 + f) ((sp_bf f k b).1 (8 + f) ||| sp_bit k) j
      rw [e8]
      by_cases cj : j = 8 + f
      · subst cj; rw [upd_s, upd_s]
      · rw [upd_n cj, upd_n cj]; exact ih.1 j p q
    · rw [sp_if_f c, sp_if_f (by rw [e8, sp_wn_e3 ih.1]; exact c)]
      exact ih
theorem sp_bw_e3 (h : sp_e3 τ ρ) (k : Nat) : sp_e3 (sp_bw τ k).1 (sp_bw ρ k).1 ∧ (sp_bw τ k).2 = (sp_bw ρ k).2 := by
  induction k with
  | zero => exact ⟨h, rfl⟩
  | succ k ih => exact sp_bf_e3 ih 15
theorem sp_bf_o2 (hj : ¬ j = 8 + f) (k : Nat) : (sp_bf f k a).1 j = a.1 j := by
  induction k with
  | zero => rfl
  | succ k ih =>
    rw [sp_bf_e]
    by_cases c : (sp_bf f k a).1 (8 + f) &&& sp_bit k = 0 ∧ sp_wn (sp_bf f k a).1 f k
    · rw [sp_if_t c]
      show upd (sp_bf f k a).1 (8 + f) _ j = _
      rw [upd_n hj, ih]
    · rw [sp_if_f c, ih]
theorem sp_bw_o2 (k : Nat) (hj : ¬ (8 ≤ j ∧ j < 8 + k)) : (sp_bw σ k).1 j = σ j := by
  induction k with
  | zero => rfl
  | succ k ih =>
    show (sp_bf k 15 (sp_bw σ k)).1 j = _
    rw [sp_bf_o2 (by omega), ih (by omega)]
theorem sp_bf_no (k : Nat) (h : ∀ l, l < k → ¬ (a.1 (8 + f) &&& sp_bit l = 0 ∧ sp_wn a.1 f l)) : sp_bf f k a = a := by
  induction k with
  | zero => rfl
  | succ k ih =>
    rw [sp_bf_e, ih (fun l hl => h l (by omega))]
    exact sp_if_f (h k (by omega)) _ _
theorem sp_bw_no (k : Nat) (h : ∀ f, f < k → ∀ l, l < 15 → ¬ (σ (8 + f) &&& sp_bit l = 0 ∧ sp_wn σ f l)) : sp_bw σ k = (σ, 0) := by
  induction k with
  | zero => rfl
  | succ k ih =>
    show sp_bf k 15 (sp_bw σ k) = _
    rw [ih (fun f hf => h f (by omega))]
    exact sp_bf_no 15 (h k (by omega))
theorem sp_bf_b15 (k : Nat) (hk : k ≤ 15) (h : ∀ e, e < 4 → sp_b15 (a.1 (8 + e))) : ∀ e, e < 4 → sp_b15 ((sp_bf f k a).1 (8 + e)) := by
  induction k with
  | zero => exact h
  | succ k ih =>
    intro e he
    have i := ih (by omega) e he
    rw [sp_bf_e]
    by_cases c : (sp_bf f k a).1 (8 + f) &&& sp_bit k = 0 ∧ sp_wn (sp_bf f k a).1 f k
    · rw [sp_if_t c]
      show sp_b15 (upd (sp_bf f k a).1 (8 + f) ((sp_bf f k a).1 (8 + f) ||| sp_bit k) (8 + e))
      by_cases ce : e = f
      · subst ce; rw [upd_s]; exact sp_b15_or i (sp_b15_bit (by omega))
      · rw [upd_n (by omega)]; exact i
    · rw [sp_if_f c]; exact i
theorem sp_bw_b15 (k : Nat) (h : ∀ e, e < 4 → sp_b15 (σ (8 + e))) : ∀ e, e < 4 → sp_b15 ((sp_bw σ k).1 (8 + e)) := by
  induction k with
  | zero => exact h
  | succ k ih => exact sp_bf_b15 15 (Nat.le_refl _) ih
-- one hour
theorem sp_hq_o (hj : j < 8) : (sp_hq σ).1 j = σ j := by
  show (sp_bw (sp_hA σ 1) 4).1 j = _
  rw [sp_bw_o2 4 (by omega), sp_hA_o (by omega)]
theorem sp_ho_o (hj : j < 8) (h0 : ¬ j = 0) (h3 : ¬ j = 3) : sp_ho σ j = σ j := by
  show upd (upd (sp_hq σ).1 0 _) 3 _ j = _
  rw [upd_n h3, upd_n h0, sp_hq_o hj]
theorem sp_ho_e3 : sp_e3 (sp_ho σ) (sp_hq σ).1 := fun j a b => by
  show upd (upd (sp_hq σ).1 0 _) 3 _ j = _
  rw [upd_n b, upd_n a]
theorem sp_ho_0 : sp_ho σ 0 = σ 0 + 1 := by
  show upd (upd (sp_hq σ).1 0 _) 3 _ 0 = _
  rw [upd_n (by decide), upd_s]
theorem sp_ho_3 : sp_ho σ 3 = σ 3 + nI (sp_hq σ).2 := by
  show upd (upd (sp_hq σ).1 0 _) 3 _ 3 = _
  rw [upd_s]
theorem sp_ok_ho (ok : sp_ok σ) (h0 : σ 0 = nI n) (hn : n < 99999) : sp_ok (sp_ho σ) := by
  obtain ⟨o1, o2, o3, o4, N, o5, o6, o7⟩ := ok
  have eN : n = N := (nI_eq (by omega) (by omega)).1 (h0.symm.trans o6)
  subst eN
  refine ⟨fun f hf => ?_, fun f hf => ?_, ?_, ?_, n + 1, by omega, ?_, fun j hj => ?_⟩
  · rw [sp_ho_o (by omega) (by omega) (by omega)]; exact o1 f hf
  · rw [sp_ho_e3 _ (by omega) (by omega)]
    exact sp_bw_b15 4 (fun e he => by rw [sp_hA_o (by omega)]; exact o2 e he) f hf
  · rw [sp_ho_o (by decide) (by decide) (by decide)]; exact o3
  · rw [sp_ho_o (by decide) (by decide) (by decide)]; exact o4
  · rw [sp_ho_0, h0]; exact nI_1 n
  · rw [sp_ho_e3 _ (by omega) (by omega)]
    have e : (sp_hq σ).1 (12 + j) = sp_hA σ 1 (12 + j) := sp_bw_o2 4 (by omega)
    rw [e]
    obtain ⟨h, h1, h2⟩ := o7 j hj
    have e2 : sp_hA σ 1 (12 + j) = sp_if (12 ≤ 12 + j ∧ 12 + j < 72 ∧ ¬ sp_lit σ ((12 + j - 12) / 15) &&& sp_bit ((12 + j - 12) % 15) = 0) (σ (12 + j) + 1) (σ (12 + j)) := rfl
    rw [e2]
    by_cases c : 12 ≤ 12 + j ∧ 12 + j < 72 ∧ ¬ sp_lit σ ((12 + j - 12) / 15) &&& sp_bit ((12 + j - 12) % 15) = 0
    · rw [sp_if_t c, h2]; exact ⟨h + 1, by omega, nI_1 h⟩
    · rw [sp_if_f c]; exact ⟨h, by omega, h2⟩
-- hours
theorem sp_hi_add (a b : Nat) : sp_hi σ (a + b) = ((sp_hi (sp_hi σ a).1 b).1, (sp_hi σ a).2 + (sp_hi (sp_hi σ a).1 b).2) := by
  induction b with
  | zero => rfl
  | succ b ih =>
    show (sp_ho (sp_hi σ (a + b)).1, (sp_hi σ (a + b)).2 + (sp_hq (sp_hi σ (a + b)).1).2) = (sp_ho (sp_hi (sp_hi σ a).1 b).1, (sp_hi σ a).2 + ((sp_hi (sp_hi σ a).1 b).2 + (sp_hq (sp_hi (sp_hi σ a).1 b).1).2))
    rw [ih, Nat.add_assoc]
theorem sp_hi_0 (k : Nat) : (sp_hi σ k).1 0 = σ 0 + nI k := by
  induction k with
  | zero => exact (Int32.add_zero _).symm
  | succ k ih =>
    show sp_ho (sp_hi σ k).1 0 = _
    rw [sp_ho_0, ih, Int32.add_assoc]
    exact congrArg _ (nI_1 k)
theorem sp_hi_3 (k : Nat) : (sp_hi σ k).1 3 = σ 3 + nI (sp_hi σ k).2 := by
  induction k with
  | zero => exact (Int32.add_zero _).symm
  | succ k ih =>
    show sp_ho (sp_hi σ k).1 3 = σ 3 + nI ((sp_hi σ k).2 + _)
    rw [sp_ho_3, ih, Int32.add_assoc, nI_add]
theorem sp_ok_hi (ok : sp_ok σ) (h0 : σ 0 = nI n) (k : Nat) (hn : n + k ≤ 99999) : sp_ok (sp_hi σ k).1 := by
  induction k with
  | zero => exact ok
  | succ k ih =>
    refine sp_ok_ho (n := n + k) (ih (by omega)) ?_ (by omega)
    rw [sp_hi_0, h0, nI_add]
-- the least number of hours
theorem sp_n1_ge (ha : sp_ge 1 x) (hh : sp_ge 1 y) : sp_ge 1 (sp_n1 x y) ∧ ∀ s, sp_ge s (sp_n1 x y) → sp_ge s x ∧ sp_ge s y := by
  have e : sp_n1 x y = sp_if (¬ y = -1 ∧ (x = -1 ∨ y < x)) y x := rfl
  rw [e]
  by_cases c : ¬ y = -1 ∧ (x = -1 ∨ y < x)
  · rw [sp_if_t c]
    refine ⟨hh, fun s hs => ⟨?_, hs⟩⟩
    by_cases cx : x = -1
    · exact Or.inl cx
    · obtain ⟨p, p1, p2, p3⟩ := ha.resolve_left cx
      obtain ⟨q, q1, q2, q3⟩ := hs.resolve_left c.1
      have hlt := c.2.resolve_left cx
      rw [p3, q3] at hlt
      have := (nI_ltI q2 p2).1 hlt
      exact Or.inr ⟨p, by omega, p2, p3⟩
  · rw [sp_if_f c]
    refine ⟨ha, fun s hs => ⟨hs, ?_⟩⟩
    by_cases cy : y = -1
    · exact Or.inl cy
    · have cx : ¬ x = -1 := fun z => c ⟨cy, Or.inl z⟩
      obtain ⟨q, q1, q2, q3⟩ := hh.resolve_left cy
      obtain ⟨p, p1, p2, p3⟩ := hs.resolve_left cx
      have hlt : ¬ y < x := fun z => c ⟨cy, Or.inr z⟩
      rw [p3, q3] at hlt
      have : ¬ q < p := fun z => hlt ((nI_ltI q2 p2).2 z)
      exact Or.inr ⟨q, by omega, q2, q3⟩
theorem sp_n2_ge (ha : sp_ge 1 x) (hh : ∀ l, l < 15 → sp_ge 1 (sp_hu σ f l)) : ∀ k, k ≤ 15 → sp_ge 1 (sp_n2 σ f x k) ∧ ∀ s, sp_ge s (sp_n2 σ f x k) → sp_ge s x ∧ ∀ l, l < k → sp_ge s (sp_hu σ f l) := by
  intro k
  induction k with
  | zero => intro _; exact ⟨ha, fun s hs => ⟨hs, fun l hl => absurd hl (Nat.not_lt_zero _)⟩⟩
  | succ k ih =>
    intro hk
    obtain ⟨i1, i2⟩ := ih (by omega)
    obtain ⟨j1, j2⟩ := sp_n1_ge i1 (hh k (by omega))
    refine ⟨j1, fun s hs => ?_⟩
    obtain ⟨u, v⟩ := j2 s hs
    obtain ⟨w1, w2⟩ := i2 s u
    refine ⟨w1, fun l hl => ?_⟩
    by_cases c : l = k
    · subst c; exact v
    · exact w2 l (by omega)
theorem sp_nb_ge (hh : ∀ f, f < 4 → ∀ l, l < 15 → sp_ge 1 (sp_hu σ f l)) : ∀ k, k ≤ 4 → sp_ge 1 (sp_nb σ k) ∧ ∀ s, sp_ge s (sp_nb σ k) → ∀ f, f < k → ∀ l, l < 15 → sp_ge s (sp_hu σ f l) := by
  intro k
  induction k with
  | zero => intro _; exact ⟨Or.inl rfl, fun s _ f hf => absurd hf (Nat.not_lt_zero _)⟩
  | succ k ih =>
    intro hk
    obtain ⟨i1, i2⟩ := ih (by omega)
    obtain ⟨j1, j2⟩ := sp_n2_ge i1 (hh k (by omega)) 15 (Nat.le_refl _)
    refine ⟨j1, fun s hs f hf l hl => ?_⟩
    obtain ⟨u, v⟩ := j2 s hs
    by_cases c : f = k
    · subst c; exact v l hl
    · exact i2 s u f (by omega) l hl
theorem sp_hu_ge (ok : sp_ok σ) (hf : f < 4) (hl : l < 15) : sp_ge 1 (sp_hu σ f l) := by
  obtain ⟨o1, o2, o3, ⟨L, o4, o4'⟩, N, o5, o6, o7⟩ := ok
  obtain ⟨h, h1, h2⟩ := o7 (15 * f + l) (by omega)
  have e2 : sp_hu σ f l = sp_if (σ 2 = 0 ∨ ¬ σ (8 + f) &&& sp_bit l = 0) (-1) (sp_if (sp_wn σ f l) 1 (sp_if (¬ sp_lit σ f &&& sp_bit l = 0) (100 * σ 2 - σ (12 + (15 * f + l))) (-1))) := rfl
  rw [e2]
  by_cases c : σ 2 = 0 ∨ ¬ σ (8 + f) &&& sp_bit l = 0
  · rw [sp_if_t c]; exact Or.inl rfl
  · rw [sp_if_f c]
    by_cases c2 : sp_wn σ f l
    · rw [sp_if_t c2]; exact Or.inr ⟨1, by omega, by decide, rfl⟩
    · rw [sp_if_f c2]
      by_cases c3 : ¬ sp_lit σ f &&& sp_bit l = 0
      · rw [sp_if_t c3]
        unfold sp_wn at c2
        rw [o4', h2, show (100 : Int32) = nI 100 from rfl, nI_mul] at c2 ⊢
        have hL : 0 < L := Nat.pos_of_ne_zero (fun z => c (Or.inl (by rw [o4', z]; rfl)))
        have hlt : h < 100 * L := by
          apply Classical.byContradiction
          intro z
          exact c2 ⟨(nI_ltI (a := 0) (by omega) (by omega)).2 (by omega), (nI_leI (by omega) (by omega)).2 (by omega)⟩
        rw [nI_sub (by omega)]
        exact Or.inr ⟨100 * L - h, by omega, by omega, rfl⟩
      · rw [sp_if_f c3]; exact Or.inl rfl
theorem sp_noW (ok : sp_ok σ) (hf : f < 4) (hl : l < 15) (hs : sp_ge s (sp_hu σ f l)) (hk : 1 ≤ k) (hks : k < s) (hs5 : s ≤ 500) : ¬ (sp_hA σ (nI k) (8 + f) &&& sp_bit l = 0 ∧ sp_wn (sp_hA σ (nI k)) f l) := by
  rintro ⟨b, w⟩
  obtain ⟨o1, o2, o3, ⟨L, o4, o4'⟩, N, o5, o6, o7⟩ := ok
  obtain ⟨h, h1, h2⟩ := o7 (15 * f + l) (by omega)
  have e2 : sp_hu σ f l = sp_if (σ 2 = 0 ∨ ¬ σ (8 + f) &&& sp_bit l = 0) (-1) (sp_if (sp_wn σ f l) 1 (sp_if (¬ sp_lit σ f &&& sp_bit l = 0) (100 * σ 2 - σ (12 + (15 * f + l))) (-1))) := rfl
  unfold sp_wn at w
  rw [sp_hA_o (by omega)] at b
  rw [sp_hA_o (show 2 < 12 by decide), sp_hA_h hf hl] at w
  have c : ¬ (σ 2 = 0 ∨ ¬ σ (8 + f) &&& sp_bit l = 0) := by
    rintro (z | z)
    · have w1 := w.1
      rw [z] at w1
      exact absurd w1 (by decide)
    · exact z b
  rw [e2, sp_if_f c] at hs
  by_cases c2 : sp_wn σ f l
  · rw [sp_if_t c2] at hs
    rcases hs with z | ⟨q, q1, q2, q3⟩
    · exact absurd z (by decide)
    · have : 1 = q := (nI_eq (by decide) q2).1 q3
      omega
  · rw [sp_if_f c2] at hs
    by_cases c3 : ¬ sp_lit σ f &&& sp_bit l = 0
    · rw [sp_if_t c3] at hs w
      unfold sp_wn at c2
      rw [o4', h2, show (100 : Int32) = nI 100 from rfl, nI_mul] at c2 hs w
      have hlt : h < 100 * L := by
        apply Classical.byContradiction
        intro z
        exact c2 ⟨w.1, (nI_leI (by omega) (by omega)).2 (by omega)⟩
      rw [nI_sub (by omega)] at hs
      rw [nI_add] at w
      have w2 := (nI_leI (by omega) (by omega)).1 w.2
      rcases hs with z | ⟨q, q1, q2, q3⟩
      · exact absurd z (nI_ne1 (by omega))
      · have := (nI_eq (by omega) q2).1 q3
        omega
    · rw [sp_if_f c3] at w
      exact c2 w
/-- s hours with no burning before the last -/
theorem sp_run (ok : sp_ok σ) (hs : ∀ f, f < 4 → ∀ l, l < 15 → sp_ge s (sp_hu σ f l)) (hs5 : s ≤ 500) : ∀ k, k < s → sp_e3 (sp_hi σ k).1 (sp_hA σ (nI k)) ∧ (sp_hi σ k).2 = 0 := by
  intro k
  induction k with
  | zero => intro _; exact ⟨fun j _ _ => by rw [show sp_hA σ (nI 0) = σ from sp_hA_0]; rfl, rfl⟩
  | succ k ih =>
    intro hk
    obtain ⟨i1, i2⟩ := ih (by omega)
    have e : sp_hA (sp_hA σ (nI k)) 1 = sp_hA σ (nI (k + 1)) := by rw [sp_hA_t, nI_1]
    have hb := sp_bw_e3 (sp_hA_e3 (x := 1) i1) 4
    rw [e, sp_bw_no 4 (fun f hf l hl => sp_noW ok hf hl (hs f hf l hl) (by omega) hk hs5)] at hb
    refine ⟨sp_e3_t sp_ho_e3 hb.1, ?_⟩
    show (sp_hi σ k).2 + (sp_hq (sp_hi σ k).1).2 = 0
    rw [i2, show (sp_hq (sp_hi σ k).1).2 = 0 from hb.2]
theorem sp_run2 (ok : sp_ok σ) (hs : ∀ f, f < 4 → ∀ l, l < 15 → sp_ge s (sp_hu σ f l)) (hs1 : 1 ≤ s) (hs5 : s ≤ 500) : sp_e3 (sp_hi σ s).1 (sp_bw (sp_hA σ (nI s)) 4).1 ∧ (sp_hi σ s).2 = (sp_bw (sp_hA σ (nI s)) 4).2 := by
  obtain ⟨k, rfl⟩ : ∃ k, s = k + 1 := ⟨s - 1, by omega⟩
  obtain ⟨i1, i2⟩ := sp_run ok hs hs5 k (by omega)
  have e : sp_hA (sp_hA σ (nI k)) 1 = sp_hA σ (nI (k + 1)) := by rw [sp_hA_t, nI_1]
  have hb := sp_bw_e3 (sp_hA_e3 (x := 1) i1) 4
  rw [e] at hb
  refine ⟨sp_e3_t sp_ho_e3 hb.1, ?_⟩
  show (sp_hi σ k).2 + (sp_hq (sp_hi σ k).1).2 = _
  rw [i2, Nat.zero_add]
  exact hb.2
end SM
