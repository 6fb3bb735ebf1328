/-! what the reference tells of a state -/
/-- a state that can be -/
def sp_ok (σ : sp_St) : Prop := (∀ f, f < 4 → σ (4 + f) = -1 ∨ ∃ d, d < 10 ∧ σ (4 + f) = nI d) ∧ (∀ f, f < 4 → sp_b15 (σ (8 + f))) ∧ (∃ s, 1 ≤ s ∧ s ≤ 5 ∧ σ 1 = nI s) ∧ (∃ l, l ≤ 99 ∧ σ 2 = nI l) ∧ ∃ n, n ≤ 99999 ∧ σ 0 = nI n ∧ ∀ j, j < 60 → ∃ h, h ≤ n ∧ σ (12 + j) = nI h
def sp_L (I : mm_Is) (p : Nat) (r : Nat → Int32) : Prop := ∀ d, d < 10 → I p d = r d
noncomputable def sp_mr (r : Nat → Int32) : Nat → Int32
  | 0 => 0
  | j + 1 => sp_mr r j ||| sp_if (r (9 - j) = -1) (0 : Int32) ((1 : Int32) <<< (nI (9 - j) &&& 31))
theorem sp_mr_mk (r : Nat → Int32) : ∀ n, n ≤ 10 → sp_mk r n ||| sp_mr r (10 - n) = sp_mr r 10 := by
  intro n
  induction n with
  | zero => intro _; exact Int32.zero_or
  | succ n ih =>
    intro hn
    rw [← ih (by omega)]
    obtain ⟨j, hj⟩ : ∃ j, 10 - n = j + 1 := ⟨9 - n, by omega⟩
    have e : sp_mr r (10 - n) = sp_mr r (10 - (n + 1)) ||| sp_if (r n = -1) (0 : Int32) ((1 : Int32) <<< (nI n &&& 31)) := by
      rw [hj]
      show sp_mr r j ||| sp_if (r (9 - j) = -1) _ ((1 : Int32) <<< (nI (9 - j) &&& 31)) = _
      rw [show 9 - j = n from by omega, show 10 - (n + 1) = j from by omega]
    rw [e]
    show (sp_mk r n ||| sp_if (r n = -1) (0 : Int32) ((1 : Int32) <<< (nI n &&& 31))) ||| _ = _
    rw [Int32.or_assoc, Int32.or_comm (sp_if _ _ _)]
theorem sp_mr_10 (r : Nat → Int32) : sp_mr r 10 = sp_mk r 10 := by
  rw [← sp_mr_mk r 10 (Nat.le_refl _)]
  exact Int32.or_zero
noncomputable def sp_dk (σ : sp_St) : Nat → Nat
  | 0 => 0
  | n + 1 => sp_dk σ n + sp_if (¬ σ (4 + n) = -1 ∧ ¬ sp_vis σ n) 1 0
theorem sp_vis_ne {σ : sp_St} {f : Nat} (h : sp_vis σ f) : ¬ σ (4 + f) = -1 := by
  obtain ⟨d, hd, h1, _⟩ := h
  rw [h1]; exact nI_ne1 (by omega)
theorem sp_dk_wd (σ : sp_St) (n : Nat) : sp_wd σ n = sp_fs σ n + sp_dk σ n := by
  induction n with
  | zero => rfl
  | succ n ih =>
    show sp_wd σ n + sp_if _ 0 1 = (sp_fs σ n + sp_if _ 1 0) + (sp_dk σ n + sp_if _ 1 0)
    by_cases c : σ (4 + n) = -1
    · have v : ¬ sp_vis σ n := fun z => sp_vis_ne z c
      rw [sp_if_t c, sp_if_f v, sp_if_f (fun z => z.1 c)]; omega
    · by_cases v : sp_vis σ n
      · rw [sp_if_f c, sp_if_t v, sp_if_f (fun z => z.2 v)]; omega
      · rw [sp_if_f c, sp_if_f v, sp_if_t ⟨c, v⟩]; omega
theorem sp_nr_k {r : Nat → Int32} {b L : Int32} (h : ∀ d, d < 10 → r d = -1 ∨ ∃ j, j < 3 ∧ r d = nI j) (hL : sp_b15 L) : ∀ d, d ≤ 10 → ∃ k, k ≤ 16 ∧ (sp_nr r b L d).2 = nI k := by
  intro d
  induction d with
  | zero => intro _; exact ⟨16, Nat.le_refl _, rfl⟩
  | succ d ih =>
    intro hd
    obtain ⟨k, hk, e⟩ := ih (by omega)
    have e1 : sp_nr r b L (d + 1) = sp_if (r d = -1) (sp_nr r b L d) (sp_if (sp_pop (L ^^^ sp_sh b d (r d)) < (sp_nr r b L d).2) (nI d, sp_pop (L ^^^ sp_sh b d (r d))) (sp_if (sp_pop (L ^^^ sp_sh b d (r d)) = (sp_nr r b L d).2) (-1, (sp_nr r b L d).2) (sp_nr r b L d))) := rfl
    by_cases c : r d = -1
    · rw [e1, sp_if_t c]; exact ⟨k, hk, e⟩
    · rw [e1, sp_if_f c]
      by_cases c2 : sp_pop (L ^^^ sp_sh b d (r d)) < (sp_nr r b L d).2
      · rw [sp_if_t c2]
        obtain ⟨j, hj, hr⟩ := (h d (by omega)).resolve_left c
        rw [hr]
        obtain ⟨i, hi, e2⟩ := sp_pop_k (sp_b15_xor hL (sp_b15_sh (b := b) (d := d) (by omega) hj))
        exact ⟨i, by omega, e2⟩
      · rw [sp_if_f c2]
        by_cases c3 : sp_pop (L ^^^ sp_sh b d (r d)) = (sp_nr r b L d).2
        · rw [sp_if_t c3]; exact ⟨k, hk, e⟩
        · rw [sp_if_f c3]; exact ⟨k, hk, e⟩
section SM
variable {g : mm_Gg} {I : mm_Is} {x y z : Int32} {l d k t u f w n : Nat} {σ : sp_St}
theorem sp_ns_s (hf : f < 4) (a : Int32) : sp_ns σ (4 - f) a = sp_if (sp_vis σ f) (sp_ns σ (4 - (f + 1)) (sp_if (a = -1) (σ (4 + f)) (10 * a + σ (4 + f)))) (sp_if (¬ σ (4 + f) = -1 ∨ ¬ a = -1) (-1) (sp_ns σ (4 - (f + 1)) a)) := by
  obtain ⟨i, hi⟩ : ∃ i, 4 - f = i + 1 := ⟨3 - f, by omega⟩
  have h1 : 3 - i = f := by omega
  have h2 : 4 - (f + 1) = i := by omega
  rw [hi, h2]
  show sp_if (sp_vis σ (3 - i)) _ _ = _
  rw [h1]
end SM
