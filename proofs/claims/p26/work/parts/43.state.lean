/-! the reference's history and changes; the class's tables laid anew -/
section SM
variable {g : mm_Gg} {I : mm_Is} {x y z : Int32} {l d k t u f w n b o m : Nat} {σ τ : sp_St} {ps : Nat → sp_St} {tx : Nat → Int32}
/-- all but the four tables stands -/
def sp_ft (I I' : mm_Is) : Prop := ∀ p, ¬ (45 ≤ p ∧ p < 61) → I' p = I p
theorem sp_ft_3 {I' : mm_Is} (hf : f < 4) (h : sp_f3 (45 + 4 * f) I I') : sp_ft I I' := fun p hp => h p (by omega) (by omega) (by omega)
theorem c_chooseAll (h : sp_bd I 1 σ) : ∃ I', mm_M 54 2 [.ref 0] g I none I' ∧ (sp_D I' σ ∧ sp_ft I I') := by
  refine w_MX ?_
  show mm_W 54 0 [.ref 0, .null] [] _ _ _
  generalize hF : mm_EQ _ _ _ = F
  refine w_st rfl rfl rfl trivial ?_
  refine w_st rfl rfl rfl (Nat.le_of_ble_eq_true rfl) ?_
  have K : ∀ f, f ≤ 4 → ∀ I1, (sp_bd I1 1 σ ∧ (∀ e, e < f → sp_tt I1 (45 + 4 * e) (σ (8 + e)) (σ 1)) ∧ sp_ft I I1) → mm_W 54 2 [.ref 0, .int (nI f)] [] g I1 F := by
    refine mm_dn 4 ?_ ?_
    · intro I1 hI
      refine w_st rfl rfl rfl trivial ?_
      refine w_st rfl rfl rfl trivial ?_
      refine w_n_ge (a := 4) (b := 4) rfl (by first | decide | omega) (by first | decide | omega) (by first | rfl | assumption | (simp only [← nI_add, ← nI_mul]; rfl)) (by first | rfl | assumption | (simp only [← nI_add, ← nI_mul]; rfl)) (fun _ => ?_) (fun c => by exfalso; omega)
      refine w_retv rfl ?_
      exact hF ▸ ⟨rfl, rfl, ⟨⟨hI.1, hI.2.1⟩, hI.2.2⟩⟩
    · intro f hf ih I1 hI
      obtain ⟨I2, hM, h2, h3⟩ := c_chooseTable (g := g) hI.1 hf
      refine w_st rfl rfl rfl trivial ?_
      refine w_st rfl rfl rfl trivial ?_
      refine w_n_ge (a := f) (b := 4) rfl (by first | decide | omega) (by first | decide | omega) (by first | rfl | assumption | (simp only [← nI_add, ← nI_mul]; rfl)) (by first | rfl | assumption | (simp only [← nI_add, ← nI_mul]; rfl)) (fun c => by exfalso; omega) (fun _ => ?_)
      refine w_st rfl rfl rfl trivial ?_
      refine w_st rfl rfl rfl trivial ?_
      refine w_k20 (hM) rfl ⟨rfl, by decide, by decide, by decide, Or.inl ⟨_, rfl⟩⟩ (Nat.le_of_ble_eq_true rfl) (mm_foc rfl) (Nat.le_of_ble_eq_true rfl) ?_  -- calls 53 cX4_chooseTable
      refine w_inc rfl rfl rfl (Nat.le_of_ble_eq_true rfl) (nI_1 _) ?_
      refine w_st rfl rfl rfl trivial ?_
      refine ih I2 ⟨sp_bd_c (fun p hp => ?_) hI.1, fun e he => ?_, fun p hp => ?_⟩
      · exact sp_ft_3 hf h3 p (by unfold sp_in5 at hp; omega)
      · by_cases c : e = f
        · subst c; exact h2
        · intro d hd
          have := hI.2.1 e (by omega) d hd
          unfold sp_te at this ⊢
          rw [h3 (45 + 4 * e + 1 + 0) (by omega) (by omega) (by omega), h3 (45 + 4 * e + 1 + 1) (by omega) (by omega) (by omega), h3 (45 + 4 * e + 1 + 2) (by omega) (by omega) (by omega)]
          exact this
      · rw [sp_ft_3 hf h3 p hp]; exact hI.2.2 p hp
  exact K 0 (by decide) I ⟨h, fun e he => absurd he (Nat.not_lt_zero _), fun _ _ => rfl⟩
end SM
