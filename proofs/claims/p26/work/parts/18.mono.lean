/-! ===== what is made is never taken away ===== -/
def mm_hle (h h' : mm_Hp) : Prop := mm_c h ≤ mm_c h' ∧ mm_s h ≤ mm_s h' ∧ mm_n h ≤ mm_n h'
theorem mm_hle.rf (h : mm_Hp) : mm_hle h h := ⟨Nat.le_refl _, Nat.le_refl _, Nat.le_refl _⟩
theorem mm_hle.tr {a b c : mm_Hp} (h1 : mm_hle a b) (h2 : mm_hle b c) : mm_hle a c := ⟨Nat.le_trans h1.1 h2.1, Nat.le_trans h1.2.1 h2.2.1, Nat.le_trans h1.2.2 h2.2.2⟩
theorem mm_hle_al (h : mm_Hp) (k len w : Nat) : mm_hle h (mm_al h k len w) := ⟨Nat.le_succ _, Nat.le_add_right _ _, Nat.le_succ _⟩
theorem mm_hle_ex (h : mm_Hp) : mm_hle h (mm_ex h) := ⟨Nat.le_succ _, Nat.le_add_right _ _, Nat.le_refl _⟩
set_option maxHeartbeats 8000000 in
theorem mm_stp_le {e0 : mm_En} {ls st : List Value} {h : mm_Hp} {z : mm_St} (hs : mm_stp e0 ls st h = some z) : mm_hle h z.2.2.2.1 := by
  obtain ⟨ins, np, v, aux⟩ := e0
  cases ins <;> simp only [mm_stp, mm_ldI, mm_ldL, mm_ldD, mm_ldA, mm_stI, mm_stA, mm_stL, mm_stD, mm_inc, mm_b2, mm_d2, mm_l2, mm_f2, mm_lsh, mm_lcm, mm_dcm, mm_i2l, mm_i2d, mm_i2c, mm_d2l, mm_dup, mm_dup2, mm_pop, mm_gf, mm_pf, mm_ial, mm_cal, mm_lal, mm_aal, mm_ias, mm_cas, mm_las, mm_aas, mm_alen, mm_nar, mm_new, mm_inv, Bool.cond_eq_ite] at hs <;>
    (repeat' split at hs) <;> first
    | (cases hs; done)
    | (cases hs; exact mm_hle.rf h)
    | (cases hs; exact ⟨Nat.le_refl _, Nat.le_refl _, Nat.le_refl _⟩)
    | (cases hs; exact mm_hle_al _ _ _ _)
theorem mm_or {c X Y Z : Prop} (h : (c → X) ∧ (¬ c → Y)) (a : X → Z) (b : Y → Z) : Z := (Classical.em c).elim (fun q => a (h.1 q)) (fun q => b (h.2 q))
theorem mm_Rn_le2 : ∀ (n mi pc : Nat) (ls st : List Value) (h : mm_Hp) (r : mm_Res), mm_Rn n mi pc ls st h r → mm_hle h r.2 := by
  intro n
  induction n with
  | zero => intro _ _ _ _ _ _ x; exact x.elim
  | succ n ih =>
    intro mi pc ls st h r x
    have x' : (match mm_code mi pc with | none => False | some e => mm_act (mm_Rn n) mi e ls st h r) := x
    split at x'
    · exact x'.elim
    · rename_i e0 he
      have hseq : mm_seq (mm_Rn n) mi e0 ls st h r → mm_hle h r.2 := by
        intro y
        unfold mm_seq at y
        split at y
        · rename_i hz
          exact (mm_stp_le hz).tr (ih _ _ _ _ _ _ y.2)
        · exact y.elim
      have hcal : ∀ np ck mj na L ci, mm_call (mm_Rn n) mi np ck mj na L ci ls st h r → mm_hle h r.2 := by
        intro np ck mj na L ci y
        obtain ⟨_, _, _, _, r', b1, _, b3⟩ := y
        rcases b3 with ⟨_, c2⟩ | ⟨q, _, _, _, c3⟩
        · exact (ih _ _ _ _ _ _ b1).tr (ih _ _ _ _ _ _ c2)
        · exact (ih _ _ _ _ _ _ b1).tr (ih _ _ _ _ _ _ c3)
      have hcl9 : mm_cl9 (mm_Rn n) mi e0 ls st h r → mm_hle h r.2 := by
        intro y
        unfold mm_cl9 at y
        split at y
        · split at y
          · exact hseq y
          · exact hseq y
          · exact hseq y
          · exact hcal _ _ _ _ _ _ y
        · exact y.elim
      obtain ⟨ins, np, v, aux⟩ := e0
      cases ins <;> simp only [mm_act] at x' <;> first
        | exact hseq x'
        | exact hcl9 x'
        | (split at x'
           · first
             | (rw [x']; exact mm_hle.rf h)
             | (rw [x'.1]; exact mm_hle.rf h)
             | (rw [x'.1]; exact mm_hle_ex h)
             | exact ih _ _ _ _ _ _ x'
             | exact mm_or x' (ih _ _ _ _ _ _) (ih _ _ _ _ _ _)
           all_goals first
             | exact x'.elim
             | exact hseq x'
             | (rw [x'.1]; exact mm_hle.rf h))
/-- an answer is no reference -/
theorem mm_Rn_nr : ∀ (n mi pc : Nat) (ls st : List Value) (h : mm_Hp) (r : mm_Res), mm_Rn n mi pc ls st h r → ∀ v, r.1.2 = some v → ∀ ad, mm_tr ad v = v := by
  intro n
  induction n with
  | zero => intro _ _ _ _ _ _ x; exact x.elim
  | succ n ih =>
    intro mi pc ls st h r x
    have x' : (match mm_code mi pc with | none => False | some e => mm_act (mm_Rn n) mi e ls st h r) := x
    split at x'
    · exact x'.elim
    · rename_i e0 he
      have hseq : mm_seq (mm_Rn n) mi e0 ls st h r → ∀ v, r.1.2 = some v → ∀ ad, mm_tr ad v = v := by
        intro y
        unfold mm_seq at y
        split at y
        · exact ih _ _ _ _ _ _ y.2
        · exact y.elim
      have hcal : ∀ np ck mj na L ci, mm_call (mm_Rn n) mi np ck mj na L ci ls st h r → ∀ v, r.1.2 = some v → ∀ ad, mm_tr ad v = v := by
        intro np ck mj na L ci y
        obtain ⟨_, _, _, _, r', b1, _, b3⟩ := y
        rcases b3 with ⟨_, c2⟩ | ⟨q, _, _, _, c3⟩
        · exact ih _ _ _ _ _ _ c2
        · exact ih _ _ _ _ _ _ c3
      have hcl9 : mm_cl9 (mm_Rn n) mi e0 ls st h r → ∀ v, r.1.2 = some v → ∀ ad, mm_tr ad v = v := by
        intro y
        unfold mm_cl9 at y
        split at y
        · split at y
          · exact hseq y
          · exact hseq y
          · exact hseq y
          · exact hcal _ _ _ _ _ _ y
        · exact y.elim
      obtain ⟨ins, np, v, aux⟩ := e0
      cases ins <;> simp only [mm_act] at x' <;> first
        | exact hseq x'
        | exact hcl9 x'
        | (split at x'
           · first
             | (rw [x']; intro v hv ad; cases hv; done)
             | (rw [x']; intro v hv ad; cases hv; rfl)
             | (rw [x'.1]; intro v hv ad; cases hv; done)
             | (rw [x'.1]; intro v hv ad; cases hv; rfl)
             | exact ih _ _ _ _ _ _ x'
             | exact mm_or x' (ih _ _ _ _ _ _) (ih _ _ _ _ _ _)
           all_goals first
             | exact x'.elim
             | exact hseq x'
             | (rw [x'.1]; intro v hv ad; cases hv; rfl))
