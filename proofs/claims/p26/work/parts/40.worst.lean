/-! the reference: worst lamp, next burning, and its public looks -/
theorem sp_bit_tw {l : Nat} (h : l < 15) : (sp_bit l).toBitVec = BitVec.twoPow 32 (14 - l) := by
  revert l
  decide +kernel
theorem sp_tw0 {i : Nat} (h : i < 15) : ¬ BitVec.twoPow 32 i = 0#32 := by
  revert i
  decide +kernel
theorem sp_and_bit {x : Int32} {l : Nat} (h : l < 15) : x &&& sp_bit l = 0 ↔ x.toBitVec.getLsbD (14 - l) = false := by
  rw [← Int32.toBitVec_inj, Int32.toBitVec_and, sp_bit_tw h, BitVec.and_twoPow]
  show (if _ then _ else _) = 0#32 ↔ _
  cases c : x.toBitVec.getLsbD (14 - l)
  · simp
  · simp only [if_true]
    exact ⟨fun z => absurd z (sp_tw0 (by omega)), fun z => by cases z⟩
theorem sp_not_bit {b : Int32} {l : Nat} (h : l < 15) : (b ^^^ (-1)) &&& sp_bit l = 0 ↔ ¬ b &&& sp_bit l = 0 := by
  rw [sp_and_bit h, sp_and_bit h, Int32.toBitVec_xor, show (-1 : Int32).toBitVec = BitVec.allOnes 32 from by decide]
  simp only [BitVec.getLsbD_xor, BitVec.getLsbD_allOnes]
  rw [show decide (14 - l < 32) = true from by simp; omega]
  cases b.toBitVec.getLsbD (14 - l) <;> simp
theorem sp_and_bit2 {x y : Int32} {l : Nat} (h : l < 15) : x &&& y &&& sp_bit l = 0 ↔ (x &&& sp_bit l = 0 ∨ y &&& sp_bit l = 0) := by
  rw [sp_and_bit h, sp_and_bit h, sp_and_bit h, Int32.toBitVec_and, BitVec.getLsbD_and, Bool.and_eq_false_iff]
theorem sp_lit_nb {σ : sp_St} {f l : Nat} (hl : l < 15) (h : ¬ sp_lit σ f &&& sp_bit l = 0) : σ (8 + f) &&& sp_bit l = 0 := by
  unfold sp_lit at h
  by_cases c : sp_vis σ f
  · rw [sp_if_t c] at h
    unfold sp_sh at h
    rw [sp_and_bit2 hl] at h
    exact Classical.byContradiction (fun z => h (Or.inr ((sp_not_bit hl).2 z)))
  · rw [sp_if_f c] at h
    exact absurd Int32.zero_and h
theorem nI_sub_lt {a b : Nat} (h : a ≤ b) (hb : b < 2 ^ 30) : nI a - nI b < 1 := by
  rw [Int32.lt_iff_toInt_lt, Int32.toInt_sub, nI_toInt (by omega), nI_toInt (by omega), show (1 : Int32).toInt = 1 from by decide]
  unfold Int.bmod
  dsimp only
  split <;> omega
section SM
variable {g : mm_Gg} {I : mm_Is} {x y z : Int32} {l d k t u f w n : Nat} {σ : sp_St}
theorem sp_n2_0 {a : Int32} (h : σ 2 = 0) (f n : Nat) : sp_n2 σ f a n = a := by
  induction n with
  | zero => rfl
  | succ n ih =>
    show sp_n1 (sp_n2 σ f a n) (sp_hu σ f n) = a
    rw [ih, show sp_hu σ f n = -1 from sp_if_t (Or.inl h) _ _]
    exact sp_if_f (fun z => z.1 rfl) _ _
theorem sp_nb_0 (h : σ 2 = 0) (n : Nat) : sp_nb σ n = -1 := by
  induction n with
  | zero => rfl
  | succ n ih =>
    show sp_n2 σ n (sp_nb σ n) 15 = -1
    rw [sp_n2_0 h, ih]
theorem sp_n1_no (a : Int32) : sp_n1 a (-1) = a := sp_if_f (fun z => z.1 rfl) _ _
end SM
