/-! the constructors: what they lay -/
def sp_s0 : sp_St := fun j => bif Nat.beq j 1 then 2 else bif Nat.ble 4 j && Nat.ble j 7 then -1 else 0
def ev_D0 : List ev_C := [((4, 5), [0, 0, 0, 0, 0], [0, 0, 0, 0, 0])]
def ev_rB : Option ev_S := ev 0 83 2000 26 0 (mm_ent 2 [.ref 0]) [] ev_D0 5
abbrev ev_i (d : List ev_C) (p k : Nat) : Int32 := (ev_g d p).2.2.getD k 0
abbrev ev_pB (d : List ev_C) (w : Nat) : Prop :=
  d.length = 61 ∧ w = 777 ∧ (∀ i, i < 61 → (ev_g d i).1 = mm_K0 i ∧ (ev_g d i).2.1.length ≤ 14 ∧ ∀ k, k < 14 → (ev_g d i).2.1.getD k 0 = mm_R0 i k) ∧
  (∀ f, f < 4 → ev_i d 2 f = sp_s0 (4 + f)) ∧ (∀ f, f < 4 → ev_i d 3 f = sp_s0 (8 + f)) ∧ (∀ j, j < 60 → ev_i d 4 j = sp_s0 (12 + j)) ∧ (∀ k, k < 2 → ev_i d 5 k = sp_s0 (1 + k)) ∧ ev_i d 1 4 = sp_s0 0 ∧ ev_i d 1 5 = sp_s0 3 ∧ ev_i d 13 1 = 0 ∧ ev_i d 13 2 = 0 ∧ ev_i d 11 1 = 0
def ev_cB (o : Option ev_S) : Bool := match o with
  | some (83, _, [.ref 0], d, w) => decide (ev_pB d w)
  | _ => false
set_option maxRecDepth 100000 in
theorem ev_cB_t : ev_cB ev_rB = true := by decide +kernel
theorem ev_B : ∃ ls d w, ev_rB = some (83, ls, [.ref 0], d, w) ∧ ev_pB d w := by
  have h := ev_cB_t
  generalize ev_rB = o at h
  unfold ev_cB at h
  split at h
  · exact ⟨_, _, _, rfl, of_decide_eq_true h⟩
  · cases h
theorem ev_A1 : ev 0 4 5 77 0 (mm_ent 13 [.ref 1001]) [] [] 0 = some (4, mm_ent 13 [.ref 1001], [.ref 0, .ref 0], ev_D0, 5) := rfl
