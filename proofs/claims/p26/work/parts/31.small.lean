/-! small methods of both sides -/
def sp_us (x k : Int32) : Int32 := (x.toUInt32 >>> (k.toUInt32 &&& Int32.toUInt32 31)).toInt32
def sp_p1 (x : Int32) : Int32 := x - (sp_us x 1 &&& 1431655765)
def sp_p2 (x : Int32) : Int32 := (x &&& 858993459) + (sp_us x 2 &&& 858993459)
def sp_p3 (x : Int32) : Int32 := (x + sp_us x 4) &&& 252645135
def sp_p4 (x : Int32) : Int32 := x + sp_us x 8
def sp_p5 (x : Int32) : Int32 := x + sp_us x 16
/-- how many lamps -/
def sp_pop (x : Int32) : Int32 := sp_p5 (sp_p4 (sp_p3 (sp_p2 (sp_p1 x)))) &&& 63
/-- x is one of the n least numbers -/
def sp_lt (n : Nat) (x : Int32) : Prop := ∃ k, k < n ∧ x = nI k
theorem sp_lt_i {n : Nat} {x y : Int32} (hn : n < 2 ^ 31) (hy : y = nI n) (h0 : ¬ x < 0) (h1 : ¬ y ≤ x) : sp_lt n x := by
  obtain ⟨j, hj, rfl⟩ := nI_of h0
  subst hy
  refine ⟨j, ?_, rfl⟩
  have := not_congr (nI_leI hn hj) |>.1 h1
  omega
theorem sp_lt_n0 {n : Nat} {x : Int32} (hn : n ≤ 2 ^ 31) (h : x < 0) : ¬ sp_lt n x := by
  rintro ⟨k, hk, rfl⟩
  exact nI_pos (by omega) h
theorem sp_lt_n1 {n : Nat} {x y : Int32} (hn : n < 2 ^ 31) (hy : y = nI n) (h : y ≤ x) : ¬ sp_lt n x := by
  rintro ⟨k, hk, rfl⟩
  subst hy
  have := (nI_leI hn (by omega)).1 h
  omega
theorem sp_le_i {n : Nat} {x y : Int32} (hn : n + 1 < 2 ^ 31) (hy : y = nI n) (h0 : 0 ≤ x) (h1 : x ≤ y) : sp_lt (n + 1) x := by
  have h0' : ¬ x < 0 := by
    intro z
    have := Int32.lt_iff_toInt_lt.1 z
    have := Int32.le_iff_toInt_le.1 h0
    omega
  obtain ⟨j, hj, rfl⟩ := nI_of h0'
  subst hy
  refine ⟨j, ?_, rfl⟩
  have := (nI_leI hj (by omega)).1 h1
  omega
theorem sp_le_n {n : Nat} {x y : Int32} (hn : n + 1 < 2 ^ 31) (hy : y = nI n) (h : sp_lt (n + 1) x) : 0 ≤ x ∧ x ≤ y := by
  obtain ⟨k, hk, rfl⟩ := h
  subst hy
  exact ⟨nI_le (a := 0) (Nat.zero_le _) (by omega), nI_le (by omega) (by omega)⟩
theorem mm_bi_c {p q : Prop} (h : p ↔ q) : mm_bi p = mm_bi q := by
  by_cases hp : p
  · rw [mm_bi_t hp, mm_bi_t (h.1 hp)]
  · rw [mm_bi_f hp, mm_bi_f (fun z => hp (h.2 z))]
def sp_bit (l : Nat) : Int32 := (1 : Int32) <<< ((14 - nI l) &&& 31)
section SM
variable {g : mm_Gg} {I : mm_Is} {x y z : Int32} {l d k : Nat}
theorem c_bitCount : mm_M 67 1 [.int x] g I (some (.int (sp_pop x))) I := by
  refine w_M ?_
  show mm_W 67 0 [.int x] [] _ _ _
  generalize hF : mm_EX _ _ _ = F
  refine w_st rfl rfl rfl trivial ?_
  refine w_st rfl rfl rfl trivial ?_
  refine w_st rfl rfl rfl trivial ?_
  refine w_st rfl rfl rfl trivial ?_
  refine w_st rfl rfl rfl trivial ?_
  refine w_iand rfl ?_
  refine w_isub rfl ?_
  refine w_st rfl rfl rfl (Nat.le_of_ble_eq_true rfl) ?_
  refine w_st rfl rfl rfl trivial ?_
  refine w_st rfl rfl rfl trivial ?_
  refine w_iand rfl ?_
  refine w_st rfl rfl rfl trivial ?_
  refine w_st rfl rfl rfl trivial ?_
  refine w_st rfl rfl rfl trivial ?_
  refine w_st rfl rfl rfl trivial ?_
  refine w_iand rfl ?_
  refine w_iadd rfl ?_
  refine w_st rfl rfl rfl (Nat.le_of_ble_eq_true rfl) ?_
  refine w_st rfl rfl rfl trivial ?_
  refine w_st rfl rfl rfl trivial ?_
  refine w_st rfl rfl rfl trivial ?_
  refine w_st rfl rfl rfl trivial ?_
  refine w_iadd rfl ?_
  refine w_st rfl rfl rfl trivial ?_
  refine w_iand rfl ?_
  refine w_st rfl rfl rfl (Nat.le_of_ble_eq_true rfl) ?_
  refine w_st rfl rfl rfl trivial ?_
  refine w_st rfl rfl rfl trivial ?_
  refine w_st rfl rfl rfl trivial ?_
  refine w_st rfl rfl rfl trivial ?_
  refine w_iadd rfl ?_
  refine w_st rfl rfl rfl (Nat.le_of_ble_eq_true rfl) ?_
  refine w_st rfl rfl rfl trivial ?_
  refine w_st rfl rfl rfl trivial ?_
  refine w_st rfl rfl rfl trivial ?_
  refine w_st rfl rfl rfl trivial ?_
  refine w_iadd rfl ?_
  refine w_st rfl rfl rfl (Nat.le_of_ble_eq_true rfl) ?_
  refine w_st rfl rfl rfl trivial ?_
  refine w_st rfl rfl rfl trivial ?_
  refine w_iand rfl ?_
  refine w_reti rfl ?_
  exact hF ▸ mm_EX_i (rfl)
theorem c_isField : mm_M 44 1 [.int x] g I (some (.int (mm_bi (sp_lt 4 x)))) I := by
  refine w_M ?_
  show mm_W 44 0 [.int x] [] _ _ _
  generalize hF : mm_EX _ _ _ = F
  refine w_st rfl rfl rfl trivial ?_
  refine w_z_lt rfl (fun c1 => ?_) (fun c1 => ?_)
  · skip
    refine w_st rfl rfl rfl trivial ?_
    refine w_retz rfl (by first | exact Or.inl rfl | exact Or.inr rfl | exact mm_bi_01 _ | assumption) ?_
    exact hF ▸ mm_EX_i ((mm_bi_f (sp_lt_n0 (by decide) c1)).symm)
  · skip
    refine w_st rfl rfl rfl trivial ?_
    refine w_st rfl rfl rfl trivial ?_
    refine w_v_ge rfl (fun c2 => ?_) (fun c2 => ?_)
    · skip
      refine w_st rfl rfl rfl trivial ?_
      refine w_retz rfl (by first | exact Or.inl rfl | exact Or.inr rfl | exact mm_bi_01 _ | assumption) ?_
      exact hF ▸ mm_EX_i ((mm_bi_f (sp_lt_n1 (by decide) rfl c2)).symm)
    · skip
      refine w_st rfl rfl rfl trivial ?_
      refine w_st rfl rfl rfl trivial ?_
      refine w_retz rfl (by first | exact Or.inl rfl | exact Or.inr rfl | exact mm_bi_01 _ | assumption) ?_
      exact hF ▸ mm_EX_i ((mm_bi_t (sp_lt_i (by decide) rfl c1 c2)).symm)
theorem c_isLamp : mm_M 45 1 [.int x] g I (some (.int (mm_bi (sp_lt 15 x)))) I := by
  refine w_M ?_
  show mm_W 45 0 [.int x] [] _ _ _
  generalize hF : mm_EX _ _ _ = F
  refine w_st rfl rfl rfl trivial ?_
  refine w_z_lt rfl (fun c1 => ?_) (fun c1 => ?_)
  · skip
    refine w_st rfl rfl rfl trivial ?_
    refine w_retz rfl (by first | exact Or.inl rfl | exact Or.inr rfl | exact mm_bi_01 _ | assumption) ?_
    exact hF ▸ mm_EX_i ((mm_bi_f (sp_lt_n0 (by decide) c1)).symm)
  · skip
    refine w_st rfl rfl rfl trivial ?_
    refine w_st rfl rfl rfl trivial ?_
    refine w_v_ge rfl (fun c2 => ?_) (fun c2 => ?_)
    · skip
      refine w_st rfl rfl rfl trivial ?_
      refine w_retz rfl (by first | exact Or.inl rfl | exact Or.inr rfl | exact mm_bi_01 _ | assumption) ?_
      exact hF ▸ mm_EX_i ((mm_bi_f (sp_lt_n1 (by decide) rfl c2)).symm)
    · skip
      refine w_st rfl rfl rfl trivial ?_
      refine w_st rfl rfl rfl trivial ?_
      refine w_retz rfl (by first | exact Or.inl rfl | exact Or.inr rfl | exact mm_bi_01 _ | assumption) ?_
      exact hF ▸ mm_EX_i ((mm_bi_t (sp_lt_i (by decide) rfl c1 c2)).symm)
theorem c_isDigit : mm_M 46 1 [.int x] g I (some (.int (mm_bi (sp_lt 10 x)))) I := by
  refine w_M ?_
  show mm_W 46 0 [.int x] [] _ _ _
  generalize hF : mm_EX _ _ _ = F
  refine w_st rfl rfl rfl trivial ?_
  refine w_z_lt rfl (fun c1 => ?_) (fun c1 => ?_)
  · skip
    refine w_st rfl rfl rfl trivial ?_
    refine w_retz rfl (by first | exact Or.inl rfl | exact Or.inr rfl | exact mm_bi_01 _ | assumption) ?_
    exact hF ▸ mm_EX_i ((mm_bi_f (sp_lt_n0 (by decide) c1)).symm)
  · skip
    refine w_st rfl rfl rfl trivial ?_
    refine w_st rfl rfl rfl trivial ?_
    refine w_v_ge rfl (fun c2 => ?_) (fun c2 => ?_)
    · skip
      refine w_st rfl rfl rfl trivial ?_
      refine w_retz rfl (by first | exact Or.inl rfl | exact Or.inr rfl | exact mm_bi_01 _ | assumption) ?_
      exact hF ▸ mm_EX_i ((mm_bi_f (sp_lt_n1 (by decide) rfl c2)).symm)
    · skip
      refine w_st rfl rfl rfl trivial ?_
      refine w_st rfl rfl rfl trivial ?_
      refine w_retz rfl (by first | exact Or.inl rfl | exact Or.inr rfl | exact mm_bi_01 _ | assumption) ?_
      exact hF ▸ mm_EX_i ((mm_bi_t (sp_lt_i (by decide) rfl c1 c2)).symm)
theorem c_isSetting : mm_M 47 1 [.int x] g I (some (.int (mm_bi (sp_lt 2 x)))) I := by
  refine w_M ?_
  show mm_W 47 0 [.int x] [] _ _ _
  generalize hF : mm_EX _ _ _ = F
  refine w_st rfl rfl rfl trivial ?_
  refine w_z_lt rfl (fun c1 => ?_) (fun c1 => ?_)
  · skip
    refine w_st rfl rfl rfl trivial ?_
    refine w_retz rfl (by first | exact Or.inl rfl | exact Or.inr rfl | exact mm_bi_01 _ | assumption) ?_
    exact hF ▸ mm_EX_i ((mm_bi_f (sp_lt_n0 (by decide) c1)).symm)
  · skip
    refine w_st rfl rfl rfl trivial ?_
    refine w_st rfl rfl rfl trivial ?_
    refine w_v_ge rfl (fun c2 => ?_) (fun c2 => ?_)
    · skip
      refine w_st rfl rfl rfl trivial ?_
      refine w_retz rfl (by first | exact Or.inl rfl | exact Or.inr rfl | exact mm_bi_01 _ | assumption) ?_
      exact hF ▸ mm_EX_i ((mm_bi_f (sp_lt_n1 (by decide) rfl c2)).symm)
    · skip
      refine w_st rfl rfl rfl trivial ?_
      refine w_st rfl rfl rfl trivial ?_
      refine w_retz rfl (by first | exact Or.inl rfl | exact Or.inr rfl | exact mm_bi_01 _ | assumption) ?_
      exact hF ▸ mm_EX_i ((mm_bi_t (sp_lt_i (by decide) rfl c1 c2)).symm)
theorem c_maskOf : mm_M 49 1 [.int (nI l)] g I (some (.int (sp_bit l))) I := by
  refine w_M ?_
  show mm_W 49 0 [.int (nI l)] [] _ _ _
  generalize hF : mm_EX _ _ _ = F
  refine w_st rfl rfl rfl trivial ?_
  refine w_st rfl rfl rfl trivial ?_
  refine w_st rfl rfl rfl trivial ?_
  refine w_isub rfl ?_
  refine w_ishl rfl ?_
  refine w_reti rfl ?_
  exact hF ▸ mm_EX_i (rfl)
theorem c_has : mm_M 50 2 [.int x, .int (nI l)] g I (some (.int (mm_bi (¬ x &&& sp_bit l = 0)))) I := by
  refine w_M ?_
  show mm_W 50 0 [.int x, .int (nI l)] [] _ _ _
  generalize hF : mm_EX _ _ _ = F
  refine w_st rfl rfl rfl trivial ?_
  refine w_st rfl rfl rfl trivial ?_
  refine w_k11 (c_maskOf) rfl ⟨rfl, by decide, by decide, by decide, Or.inr (Or.inl ⟨_, rfl⟩)⟩ (Nat.le_of_ble_eq_true rfl) trivial (Nat.le_of_ble_eq_true rfl) ?_  -- calls 49 cX4_maskOf
  refine w_iand rfl ?_
  refine w_z_eq rfl (fun c => ?_) (fun c => ?_)
  · skip
    refine w_st rfl rfl rfl trivial ?_
    refine w_retz rfl (by first | exact Or.inl rfl | exact Or.inr rfl | exact mm_bi_01 _ | assumption) ?_
    exact hF ▸ mm_EX_i ((mm_bi_f (fun z => z c)).symm)
  · skip
    refine w_st rfl rfl rfl trivial ?_
    refine w_st rfl rfl rfl trivial ?_
    refine w_retz rfl (by first | exact Or.inl rfl | exact Or.inr rfl | exact mm_bi_01 _ | assumption) ?_
    exact hF ▸ mm_EX_i ((mm_bi_t c).symm)
theorem c_lampsOf (hd : d < 10) (hk : k < 3) : mm_M 13 2 [.int (nI d), .int (nI k)] g I (some (.int (mm_SHP (3 * d + k)))) I := by
  refine w_M ?_
  show mm_W 13 0 [.int (nI d), .int (nI k)] [] _ _ _
  generalize hF : mm_EX _ _ _ = F
  refine w_st rfl rfl rfl trivial ?_
  refine w_st rfl rfl rfl trivial ?_
  refine w_st rfl rfl rfl trivial ?_
  refine w_imul rfl ?_
  refine w_st rfl rfl rfl trivial ?_
  refine w_iadd rfl ?_
  refine w_sh (3 * d + k) rfl (by first | rfl | assumption | (simp only [← nI_add, ← nI_mul]; rfl)) (by first | decide | omega) ?_
  refine w_reti rfl ?_
  exact hF ▸ mm_EX_i (rfl)
end SM
