/-! the law's helpers -/
section SX5
variable {mi pc np : Nat} {ls st : List Value} {g : mm_Gg} {I : mm_Is} {F : mm_Ph} {v : Value} {a : List Nat}
theorem w_ll {i n : Nat} (k : Nat) {x : Int32} (he : mm_code mi pc = some (.laload, np, v, a)) (ha : mm_fa i 12 n) (hx : x = nI k) (hk : k < n) (K : mm_W mi np ls (.long (g.2.2.1 i k) :: st) g I F) : mm_W mi pc ls (.int x :: .ref i :: st) g I F := by
  subst hx
  have hc : (nI k).toNatClampNeg = k := nI_clamp (by have := ha.2.2; omega)
  refine w_of (fun _ k => mm_step he rfl rfl (mm_fa_ar ha hk) k) (ls' := ls) (g' := g) (I' := I) ?_
  show mm_W mi np ls (.long (g.2.2.1 i (nI k).toNatClampNeg) :: st) g I F
  rw [hc]; exact K
theorem w_lt {i n : Nat} (k : Nat) {j : Int32} {x : Int64} (he : mm_code mi pc = some (.lastore, np, v, a)) (ha : mm_fa i 12 n) (hx : j = nI k) (hk : k < n) (K : mm_W mi np ls st (g.1, g.2.1, va_up g.2.2.1 i (vp_updL (g.2.2.1 i) k x), g.2.2.2) I F) : mm_W mi pc ls (.long x :: .int j :: .ref i :: st) g I F := by
  subst hx
  have hc : (nI k).toNatClampNeg = k := nI_clamp (by have := ha.2.2; omega)
  refine w_of (fun _ k => mm_step he rfl rfl (mm_fa_ar ha hk) k) (ls' := ls) (st' := st) (g' := (g.1, g.2.1, va_up g.2.2.1 i (vp_updL (g.2.2.1 i) (nI k).toNatClampNeg x), g.2.2.2)) (I' := I) ?_
  rw [hc]; exact K
theorem w_sy {cn sn L : Nat} {J : Nat → Nat → Int64} {xs : Nat → Int32} (k : Nat) {x : Int32} (he : mm_code mi pc = some (.iaload, np, v, [1])) (hx : x = nI k) (hk : k < L) (hL : L ≤ 2048) (K : mm_W mi np ls (.int (xs k) :: st) (cn, sn, J, L, xs) I F) : mm_W mi pc ls (.int x :: .ref 1001 :: st) (cn, sn, J, L, xs) I F :=
  w_sx k he hx hk (show L < 2 ^ 31 by omega) K
end SX5
theorem nI_4 (a : Nat) : nI a + 4 = nI (a + 4) := nI_add a 4
def mm_EG (k : Int32) (g1 : mm_Gg) (I1 : mm_Is) : mm_Ph := fun q g' I' => q = (0, some (.int k)) ∧ g' = g1 ∧ I' = I1
theorem w_MG {mj L : Nat} {av : List Value} {g g1 : mm_Gg} {I I1 : mm_Is} {k : Int32} (h : mm_W mj 0 (mm_ent L av) [] g I (mm_EG k g1 I1)) : mm_Me mj L av (mm_hp g I) ((0, some (.int k)), mm_hp g1 I1) := by
  obtain ⟨q, g', J, h1, h2, h3, h4⟩ := h
  subst h2 h3 h4
  exact h1
/-- the answer laid into the law's own row -/
def mm_g2 (g : mm_Gg) (x : Int64) : mm_Gg := (g.1, g.2.1, va_up g.2.2.1 70 (vp_updL (g.2.2.1 70) 0 x), g.2.2.2)
section SM
variable {g : mm_Gg} {I I1 : mm_Is} {x y z v : Int32}
theorem h_show (hc : mm_M 37 4 [.ref 0, .int x, .int y] g I (some (.int v)) I1) : mm_Me 156 5 [.ref 0, .int x, .int y, .ref 70] (mm_hp g I) ((0, some (.int (nI 0))), mm_hp (mm_g2 g v.toInt64) I1) := by
  refine w_MG ?_
  show mm_W 156 0 [.ref 0, .int x, .int y, .ref 70, .null] [] _ _ _
  generalize hF : mm_EG _ _ _ = F
  refine w_st rfl rfl rfl trivial ?_
  refine w_st rfl rfl rfl trivial ?_
  refine w_st rfl rfl rfl trivial ?_
  refine w_st rfl rfl rfl trivial ?_
  refine w_st rfl rfl rfl trivial ?_
  refine w_k31 (hc) rfl ⟨rfl, by decide, by decide, by decide, Or.inl ⟨_, rfl⟩⟩ (Nat.le_of_ble_eq_true rfl) (mm_foc rfl) (Nat.le_of_ble_eq_true rfl) ?_  -- calls 37 cX4_show
  refine w_st rfl rfl rfl trivial ?_
  refine w_lt 0 rfl (mm_fac (n := 1) rfl) rfl (by decide) ?_
  refine w_st rfl rfl rfl trivial ?_
  refine w_st rfl rfl rfl trivial ?_
  refine w_reti rfl ?_
  exact hF ▸ ⟨rfl, rfl, rfl⟩
theorem h_show_1 (hc : mm_TH 37 4 [.ref 0, .int x, .int y] g I 1) : mm_Me 156 5 [.ref 0, .int x, .int y, .ref 70] (mm_hp g I) ((0, some (.int (nI 1))), mm_hp (mm_gx g) I) := by
  refine w_MG ?_
  show mm_W 156 0 [.ref 0, .int x, .int y, .ref 70, .null] [] _ _ _
  generalize hF : mm_EG _ _ _ = F
  refine w_st rfl rfl rfl trivial ?_
  refine w_st rfl rfl rfl trivial ?_
  refine w_st rfl rfl rfl trivial ?_
  refine w_st rfl rfl rfl trivial ?_
  refine w_st rfl rfl rfl trivial ?_
  refine w_cx (q := (15, 4)) (hc) rfl ⟨rfl, by decide, by decide, by decide, Or.inl ⟨_, rfl⟩⟩ rfl (Nat.le_of_ble_eq_true rfl) (Nat.le_of_ble_eq_true rfl) (mm_foc rfl) (Nat.le_of_ble_eq_true rfl) (by decide) rfl rfl ?_
  refine w_st rfl rfl rfl trivial ?_
  refine w_reti rfl ?_
  exact hF ▸ ⟨rfl, rfl, rfl⟩
theorem h_show_2 (hc : mm_TH 37 4 [.ref 0, .int x, .int y] g I 2) : mm_Me 156 5 [.ref 0, .int x, .int y, .ref 70] (mm_hp g I) ((0, some (.int (nI 2))), mm_hp (mm_gx g) I) := by
  refine w_MG ?_
  show mm_W 156 0 [.ref 0, .int x, .int y, .ref 70, .null] [] _ _ _
  generalize hF : mm_EG _ _ _ = F
  refine w_st rfl rfl rfl trivial ?_
  refine w_st rfl rfl rfl trivial ?_
  refine w_st rfl rfl rfl trivial ?_
  refine w_st rfl rfl rfl trivial ?_
  refine w_st rfl rfl rfl trivial ?_
  refine w_cx (q := (19, 4)) (hc) rfl ⟨rfl, by decide, by decide, by decide, Or.inl ⟨_, rfl⟩⟩ rfl (Nat.le_of_ble_eq_true rfl) (Nat.le_of_ble_eq_true rfl) (mm_foc rfl) (Nat.le_of_ble_eq_true rfl) (by decide) rfl rfl ?_
  refine w_st rfl rfl rfl trivial ?_
  refine w_reti rfl ?_
  exact hF ▸ ⟨rfl, rfl, rfl⟩
theorem h_show_3 (hc : mm_TH 37 4 [.ref 0, .int x, .int y] g I 3) : mm_Me 156 5 [.ref 0, .int x, .int y, .ref 70] (mm_hp g I) ((0, some (.int (nI 3))), mm_hp (mm_gx g) I) := by
  refine w_MG ?_
  show mm_W 156 0 [.ref 0, .int x, .int y, .ref 70, .null] [] _ _ _
  generalize hF : mm_EG _ _ _ = F
  refine w_st rfl rfl rfl trivial ?_
  refine w_st rfl rfl rfl trivial ?_
  refine w_st rfl rfl rfl trivial ?_
  refine w_st rfl rfl rfl trivial ?_
  refine w_st rfl rfl rfl trivial ?_
  refine w_cx (q := (23, 4)) (hc) rfl ⟨rfl, by decide, by decide, by decide, Or.inl ⟨_, rfl⟩⟩ rfl (Nat.le_of_ble_eq_true rfl) (Nat.le_of_ble_eq_true rfl) (mm_foc rfl) (Nat.le_of_ble_eq_true rfl) (by decide) rfl rfl ?_
  refine w_st rfl rfl rfl trivial ?_
  refine w_reti rfl ?_
  exact hF ▸ ⟨rfl, rfl, rfl⟩
theorem h_number (hc : mm_M 38 3 [.ref 0, .int x] g I (some (.int v)) I1) : mm_Me 157 4 [.ref 0, .int x, .ref 70] (mm_hp g I) ((0, some (.int (nI 0))), mm_hp (mm_g2 g v.toInt64) I1) := by
  refine w_MG ?_
  show mm_W 157 0 [.ref 0, .int x, .ref 70, .null] [] _ _ _
  generalize hF : mm_EG _ _ _ = F
  refine w_st rfl rfl rfl trivial ?_
  refine w_st rfl rfl rfl trivial ?_
  refine w_st rfl rfl rfl trivial ?_
  refine w_st rfl rfl rfl trivial ?_
  refine w_k21 (hc) rfl ⟨rfl, by decide, by decide, by decide, Or.inl ⟨_, rfl⟩⟩ (Nat.le_of_ble_eq_true rfl) (mm_foc rfl) (Nat.le_of_ble_eq_true rfl) ?_  -- calls 38 cX4_number
  refine w_st rfl rfl rfl trivial ?_
  refine w_lt 0 rfl (mm_fac (n := 1) rfl) rfl (by decide) ?_
  refine w_st rfl rfl rfl trivial ?_
  refine w_st rfl rfl rfl trivial ?_
  refine w_reti rfl ?_
  exact hF ▸ ⟨rfl, rfl, rfl⟩
theorem h_number_1 (hc : mm_TH 38 3 [.ref 0, .int x] g I 2) : mm_Me 157 4 [.ref 0, .int x, .ref 70] (mm_hp g I) ((0, some (.int (nI 1))), mm_hp (mm_gx g) I) := by
  refine w_MG ?_
  show mm_W 157 0 [.ref 0, .int x, .ref 70, .null] [] _ _ _
  generalize hF : mm_EG _ _ _ = F
  refine w_st rfl rfl rfl trivial ?_
  refine w_st rfl rfl rfl trivial ?_
  refine w_st rfl rfl rfl trivial ?_
  refine w_st rfl rfl rfl trivial ?_
  refine w_cx (q := (13, 3)) (hc) rfl ⟨rfl, by decide, by decide, by decide, Or.inl ⟨_, rfl⟩⟩ rfl (Nat.le_of_ble_eq_true rfl) (Nat.le_of_ble_eq_true rfl) (mm_foc rfl) (Nat.le_of_ble_eq_true rfl) (by decide) rfl rfl ?_
  refine w_st rfl rfl rfl trivial ?_
  refine w_reti rfl ?_
  exact hF ▸ ⟨rfl, rfl, rfl⟩
theorem h_number_2 (hc : mm_TH 38 3 [.ref 0, .int x] g I 3) : mm_Me 157 4 [.ref 0, .int x, .ref 70] (mm_hp g I) ((0, some (.int (nI 2))), mm_hp (mm_gx g) I) := by
  refine w_MG ?_
  show mm_W 157 0 [.ref 0, .int x, .ref 70, .null] [] _ _ _
  generalize hF : mm_EG _ _ _ = F
  refine w_st rfl rfl rfl trivial ?_
  refine w_st rfl rfl rfl trivial ?_
  refine w_st rfl rfl rfl trivial ?_
  refine w_st rfl rfl rfl trivial ?_
  refine w_cx (q := (16, 3)) (hc) rfl ⟨rfl, by decide, by decide, by decide, Or.inl ⟨_, rfl⟩⟩ rfl (Nat.le_of_ble_eq_true rfl) (Nat.le_of_ble_eq_true rfl) (mm_foc rfl) (Nat.le_of_ble_eq_true rfl) (by decide) rfl rfl ?_
  refine w_st rfl rfl rfl trivial ?_
  refine w_reti rfl ?_
  exact hF ▸ ⟨rfl, rfl, rfl⟩
theorem h_lamp (hc : mm_M 39 5 [.ref 0, .int x, .int y, .int z] g I (some (.int v)) I1) : mm_Me 158 6 [.ref 0, .int x, .int y, .int z, .ref 70] (mm_hp g I) ((0, some (.int (nI 0))), mm_hp (mm_g2 g v.toInt64) I1) := by
  refine w_MG ?_
  show mm_W 158 0 [.ref 0, .int x, .int y, .int z, .ref 70, .null] [] _ _ _
  generalize hF : mm_EG _ _ _ = F
  refine w_st rfl rfl rfl trivial ?_
  refine w_st rfl rfl rfl trivial ?_
  refine w_st rfl rfl rfl trivial ?_
  refine w_st rfl rfl rfl trivial ?_
  refine w_st rfl rfl rfl trivial ?_
  refine w_st rfl rfl rfl trivial ?_
  refine w_k41 (hc) rfl ⟨rfl, by decide, by decide, by decide, Or.inl ⟨_, rfl⟩⟩ (Nat.le_of_ble_eq_true rfl) (mm_foc rfl) (Nat.le_of_ble_eq_true rfl) ?_  -- calls 39 cX4_lamp
  refine w_st rfl rfl rfl trivial ?_
  refine w_lt 0 rfl (mm_fac (n := 1) rfl) rfl (by decide) ?_
  refine w_st rfl rfl rfl trivial ?_
  refine w_st rfl rfl rfl trivial ?_
  refine w_reti rfl ?_
  exact hF ▸ ⟨rfl, rfl, rfl⟩
theorem h_lamp_1 (hc : mm_TH 39 5 [.ref 0, .int x, .int y, .int z] g I 1) : mm_Me 158 6 [.ref 0, .int x, .int y, .int z, .ref 70] (mm_hp g I) ((0, some (.int (nI 1))), mm_hp (mm_gx g) I) := by
  refine w_MG ?_
  show mm_W 158 0 [.ref 0, .int x, .int y, .int z, .ref 70, .null] [] _ _ _
  generalize hF : mm_EG _ _ _ = F
  refine w_st rfl rfl rfl trivial ?_
  refine w_st rfl rfl rfl trivial ?_
  refine w_st rfl rfl rfl trivial ?_
  refine w_st rfl rfl rfl trivial ?_
  refine w_st rfl rfl rfl trivial ?_
  refine w_st rfl rfl rfl trivial ?_
  refine w_cx (q := (17, 5)) (hc) rfl ⟨rfl, by decide, by decide, by decide, Or.inl ⟨_, rfl⟩⟩ rfl (Nat.le_of_ble_eq_true rfl) (Nat.le_of_ble_eq_true rfl) (mm_foc rfl) (Nat.le_of_ble_eq_true rfl) (by decide) rfl rfl ?_
  refine w_st rfl rfl rfl trivial ?_
  refine w_reti rfl ?_
  exact hF ▸ ⟨rfl, rfl, rfl⟩
theorem h_mend (hc : mm_M 40 4 [.ref 0, .int x] g I (some (.int v)) I1) : mm_Me 159 4 [.ref 0, .int x, .ref 70] (mm_hp g I) ((0, some (.int (nI 0))), mm_hp (mm_g2 g v.toInt64) I1) := by
  refine w_MG ?_
  show mm_W 159 0 [.ref 0, .int x, .ref 70, .null] [] _ _ _
  generalize hF : mm_EG _ _ _ = F
  refine w_st rfl rfl rfl trivial ?_
  refine w_st rfl rfl rfl trivial ?_
  refine w_st rfl rfl rfl trivial ?_
  refine w_st rfl rfl rfl trivial ?_
  refine w_k21 (hc) rfl ⟨rfl, by decide, by decide, by decide, Or.inl ⟨_, rfl⟩⟩ (Nat.le_of_ble_eq_true rfl) (mm_foc rfl) (Nat.le_of_ble_eq_true rfl) ?_  -- calls 40 cX4_mend
  refine w_st rfl rfl rfl trivial ?_
  refine w_lt 0 rfl (mm_fac (n := 1) rfl) rfl (by decide) ?_
  refine w_st rfl rfl rfl trivial ?_
  refine w_st rfl rfl rfl trivial ?_
  refine w_reti rfl ?_
  exact hF ▸ ⟨rfl, rfl, rfl⟩
theorem h_mend_1 (hc : mm_TH 40 4 [.ref 0, .int x] g I 1) : mm_Me 159 4 [.ref 0, .int x, .ref 70] (mm_hp g I) ((0, some (.int (nI 1))), mm_hp (mm_gx g) I) := by
  refine w_MG ?_
  show mm_W 159 0 [.ref 0, .int x, .ref 70, .null] [] _ _ _
  generalize hF : mm_EG _ _ _ = F
  refine w_st rfl rfl rfl trivial ?_
  refine w_st rfl rfl rfl trivial ?_
  refine w_st rfl rfl rfl trivial ?_
  refine w_st rfl rfl rfl trivial ?_
  refine w_cx (q := (13, 3)) (hc) rfl ⟨rfl, by decide, by decide, by decide, Or.inl ⟨_, rfl⟩⟩ rfl (Nat.le_of_ble_eq_true rfl) (Nat.le_of_ble_eq_true rfl) (mm_foc rfl) (Nat.le_of_ble_eq_true rfl) (by decide) rfl rfl ?_
  refine w_st rfl rfl rfl trivial ?_
  refine w_reti rfl ?_
  exact hF ▸ ⟨rfl, rfl, rfl⟩
theorem h_pass (hc : mm_M 41 7 [.ref 0, .int x] g I (some (.int v)) I1) : mm_Me 160 4 [.ref 0, .int x, .ref 70] (mm_hp g I) ((0, some (.int (nI 0))), mm_hp (mm_g2 g v.toInt64) I1) := by
  refine w_MG ?_
  show mm_W 160 0 [.ref 0, .int x, .ref 70, .null] [] _ _ _
  generalize hF : mm_EG _ _ _ = F
  refine w_st rfl rfl rfl trivial ?_
  refine w_st rfl rfl rfl trivial ?_
  refine w_st rfl rfl rfl trivial ?_
  refine w_st rfl rfl rfl trivial ?_
  refine w_k21 (hc) rfl ⟨rfl, by decide, by decide, by decide, Or.inl ⟨_, rfl⟩⟩ (Nat.le_of_ble_eq_true rfl) (mm_foc rfl) (Nat.le_of_ble_eq_true rfl) ?_  -- calls 41 cX4_pass
  refine w_st rfl rfl rfl trivial ?_
  refine w_lt 0 rfl (mm_fac (n := 1) rfl) rfl (by decide) ?_
  refine w_st rfl rfl rfl trivial ?_
  refine w_st rfl rfl rfl trivial ?_
  refine w_reti rfl ?_
  exact hF ▸ ⟨rfl, rfl, rfl⟩
theorem h_pass_1 (hc : mm_TH 41 7 [.ref 0, .int x] g I 2) : mm_Me 160 4 [.ref 0, .int x, .ref 70] (mm_hp g I) ((0, some (.int (nI 1))), mm_hp (mm_gx g) I) := by
  refine w_MG ?_
  show mm_W 160 0 [.ref 0, .int x, .ref 70, .null] [] _ _ _
  generalize hF : mm_EG _ _ _ = F
  refine w_st rfl rfl rfl trivial ?_
  refine w_st rfl rfl rfl trivial ?_
  refine w_st rfl rfl rfl trivial ?_
  refine w_st rfl rfl rfl trivial ?_
  refine w_cx (q := (13, 3)) (hc) rfl ⟨rfl, by decide, by decide, by decide, Or.inl ⟨_, rfl⟩⟩ rfl (Nat.le_of_ble_eq_true rfl) (Nat.le_of_ble_eq_true rfl) (mm_foc rfl) (Nat.le_of_ble_eq_true rfl) (by decide) rfl rfl ?_
  refine w_st rfl rfl rfl trivial ?_
  refine w_reti rfl ?_
  exact hF ▸ ⟨rfl, rfl, rfl⟩
theorem h_pass_2 (hc : mm_TH 41 7 [.ref 0, .int x] g I 3) : mm_Me 160 4 [.ref 0, .int x, .ref 70] (mm_hp g I) ((0, some (.int (nI 2))), mm_hp (mm_gx g) I) := by
  refine w_MG ?_
  show mm_W 160 0 [.ref 0, .int x, .ref 70, .null] [] _ _ _
  generalize hF : mm_EG _ _ _ = F
  refine w_st rfl rfl rfl trivial ?_
  refine w_st rfl rfl rfl trivial ?_
  refine w_st rfl rfl rfl trivial ?_
  refine w_st rfl rfl rfl trivial ?_
  refine w_cx (q := (16, 3)) (hc) rfl ⟨rfl, by decide, by decide, by decide, Or.inl ⟨_, rfl⟩⟩ rfl (Nat.le_of_ble_eq_true rfl) (Nat.le_of_ble_eq_true rfl) (mm_foc rfl) (Nat.le_of_ble_eq_true rfl) (by decide) rfl rfl ?_
  refine w_st rfl rfl rfl trivial ?_
  refine w_reti rfl ?_
  exact hF ▸ ⟨rfl, rfl, rfl⟩
theorem h_set (hc : mm_M 42 4 [.ref 0, .int x, .int y] g I (some (.int v)) I1) : mm_Me 161 5 [.ref 0, .int x, .int y, .ref 70] (mm_hp g I) ((0, some (.int (nI 0))), mm_hp (mm_g2 g v.toInt64) I1) := by
  refine w_MG ?_
  show mm_W 161 0 [.ref 0, .int x, .int y, .ref 70, .null] [] _ _ _
  generalize hF : mm_EG _ _ _ = F
  refine w_st rfl rfl rfl trivial ?_
  refine w_st rfl rfl rfl trivial ?_
  refine w_st rfl rfl rfl trivial ?_
  refine w_st rfl rfl rfl trivial ?_
  refine w_st rfl rfl rfl trivial ?_
  refine w_k31 (hc) rfl ⟨rfl, by decide, by decide, by decide, Or.inl ⟨_, rfl⟩⟩ (Nat.le_of_ble_eq_true rfl) (mm_foc rfl) (Nat.le_of_ble_eq_true rfl) ?_  -- calls 42 cX4_set
  refine w_st rfl rfl rfl trivial ?_
  refine w_lt 0 rfl (mm_fac (n := 1) rfl) rfl (by decide) ?_
  refine w_st rfl rfl rfl trivial ?_
  refine w_st rfl rfl rfl trivial ?_
  refine w_reti rfl ?_
  exact hF ▸ ⟨rfl, rfl, rfl⟩
theorem h_set_1 (hc : mm_TH 42 4 [.ref 0, .int x, .int y] g I 1) : mm_Me 161 5 [.ref 0, .int x, .int y, .ref 70] (mm_hp g I) ((0, some (.int (nI 1))), mm_hp (mm_gx g) I) := by
  refine w_MG ?_
  show mm_W 161 0 [.ref 0, .int x, .int y, .ref 70, .null] [] _ _ _
  generalize hF : mm_EG _ _ _ = F
  refine w_st rfl rfl rfl trivial ?_
  refine w_st rfl rfl rfl trivial ?_
  refine w_st rfl rfl rfl trivial ?_
  refine w_st rfl rfl rfl trivial ?_
  refine w_st rfl rfl rfl trivial ?_
  refine w_cx (q := (15, 4)) (hc) rfl ⟨rfl, by decide, by decide, by decide, Or.inl ⟨_, rfl⟩⟩ rfl (Nat.le_of_ble_eq_true rfl) (Nat.le_of_ble_eq_true rfl) (mm_foc rfl) (Nat.le_of_ble_eq_true rfl) (by decide) rfl rfl ?_
  refine w_st rfl rfl rfl trivial ?_
  refine w_reti rfl ?_
  exact hF ▸ ⟨rfl, rfl, rfl⟩
theorem h_set_2 (hc : mm_TH 42 4 [.ref 0, .int x, .int y] g I 2) : mm_Me 161 5 [.ref 0, .int x, .int y, .ref 70] (mm_hp g I) ((0, some (.int (nI 2))), mm_hp (mm_gx g) I) := by
  refine w_MG ?_
  show mm_W 161 0 [.ref 0, .int x, .int y, .ref 70, .null] [] _ _ _
  generalize hF : mm_EG _ _ _ = F
  refine w_st rfl rfl rfl trivial ?_
  refine w_st rfl rfl rfl trivial ?_
  refine w_st rfl rfl rfl trivial ?_
  refine w_st rfl rfl rfl trivial ?_
  refine w_st rfl rfl rfl trivial ?_
  refine w_cx (q := (19, 4)) (hc) rfl ⟨rfl, by decide, by decide, by decide, Or.inl ⟨_, rfl⟩⟩ rfl (Nat.le_of_ble_eq_true rfl) (Nat.le_of_ble_eq_true rfl) (mm_foc rfl) (Nat.le_of_ble_eq_true rfl) (by decide) rfl rfl ?_
  refine w_st rfl rfl rfl trivial ?_
  refine w_reti rfl ?_
  exact hF ▸ ⟨rfl, rfl, rfl⟩
theorem h_append (hc : mm_M 43 2 [.ref 0, .int x] g I (some (.int v)) I1) : mm_Me 162 4 [.ref 0, .int x, .ref 70] (mm_hp g I) ((0, some (.int (nI 0))), mm_hp (mm_g2 g v.toInt64) I1) := by
  refine w_MG ?_
  show mm_W 162 0 [.ref 0, .int x, .ref 70, .null] [] _ _ _
  generalize hF : mm_EG _ _ _ = F
  refine w_st rfl rfl rfl trivial ?_
  refine w_st rfl rfl rfl trivial ?_
  refine w_st rfl rfl rfl trivial ?_
  refine w_st rfl rfl rfl trivial ?_
  refine w_k21 (hc) rfl ⟨rfl, by decide, by decide, by decide, Or.inl ⟨_, rfl⟩⟩ (Nat.le_of_ble_eq_true rfl) (mm_foc rfl) (Nat.le_of_ble_eq_true rfl) ?_  -- calls 43 cX4_append
  refine w_st rfl rfl rfl trivial ?_
  refine w_lt 0 rfl (mm_fac (n := 1) rfl) rfl (by decide) ?_
  refine w_st rfl rfl rfl trivial ?_
  refine w_st rfl rfl rfl trivial ?_
  refine w_reti rfl ?_
  exact hF ▸ ⟨rfl, rfl, rfl⟩
theorem h_append_1 (hc : mm_TH 43 2 [.ref 0, .int x] g I 2) : mm_Me 162 4 [.ref 0, .int x, .ref 70] (mm_hp g I) ((0, some (.int (nI 1))), mm_hp (mm_gx g) I) := by
  refine w_MG ?_
  show mm_W 162 0 [.ref 0, .int x, .ref 70, .null] [] _ _ _
  generalize hF : mm_EG _ _ _ = F
  refine w_st rfl rfl rfl trivial ?_
  refine w_st rfl rfl rfl trivial ?_
  refine w_st rfl rfl rfl trivial ?_
  refine w_st rfl rfl rfl trivial ?_
  refine w_cx (q := (13, 3)) (hc) rfl ⟨rfl, by decide, by decide, by decide, Or.inl ⟨_, rfl⟩⟩ rfl (Nat.le_of_ble_eq_true rfl) (Nat.le_of_ble_eq_true rfl) (mm_foc rfl) (Nat.le_of_ble_eq_true rfl) (by decide) rfl rfl ?_
  refine w_st rfl rfl rfl trivial ?_
  refine w_reti rfl ?_
  exact hF ▸ ⟨rfl, rfl, rfl⟩
theorem h_append_2 (hc : mm_TH 43 2 [.ref 0, .int x] g I 3) : mm_Me 162 4 [.ref 0, .int x, .ref 70] (mm_hp g I) ((0, some (.int (nI 2))), mm_hp (mm_gx g) I) := by
  refine w_MG ?_
  show mm_W 162 0 [.ref 0, .int x, .ref 70, .null] [] _ _ _
  generalize hF : mm_EG _ _ _ = F
  refine w_st rfl rfl rfl trivial ?_
  refine w_st rfl rfl rfl trivial ?_
  refine w_st rfl rfl rfl trivial ?_
  refine w_st rfl rfl rfl trivial ?_
  refine w_cx (q := (16, 3)) (hc) rfl ⟨rfl, by decide, by decide, by decide, Or.inl ⟨_, rfl⟩⟩ rfl (Nat.le_of_ble_eq_true rfl) (Nat.le_of_ble_eq_true rfl) (mm_foc rfl) (Nat.le_of_ble_eq_true rfl) (by decide) rfl rfl ?_
  refine w_st rfl rfl rfl trivial ?_
  refine w_reti rfl ?_
  exact hF ▸ ⟨rfl, rfl, rfl⟩
theorem h_lamps (hc : mm_M 46 1 [.ref 0] g I (some (.int v)) I1) : mm_Me 163 3 [.ref 0, .ref 70] (mm_hp g I) ((0, some (.int (nI 0))), mm_hp (mm_g2 g v.toInt64) I1) := by
  refine w_MG ?_
  show mm_W 163 0 [.ref 0, .ref 70, .null] [] _ _ _
  generalize hF : mm_EG _ _ _ = F
  refine w_st rfl rfl rfl trivial ?_
  refine w_st rfl rfl rfl trivial ?_
  refine w_st rfl rfl rfl trivial ?_
  refine w_k11 (hc) rfl ⟨rfl, by decide, by decide, by decide, Or.inl ⟨_, rfl⟩⟩ (Nat.le_of_ble_eq_true rfl) (mm_foc rfl) (Nat.le_of_ble_eq_true rfl) ?_  -- calls 46 cX4_lamps
  refine w_st rfl rfl rfl trivial ?_
  refine w_lt 0 rfl (mm_fac (n := 1) rfl) rfl (by decide) ?_
  refine w_st rfl rfl rfl trivial ?_
  refine w_st rfl rfl rfl trivial ?_
  refine w_reti rfl ?_
  exact hF ▸ ⟨rfl, rfl, rfl⟩
theorem h_lamps_1 (hc : mm_TH 46 1 [.ref 0] g I 2) : mm_Me 163 3 [.ref 0, .ref 70] (mm_hp g I) ((0, some (.int (nI 1))), mm_hp (mm_gx g) I) := by
  refine w_MG ?_
  show mm_W 163 0 [.ref 0, .ref 70, .null] [] _ _ _
  generalize hF : mm_EG _ _ _ = F
  refine w_st rfl rfl rfl trivial ?_
  refine w_st rfl rfl rfl trivial ?_
  refine w_st rfl rfl rfl trivial ?_
  refine w_cx (q := (12, 2)) (hc) rfl ⟨rfl, by decide, by decide, by decide, Or.inl ⟨_, rfl⟩⟩ rfl (Nat.le_of_ble_eq_true rfl) (Nat.le_of_ble_eq_true rfl) (mm_foc rfl) (Nat.le_of_ble_eq_true rfl) (by decide) rfl rfl ?_
  refine w_st rfl rfl rfl trivial ?_
  refine w_reti rfl ?_
  exact hF ▸ ⟨rfl, rfl, rfl⟩
theorem h_undo (hc : mm_M 47 1 [.ref 0] g I (some (.int v)) I1) : mm_Me 164 3 [.ref 0, .ref 70] (mm_hp g I) ((0, some (.int (nI 0))), mm_hp (mm_g2 g v.toInt64) I1) := by
  refine w_MG ?_
  show mm_W 164 0 [.ref 0, .ref 70, .null] [] _ _ _
  generalize hF : mm_EG _ _ _ = F
  refine w_st rfl rfl rfl trivial ?_
  refine w_st rfl rfl rfl trivial ?_
  refine w_st rfl rfl rfl trivial ?_
  refine w_k11 (hc) rfl ⟨rfl, by decide, by decide, by decide, Or.inl ⟨_, rfl⟩⟩ (Nat.le_of_ble_eq_true rfl) (mm_foc rfl) (Nat.le_of_ble_eq_true rfl) ?_  -- calls 47 cX4_undo
  refine w_st rfl rfl rfl trivial ?_
  refine w_lt 0 rfl (mm_fac (n := 1) rfl) rfl (by decide) ?_
  refine w_st rfl rfl rfl trivial ?_
  refine w_st rfl rfl rfl trivial ?_
  refine w_reti rfl ?_
  exact hF ▸ ⟨rfl, rfl, rfl⟩
theorem h_undo_1 (hc : mm_TH 47 1 [.ref 0] g I 3) : mm_Me 164 3 [.ref 0, .ref 70] (mm_hp g I) ((0, some (.int (nI 1))), mm_hp (mm_gx g) I) := by
  refine w_MG ?_
  show mm_W 164 0 [.ref 0, .ref 70, .null] [] _ _ _
  generalize hF : mm_EG _ _ _ = F
  refine w_st rfl rfl rfl trivial ?_
  refine w_st rfl rfl rfl trivial ?_
  refine w_st rfl rfl rfl trivial ?_
  refine w_cx (q := (12, 2)) (hc) rfl ⟨rfl, by decide, by decide, by decide, Or.inl ⟨_, rfl⟩⟩ rfl (Nat.le_of_ble_eq_true rfl) (Nat.le_of_ble_eq_true rfl) (mm_foc rfl) (Nat.le_of_ble_eq_true rfl) (by decide) rfl rfl ?_
  refine w_st rfl rfl rfl trivial ?_
  refine w_reti rfl ?_
  exact hF ▸ ⟨rfl, rfl, rfl⟩
theorem h_field (hc : mm_M 48 5 [.ref 0, .int x, .int y] g I (some (.int v)) I1) : mm_Me 165 5 [.ref 0, .int x, .int y, .ref 70] (mm_hp g I) ((0, some (.int (nI 0))), mm_hp (mm_g2 g v.toInt64) I1) := by
  refine w_MG ?_
  show mm_W 165 0 [.ref 0, .int x, .int y, .ref 70, .null] [] _ _ _
  generalize hF : mm_EG _ _ _ = F
  refine w_st rfl rfl rfl trivial ?_
  refine w_st rfl rfl rfl trivial ?_
  refine w_st rfl rfl rfl trivial ?_
  refine w_st rfl rfl rfl trivial ?_
  refine w_st rfl rfl rfl trivial ?_
  refine w_k31 (hc) rfl ⟨rfl, by decide, by decide, by decide, Or.inl ⟨_, rfl⟩⟩ (Nat.le_of_ble_eq_true rfl) (mm_foc rfl) (Nat.le_of_ble_eq_true rfl) ?_  -- calls 48 cX4_field
  refine w_st rfl rfl rfl trivial ?_
  refine w_lt 0 rfl (mm_fac (n := 1) rfl) rfl (by decide) ?_
  refine w_st rfl rfl rfl trivial ?_
  refine w_st rfl rfl rfl trivial ?_
  refine w_reti rfl ?_
  exact hF ▸ ⟨rfl, rfl, rfl⟩
theorem h_field_1 (hc : mm_TH 48 5 [.ref 0, .int x, .int y] g I 1) : mm_Me 165 5 [.ref 0, .int x, .int y, .ref 70] (mm_hp g I) ((0, some (.int (nI 1))), mm_hp (mm_gx g) I) := by
  refine w_MG ?_
  show mm_W 165 0 [.ref 0, .int x, .int y, .ref 70, .null] [] _ _ _
  generalize hF : mm_EG _ _ _ = F
  refine w_st rfl rfl rfl trivial ?_
  refine w_st rfl rfl rfl trivial ?_
  refine w_st rfl rfl rfl trivial ?_
  refine w_st rfl rfl rfl trivial ?_
  refine w_st rfl rfl rfl trivial ?_
  refine w_cx (q := (15, 4)) (hc) rfl ⟨rfl, by decide, by decide, by decide, Or.inl ⟨_, rfl⟩⟩ rfl (Nat.le_of_ble_eq_true rfl) (Nat.le_of_ble_eq_true rfl) (mm_foc rfl) (Nat.le_of_ble_eq_true rfl) (by decide) rfl rfl ?_
  refine w_st rfl rfl rfl trivial ?_
  refine w_reti rfl ?_
  exact hF ▸ ⟨rfl, rfl, rfl⟩
theorem h_field_2 (hc : mm_TH 48 5 [.ref 0, .int x, .int y] g I 2) : mm_Me 165 5 [.ref 0, .int x, .int y, .ref 70] (mm_hp g I) ((0, some (.int (nI 2))), mm_hp (mm_gx g) I) := by
  refine w_MG ?_
  show mm_W 165 0 [.ref 0, .int x, .int y, .ref 70, .null] [] _ _ _
  generalize hF : mm_EG _ _ _ = F
  refine w_st rfl rfl rfl trivial ?_
  refine w_st rfl rfl rfl trivial ?_
  refine w_st rfl rfl rfl trivial ?_
  refine w_st rfl rfl rfl trivial ?_
  refine w_st rfl rfl rfl trivial ?_
  refine w_cx (q := (19, 4)) (hc) rfl ⟨rfl, by decide, by decide, by decide, Or.inl ⟨_, rfl⟩⟩ rfl (Nat.le_of_ble_eq_true rfl) (Nat.le_of_ble_eq_true rfl) (mm_foc rfl) (Nat.le_of_ble_eq_true rfl) (by decide) rfl rfl ?_
  refine w_st rfl rfl rfl trivial ?_
  refine w_reti rfl ?_
  exact hF ▸ ⟨rfl, rfl, rfl⟩
theorem h_lampOf (hc : mm_M 49 4 [.ref 0, .int x, .int y, .int z] g I (some (.int v)) I1) : mm_Me 166 6 [.ref 0, .int x, .int y, .int z, .ref 70] (mm_hp g I) ((0, some (.int (nI 0))), mm_hp (mm_g2 g v.toInt64) I1) := by
  refine w_MG ?_
  show mm_W 166 0 [.ref 0, .int x, .int y, .int z, .ref 70, .null] [] _ _ _
  generalize hF : mm_EG _ _ _ = F
  refine w_st rfl rfl rfl trivial ?_
  refine w_st rfl rfl rfl trivial ?_
  refine w_st rfl rfl rfl trivial ?_
  refine w_st rfl rfl rfl trivial ?_
  refine w_st rfl rfl rfl trivial ?_
  refine w_st rfl rfl rfl trivial ?_
  refine w_k41 (hc) rfl ⟨rfl, by decide, by decide, by decide, Or.inl ⟨_, rfl⟩⟩ (Nat.le_of_ble_eq_true rfl) (mm_foc rfl) (Nat.le_of_ble_eq_true rfl) ?_  -- calls 49 cX4_lampOf
  refine w_st rfl rfl rfl trivial ?_
  refine w_lt 0 rfl (mm_fac (n := 1) rfl) rfl (by decide) ?_
  refine w_st rfl rfl rfl trivial ?_
  refine w_st rfl rfl rfl trivial ?_
  refine w_reti rfl ?_
  exact hF ▸ ⟨rfl, rfl, rfl⟩
theorem h_lampOf_1 (hc : mm_TH 49 4 [.ref 0, .int x, .int y, .int z] g I 1) : mm_Me 166 6 [.ref 0, .int x, .int y, .int z, .ref 70] (mm_hp g I) ((0, some (.int (nI 1))), mm_hp (mm_gx g) I) := by
  refine w_MG ?_
  show mm_W 166 0 [.ref 0, .int x, .int y, .int z, .ref 70, .null] [] _ _ _
  generalize hF : mm_EG _ _ _ = F
  refine w_st rfl rfl rfl trivial ?_
  refine w_st rfl rfl rfl trivial ?_
  refine w_st rfl rfl rfl trivial ?_
  refine w_st rfl rfl rfl trivial ?_
  refine w_st rfl rfl rfl trivial ?_
  refine w_st rfl rfl rfl trivial ?_
  refine w_cx (q := (17, 5)) (hc) rfl ⟨rfl, by decide, by decide, by decide, Or.inl ⟨_, rfl⟩⟩ rfl (Nat.le_of_ble_eq_true rfl) (Nat.le_of_ble_eq_true rfl) (mm_foc rfl) (Nat.le_of_ble_eq_true rfl) (by decide) rfl rfl ?_
  refine w_st rfl rfl rfl trivial ?_
  refine w_reti rfl ?_
  exact hF ▸ ⟨rfl, rfl, rfl⟩
theorem h_lampOf_2 (hc : mm_TH 49 4 [.ref 0, .int x, .int y, .int z] g I 2) : mm_Me 166 6 [.ref 0, .int x, .int y, .int z, .ref 70] (mm_hp g I) ((0, some (.int (nI 2))), mm_hp (mm_gx g) I) := by
  refine w_MG ?_
  show mm_W 166 0 [.ref 0, .int x, .int y, .int z, .ref 70, .null] [] _ _ _
  generalize hF : mm_EG _ _ _ = F
  refine w_st rfl rfl rfl trivial ?_
  refine w_st rfl rfl rfl trivial ?_
  refine w_st rfl rfl rfl trivial ?_
  refine w_st rfl rfl rfl trivial ?_
  refine w_st rfl rfl rfl trivial ?_
  refine w_st rfl rfl rfl trivial ?_
  refine w_cx (q := (21, 5)) (hc) rfl ⟨rfl, by decide, by decide, by decide, Or.inl ⟨_, rfl⟩⟩ rfl (Nat.le_of_ble_eq_true rfl) (Nat.le_of_ble_eq_true rfl) (mm_foc rfl) (Nat.le_of_ble_eq_true rfl) (by decide) rfl rfl ?_
  refine w_st rfl rfl rfl trivial ?_
  refine w_reti rfl ?_
  exact hF ▸ ⟨rfl, rfl, rfl⟩
theorem h_table (hc : mm_M 50 5 [.ref 0, .int x, .int y, .int z] g I (some (.int v)) I1) : mm_Me 167 6 [.ref 0, .int x, .int y, .int z, .ref 70] (mm_hp g I) ((0, some (.int (nI 0))), mm_hp (mm_g2 g v.toInt64) I1) := by
  refine w_MG ?_
  show mm_W 167 0 [.ref 0, .int x, .int y, .int z, .ref 70, .null] [] _ _ _
  generalize hF : mm_EG _ _ _ = F
  refine w_st rfl rfl rfl trivial ?_
  refine w_st rfl rfl rfl trivial ?_
  refine w_st rfl rfl rfl trivial ?_
  refine w_st rfl rfl rfl trivial ?_
  refine w_st rfl rfl rfl trivial ?_
  refine w_st rfl rfl rfl trivial ?_
  refine w_k41 (hc) rfl ⟨rfl, by decide, by decide, by decide, Or.inl ⟨_, rfl⟩⟩ (Nat.le_of_ble_eq_true rfl) (mm_foc rfl) (Nat.le_of_ble_eq_true rfl) ?_  -- calls 50 cX4_table
  refine w_st rfl rfl rfl trivial ?_
  refine w_lt 0 rfl (mm_fac (n := 1) rfl) rfl (by decide) ?_
  refine w_st rfl rfl rfl trivial ?_
  refine w_st rfl rfl rfl trivial ?_
  refine w_reti rfl ?_
  exact hF ▸ ⟨rfl, rfl, rfl⟩
theorem h_table_1 (hc : mm_TH 50 5 [.ref 0, .int x, .int y, .int z] g I 1) : mm_Me 167 6 [.ref 0, .int x, .int y, .int z, .ref 70] (mm_hp g I) ((0, some (.int (nI 1))), mm_hp (mm_gx g) I) := by
  refine w_MG ?_
  show mm_W 167 0 [.ref 0, .int x, .int y, .int z, .ref 70, .null] [] _ _ _
  generalize hF : mm_EG _ _ _ = F
  refine w_st rfl rfl rfl trivial ?_
  refine w_st rfl rfl rfl trivial ?_
  refine w_st rfl rfl rfl trivial ?_
  refine w_st rfl rfl rfl trivial ?_
  refine w_st rfl rfl rfl trivial ?_
  refine w_st rfl rfl rfl trivial ?_
  refine w_cx (q := (17, 5)) (hc) rfl ⟨rfl, by decide, by decide, by decide, Or.inl ⟨_, rfl⟩⟩ rfl (Nat.le_of_ble_eq_true rfl) (Nat.le_of_ble_eq_true rfl) (mm_foc rfl) (Nat.le_of_ble_eq_true rfl) (by decide) rfl rfl ?_
  refine w_st rfl rfl rfl trivial ?_
  refine w_reti rfl ?_
  exact hF ▸ ⟨rfl, rfl, rfl⟩
theorem h_table_2 (hc : mm_TH 50 5 [.ref 0, .int x, .int y, .int z] g I 2) : mm_Me 167 6 [.ref 0, .int x, .int y, .int z, .ref 70] (mm_hp g I) ((0, some (.int (nI 2))), mm_hp (mm_gx g) I) := by
  refine w_MG ?_
  show mm_W 167 0 [.ref 0, .int x, .int y, .int z, .ref 70, .null] [] _ _ _
  generalize hF : mm_EG _ _ _ = F
  refine w_st rfl rfl rfl trivial ?_
  refine w_st rfl rfl rfl trivial ?_
  refine w_st rfl rfl rfl trivial ?_
  refine w_st rfl rfl rfl trivial ?_
  refine w_st rfl rfl rfl trivial ?_
  refine w_st rfl rfl rfl trivial ?_
  refine w_cx (q := (21, 5)) (hc) rfl ⟨rfl, by decide, by decide, by decide, Or.inl ⟨_, rfl⟩⟩ rfl (Nat.le_of_ble_eq_true rfl) (Nat.le_of_ble_eq_true rfl) (mm_foc rfl) (Nat.le_of_ble_eq_true rfl) (by decide) rfl rfl ?_
  refine w_st rfl rfl rfl trivial ?_
  refine w_reti rfl ?_
  exact hF ▸ ⟨rfl, rfl, rfl⟩
theorem h_read (hc : mm_M 51 3 [.ref 0, .int x, .int y] g I (some (.int v)) I1) : mm_Me 168 5 [.ref 0, .int x, .int y, .ref 70] (mm_hp g I) ((0, some (.int (nI 0))), mm_hp (mm_g2 g v.toInt64) I1) := by
  refine w_MG ?_
  show mm_W 168 0 [.ref 0, .int x, .int y, .ref 70, .null] [] _ _ _
  generalize hF : mm_EG _ _ _ = F
  refine w_st rfl rfl rfl trivial ?_
  refine w_st rfl rfl rfl trivial ?_
  refine w_st rfl rfl rfl trivial ?_
  refine w_st rfl rfl rfl trivial ?_
  refine w_st rfl rfl rfl trivial ?_
  refine w_k31 (hc) rfl ⟨rfl, by decide, by decide, by decide, Or.inl ⟨_, rfl⟩⟩ (Nat.le_of_ble_eq_true rfl) (mm_foc rfl) (Nat.le_of_ble_eq_true rfl) ?_  -- calls 51 cX4_read
  refine w_st rfl rfl rfl trivial ?_
  refine w_lt 0 rfl (mm_fac (n := 1) rfl) rfl (by decide) ?_
  refine w_st rfl rfl rfl trivial ?_
  refine w_st rfl rfl rfl trivial ?_
  refine w_reti rfl ?_
  exact hF ▸ ⟨rfl, rfl, rfl⟩
theorem h_read_1 (hc : mm_TH 51 3 [.ref 0, .int x, .int y] g I 1) : mm_Me 168 5 [.ref 0, .int x, .int y, .ref 70] (mm_hp g I) ((0, some (.int (nI 1))), mm_hp (mm_gx g) I) := by
  refine w_MG ?_
  show mm_W 168 0 [.ref 0, .int x, .int y, .ref 70, .null] [] _ _ _
  generalize hF : mm_EG _ _ _ = F
  refine w_st rfl rfl rfl trivial ?_
  refine w_st rfl rfl rfl trivial ?_
  refine w_st rfl rfl rfl trivial ?_
  refine w_st rfl rfl rfl trivial ?_
  refine w_st rfl rfl rfl trivial ?_
  refine w_cx (q := (15, 4)) (hc) rfl ⟨rfl, by decide, by decide, by decide, Or.inl ⟨_, rfl⟩⟩ rfl (Nat.le_of_ble_eq_true rfl) (Nat.le_of_ble_eq_true rfl) (mm_foc rfl) (Nat.le_of_ble_eq_true rfl) (by decide) rfl rfl ?_
  refine w_st rfl rfl rfl trivial ?_
  refine w_reti rfl ?_
  exact hF ▸ ⟨rfl, rfl, rfl⟩
theorem h_read_2 (hc : mm_TH 51 3 [.ref 0, .int x, .int y] g I 2) : mm_Me 168 5 [.ref 0, .int x, .int y, .ref 70] (mm_hp g I) ((0, some (.int (nI 2))), mm_hp (mm_gx g) I) := by
  refine w_MG ?_
  show mm_W 168 0 [.ref 0, .int x, .int y, .ref 70, .null] [] _ _ _
  generalize hF : mm_EG _ _ _ = F
  refine w_st rfl rfl rfl trivial ?_
  refine w_st rfl rfl rfl trivial ?_
  refine w_st rfl rfl rfl trivial ?_
  refine w_st rfl rfl rfl trivial ?_
  refine w_st rfl rfl rfl trivial ?_
  refine w_cx (q := (19, 4)) (hc) rfl ⟨rfl, by decide, by decide, by decide, Or.inl ⟨_, rfl⟩⟩ rfl (Nat.le_of_ble_eq_true rfl) (Nat.le_of_ble_eq_true rfl) (mm_foc rfl) (Nat.le_of_ble_eq_true rfl) (by decide) rfl rfl ?_
  refine w_st rfl rfl rfl trivial ?_
  refine w_reti rfl ?_
  exact hF ▸ ⟨rfl, rfl, rfl⟩
theorem h_count (hc : mm_M 52 2 [.ref 0, .int x] g I (some (.int v)) I1) : mm_Me 169 4 [.ref 0, .int x, .ref 70] (mm_hp g I) ((0, some (.int (nI 0))), mm_hp (mm_g2 g v.toInt64) I1) := by
  refine w_MG ?_
  show mm_W 169 0 [.ref 0, .int x, .ref 70, .null] [] _ _ _
  generalize hF : mm_EG _ _ _ = F
  refine w_st rfl rfl rfl trivial ?_
  refine w_st rfl rfl rfl trivial ?_
  refine w_st rfl rfl rfl trivial ?_
  refine w_st rfl rfl rfl trivial ?_
  refine w_k21 (hc) rfl ⟨rfl, by decide, by decide, by decide, Or.inl ⟨_, rfl⟩⟩ (Nat.le_of_ble_eq_true rfl) (mm_foc rfl) (Nat.le_of_ble_eq_true rfl) ?_  -- calls 52 cX4_count
  refine w_st rfl rfl rfl trivial ?_
  refine w_lt 0 rfl (mm_fac (n := 1) rfl) rfl (by decide) ?_
  refine w_st rfl rfl rfl trivial ?_
  refine w_st rfl rfl rfl trivial ?_
  refine w_reti rfl ?_
  exact hF ▸ ⟨rfl, rfl, rfl⟩
theorem h_count_1 (hc : mm_TH 52 2 [.ref 0, .int x] g I 2) : mm_Me 169 4 [.ref 0, .int x, .ref 70] (mm_hp g I) ((0, some (.int (nI 1))), mm_hp (mm_gx g) I) := by
  refine w_MG ?_
  show mm_W 169 0 [.ref 0, .int x, .ref 70, .null] [] _ _ _
  generalize hF : mm_EG _ _ _ = F
  refine w_st rfl rfl rfl trivial ?_
  refine w_st rfl rfl rfl trivial ?_
  refine w_st rfl rfl rfl trivial ?_
  refine w_st rfl rfl rfl trivial ?_
  refine w_cx (q := (13, 3)) (hc) rfl ⟨rfl, by decide, by decide, by decide, Or.inl ⟨_, rfl⟩⟩ rfl (Nat.le_of_ble_eq_true rfl) (Nat.le_of_ble_eq_true rfl) (mm_foc rfl) (Nat.le_of_ble_eq_true rfl) (by decide) rfl rfl ?_
  refine w_st rfl rfl rfl trivial ?_
  refine w_reti rfl ?_
  exact hF ▸ ⟨rfl, rfl, rfl⟩
theorem h_setting (hc : mm_M 53 2 [.ref 0, .int x] g I (some (.int v)) I1) : mm_Me 170 4 [.ref 0, .int x, .ref 70] (mm_hp g I) ((0, some (.int (nI 0))), mm_hp (mm_g2 g v.toInt64) I1) := by
  refine w_MG ?_
  show mm_W 170 0 [.ref 0, .int x, .ref 70, .null] [] _ _ _
  generalize hF : mm_EG _ _ _ = F
  refine w_st rfl rfl rfl trivial ?_
  refine w_st rfl rfl rfl trivial ?_
  refine w_st rfl rfl rfl trivial ?_
  refine w_st rfl rfl rfl trivial ?_
  refine w_k21 (hc) rfl ⟨rfl, by decide, by decide, by decide, Or.inl ⟨_, rfl⟩⟩ (Nat.le_of_ble_eq_true rfl) (mm_foc rfl) (Nat.le_of_ble_eq_true rfl) ?_  -- calls 53 cX4_setting
  refine w_st rfl rfl rfl trivial ?_
  refine w_lt 0 rfl (mm_fac (n := 1) rfl) rfl (by decide) ?_
  refine w_st rfl rfl rfl trivial ?_
  refine w_st rfl rfl rfl trivial ?_
  refine w_reti rfl ?_
  exact hF ▸ ⟨rfl, rfl, rfl⟩
theorem h_setting_1 (hc : mm_TH 53 2 [.ref 0, .int x] g I 1) : mm_Me 170 4 [.ref 0, .int x, .ref 70] (mm_hp g I) ((0, some (.int (nI 1))), mm_hp (mm_gx g) I) := by
  refine w_MG ?_
  show mm_W 170 0 [.ref 0, .int x, .ref 70, .null] [] _ _ _
  generalize hF : mm_EG _ _ _ = F
  refine w_st rfl rfl rfl trivial ?_
  refine w_st rfl rfl rfl trivial ?_
  refine w_st rfl rfl rfl trivial ?_
  refine w_st rfl rfl rfl trivial ?_
  refine w_cx (q := (13, 3)) (hc) rfl ⟨rfl, by decide, by decide, by decide, Or.inl ⟨_, rfl⟩⟩ rfl (Nat.le_of_ble_eq_true rfl) (Nat.le_of_ble_eq_true rfl) (mm_foc rfl) (Nat.le_of_ble_eq_true rfl) (by decide) rfl rfl ?_
  refine w_st rfl rfl rfl trivial ?_
  refine w_reti rfl ?_
  exact hF ▸ ⟨rfl, rfl, rfl⟩
theorem h_ifBurnt (hc : mm_M 54 4 [.ref 0, .int x, .int y, .int z] g I (some (.int v)) I1) : mm_Me 171 6 [.ref 0, .int x, .int y, .int z, .ref 70] (mm_hp g I) ((0, some (.int (nI 0))), mm_hp (mm_g2 g v.toInt64) I1) := by
  refine w_MG ?_
  show mm_W 171 0 [.ref 0, .int x, .int y, .int z, .ref 70, .null] [] _ _ _
  generalize hF : mm_EG _ _ _ = F
  refine w_st rfl rfl rfl trivial ?_
  refine w_st rfl rfl rfl trivial ?_
  refine w_st rfl rfl rfl trivial ?_
  refine w_st rfl rfl rfl trivial ?_
  refine w_st rfl rfl rfl trivial ?_
  refine w_st rfl rfl rfl trivial ?_
  refine w_k41 (hc) rfl ⟨rfl, by decide, by decide, by decide, Or.inl ⟨_, rfl⟩⟩ (Nat.le_of_ble_eq_true rfl) (mm_foc rfl) (Nat.le_of_ble_eq_true rfl) ?_  -- calls 54 cX4_ifBurnt
  refine w_st rfl rfl rfl trivial ?_
  refine w_lt 0 rfl (mm_fac (n := 1) rfl) rfl (by decide) ?_
  refine w_st rfl rfl rfl trivial ?_
  refine w_st rfl rfl rfl trivial ?_
  refine w_reti rfl ?_
  exact hF ▸ ⟨rfl, rfl, rfl⟩
theorem h_ifBurnt_1 (hc : mm_TH 54 4 [.ref 0, .int x, .int y, .int z] g I 1) : mm_Me 171 6 [.ref 0, .int x, .int y, .int z, .ref 70] (mm_hp g I) ((0, some (.int (nI 1))), mm_hp (mm_gx g) I) := by
  refine w_MG ?_
  show mm_W 171 0 [.ref 0, .int x, .int y, .int z, .ref 70, .null] [] _ _ _
  generalize hF : mm_EG _ _ _ = F
  refine w_st rfl rfl rfl trivial ?_
  refine w_st rfl rfl rfl trivial ?_
  refine w_st rfl rfl rfl trivial ?_
  refine w_st rfl rfl rfl trivial ?_
  refine w_st rfl rfl rfl trivial ?_
  refine w_st rfl rfl rfl trivial ?_
  refine w_cx (q := (17, 5)) (hc) rfl ⟨rfl, by decide, by decide, by decide, Or.inl ⟨_, rfl⟩⟩ rfl (Nat.le_of_ble_eq_true rfl) (Nat.le_of_ble_eq_true rfl) (mm_foc rfl) (Nat.le_of_ble_eq_true rfl) (by decide) rfl rfl ?_
  refine w_st rfl rfl rfl trivial ?_
  refine w_reti rfl ?_
  exact hF ▸ ⟨rfl, rfl, rfl⟩
theorem h_ifBurnt_2 (hc : mm_TH 54 4 [.ref 0, .int x, .int y, .int z] g I 2) : mm_Me 171 6 [.ref 0, .int x, .int y, .int z, .ref 70] (mm_hp g I) ((0, some (.int (nI 2))), mm_hp (mm_gx g) I) := by
  refine w_MG ?_
  show mm_W 171 0 [.ref 0, .int x, .int y, .int z, .ref 70, .null] [] _ _ _
  generalize hF : mm_EG _ _ _ = F
  refine w_st rfl rfl rfl trivial ?_
  refine w_st rfl rfl rfl trivial ?_
  refine w_st rfl rfl rfl trivial ?_
  refine w_st rfl rfl rfl trivial ?_
  refine w_st rfl rfl rfl trivial ?_
  refine w_st rfl rfl rfl trivial ?_
  refine w_cx (q := (21, 5)) (hc) rfl ⟨rfl, by decide, by decide, by decide, Or.inl ⟨_, rfl⟩⟩ rfl (Nat.le_of_ble_eq_true rfl) (Nat.le_of_ble_eq_true rfl) (mm_foc rfl) (Nat.le_of_ble_eq_true rfl) (by decide) rfl rfl ?_
  refine w_st rfl rfl rfl trivial ?_
  refine w_reti rfl ?_
  exact hF ▸ ⟨rfl, rfl, rfl⟩
theorem h_worstLamp (hc : mm_M 55 8 [.ref 0, .int x] g I (some (.int v)) I1) : mm_Me 172 4 [.ref 0, .int x, .ref 70] (mm_hp g I) ((0, some (.int (nI 0))), mm_hp (mm_g2 g v.toInt64) I1) := by
  refine w_MG ?_
  show mm_W 172 0 [.ref 0, .int x, .ref 70, .null] [] _ _ _
  generalize hF : mm_EG _ _ _ = F
  refine w_st rfl rfl rfl trivial ?_
  refine w_st rfl rfl rfl trivial ?_
  refine w_st rfl rfl rfl trivial ?_
  refine w_st rfl rfl rfl trivial ?_
  refine w_k21 (hc) rfl ⟨rfl, by decide, by decide, by decide, Or.inl ⟨_, rfl⟩⟩ (Nat.le_of_ble_eq_true rfl) (mm_foc rfl) (Nat.le_of_ble_eq_true rfl) ?_  -- calls 55 cX4_worstLamp
  refine w_st rfl rfl rfl trivial ?_
  refine w_lt 0 rfl (mm_fac (n := 1) rfl) rfl (by decide) ?_
  refine w_st rfl rfl rfl trivial ?_
  refine w_st rfl rfl rfl trivial ?_
  refine w_reti rfl ?_
  exact hF ▸ ⟨rfl, rfl, rfl⟩
theorem h_worstLamp_1 (hc : mm_TH 55 8 [.ref 0, .int x] g I 1) : mm_Me 172 4 [.ref 0, .int x, .ref 70] (mm_hp g I) ((0, some (.int (nI 1))), mm_hp (mm_gx g) I) := by
  refine w_MG ?_
  show mm_W 172 0 [.ref 0, .int x, .ref 70, .null] [] _ _ _
  generalize hF : mm_EG _ _ _ = F
  refine w_st rfl rfl rfl trivial ?_
  refine w_st rfl rfl rfl trivial ?_
  refine w_st rfl rfl rfl trivial ?_
  refine w_st rfl rfl rfl trivial ?_
  refine w_cx (q := (13, 3)) (hc) rfl ⟨rfl, by decide, by decide, by decide, Or.inl ⟨_, rfl⟩⟩ rfl (Nat.le_of_ble_eq_true rfl) (Nat.le_of_ble_eq_true rfl) (mm_foc rfl) (Nat.le_of_ble_eq_true rfl) (by decide) rfl rfl ?_
  refine w_st rfl rfl rfl trivial ?_
  refine w_reti rfl ?_
  exact hF ▸ ⟨rfl, rfl, rfl⟩
theorem h_strictest (hc : mm_M 56 3 [.ref 0, .int x] g I (some (.int v)) I1) : mm_Me 173 4 [.ref 0, .int x, .ref 70] (mm_hp g I) ((0, some (.int (nI 0))), mm_hp (mm_g2 g v.toInt64) I1) := by
  refine w_MG ?_
  show mm_W 173 0 [.ref 0, .int x, .ref 70, .null] [] _ _ _
  generalize hF : mm_EG _ _ _ = F
  refine w_st rfl rfl rfl trivial ?_
  refine w_st rfl rfl rfl trivial ?_
  refine w_st rfl rfl rfl trivial ?_
  refine w_st rfl rfl rfl trivial ?_
  refine w_k21 (hc) rfl ⟨rfl, by decide, by decide, by decide, Or.inl ⟨_, rfl⟩⟩ (Nat.le_of_ble_eq_true rfl) (mm_foc rfl) (Nat.le_of_ble_eq_true rfl) ?_  -- calls 56 cX4_strictest
  refine w_st rfl rfl rfl trivial ?_
  refine w_lt 0 rfl (mm_fac (n := 1) rfl) rfl (by decide) ?_
  refine w_st rfl rfl rfl trivial ?_
  refine w_st rfl rfl rfl trivial ?_
  refine w_reti rfl ?_
  exact hF ▸ ⟨rfl, rfl, rfl⟩
theorem h_strictest_1 (hc : mm_TH 56 3 [.ref 0, .int x] g I 1) : mm_Me 173 4 [.ref 0, .int x, .ref 70] (mm_hp g I) ((0, some (.int (nI 1))), mm_hp (mm_gx g) I) := by
  refine w_MG ?_
  show mm_W 173 0 [.ref 0, .int x, .ref 70, .null] [] _ _ _
  generalize hF : mm_EG _ _ _ = F
  refine w_st rfl rfl rfl trivial ?_
  refine w_st rfl rfl rfl trivial ?_
  refine w_st rfl rfl rfl trivial ?_
  refine w_st rfl rfl rfl trivial ?_
  refine w_cx (q := (13, 3)) (hc) rfl ⟨rfl, by decide, by decide, by decide, Or.inl ⟨_, rfl⟩⟩ rfl (Nat.le_of_ble_eq_true rfl) (Nat.le_of_ble_eq_true rfl) (mm_foc rfl) (Nat.le_of_ble_eq_true rfl) (by decide) rfl rfl ?_
  refine w_st rfl rfl rfl trivial ?_
  refine w_reti rfl ?_
  exact hF ▸ ⟨rfl, rfl, rfl⟩
end SM
