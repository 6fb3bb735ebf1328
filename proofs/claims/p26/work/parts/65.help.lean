/-! the law's helpers -/
theorem w_sy {mi pc np : Nat} {ls st : List Value} {I : mm_Is} {F : mm_Ph} {v : Value} {cn sn L : Nat} {J : Nat → Nat → Int64} {xs : Nat → Int32} (k : Nat) {x : Int32} (he : mm_code mi pc = some (.iaload, np, v, [1])) (hx : x = nI k) (hk : k < L) (hL : L ≤ 260) (K : mm_W mi np ls (.int (xs k) :: st) (cn, sn, J, L, xs) I F) : mm_W mi pc ls (.int x :: .ref 1001 :: st) (cn, sn, J, L, xs) I F :=
  w_sx k he hx hk (show L < 2 ^ 31 by omega) K
def mm_EG (k : Int32) (g1 : mm_Gg) (I1 : mm_Is) : mm_Ph := fun q g' I' => q = (0, some (.int k)) ∧ g' = g1 ∧ I' = I1
theorem w_MG {mj L : Nat} {av : List Value} {g g1 : mm_Gg} {I I1 : mm_Is} {k : Int32} (h : mm_W mj 0 (mm_ent L av) [] g I (mm_EG k g1 I1)) : mm_Me mj L av (mm_hp g I) ((0, some (.int k)), mm_hp g1 I1) := by
  obtain ⟨q, g', J, h1, h2, h3, h4⟩ := h
  subst h2 h3 h4
  exact h1
def sp_lw (v : Int32) (n : Nat) : Nat := (v &&& 2147483647).toBitVec.toNat % n
theorem p_and31 (v : Int32) : (v &&& 2147483647).toBitVec.toNat < 2 ^ 31 := by
  rw [Int32.toBitVec_and, BitVec.toNat_and]
  exact Nat.lt_of_le_of_lt Nat.and_le_right (by decide)
theorem p_nI (x : Int32) : x = nI x.toBitVec.toNat := by
  apply Int32.toBitVec_inj.1
  show x.toBitVec = BitVec.ofNat 32 x.toBitVec.toNat
  rw [BitVec.ofNat_toNat, BitVec.setWidth_eq]
theorem p_div {m n : Nat} (hm : m < 2 ^ 31) (hn : n < 2 ^ 31) : nI m / nI n = nI (m / n) := by
  have hq : m / n ≤ m := Nat.div_le_self _ _
  apply Int32.toInt_inj.1
  rw [Int32.toInt_div, nI_toInt hm, nI_toInt hn, nI_toInt (by omega), ← Int.ofNat_tdiv]
  generalize m / n = q at *
  unfold Int.bmod
  dsimp only
  split <;> omega
theorem p_mod {m n : Nat} (hm : m < 2 ^ 31) (hn : n < 2 ^ 31) : nI m - nI m / nI n * nI n = nI (m % n) := by
  have h := Nat.div_add_mod m n
  rw [Nat.mul_comm] at h
  rw [p_div hm hn, nI_mul, nI_sub (by omega)]
  congr 1
  omega
section SM
variable {g : mm_Gg} {I I1 : mm_Is} {x y z v : Int32} {l d k t f n m L cn sn : Nat} {J : Nat → Nat → Int64} {xs : Nat → Int32}
theorem sp_lw_lt (hn : 0 < n) : sp_lw v n < n := Nat.mod_lt _ hn
theorem l_low (hn0 : 0 < n) (hn : n < 2 ^ 31) : mm_M 68 2 [.int v, .int (nI n)] g I (some (.int (nI (sp_lw v n)))) I := by
  have hne : ¬ nI n = 0 := fun z => by have := (nI_eq (b := 0) hn (by decide)).1 z; omega
  refine w_M ?_
  show mm_W 68 0 [.int v, .int (nI n)] [] _ _ _
  generalize hF : mm_EX _ _ _ = F
  refine w_st rfl rfl rfl trivial ?_
  refine w_st rfl rfl rfl trivial ?_
  refine w_iand rfl ?_
  refine w_st rfl rfl rfl trivial ?_
  refine w_irem rfl hne ?_
  rw [p_nI (v &&& 2147483647), p_mod (p_and31 v) hn]
  refine w_reti rfl ?_
  exact hF ▸ mm_EX_i (rfl)
theorem l_cell (hL : L ≤ 260) (hk : k < L) : mm_M 69 2 [.ref 1001, .int (nI k)] (cn, sn, J, L, xs) I (some (.int (xs k))) I := by
  refine w_M ?_
  show mm_W 69 0 [.ref 1001, .int (nI k)] [] _ _ _
  generalize hF : mm_EX _ _ _ = F
  refine w_st rfl rfl rfl trivial ?_
  refine w_st rfl rfl rfl trivial ?_
  refine w_st rfl rfl rfl rfl ?_
  refine w_n_ge (a := k) (b := L) rfl (by first | decide | omega) (by first | decide | omega) (by first | rfl | assumption | (simp only [← nI_add, ← nI_mul]; rfl)) (by first | rfl | assumption | (simp only [← nI_add, ← nI_mul]; rfl)) (fun c => by exfalso; omega) (fun _ => ?_)
  refine w_st rfl rfl rfl trivial ?_
  refine w_st rfl rfl rfl trivial ?_
  refine w_sy (k) rfl (by first | rfl | assumption | (simp only [← nI_add, ← nI_mul]; rfl)) (by first | decide | omega) hL ?_
  refine w_st rfl rfl rfl trivial ?_
  refine w_reti rfl ?_
  exact hF ▸ mm_EX_i (rfl)
theorem l_ones (h : sp_b15 x) : mm_M 70 3 [.int x] g I (some (.int (sp_pop x))) I := by
  refine w_M ?_
  show mm_W 70 0 [.int x, .null, .null] [] _ _ _
  generalize hF : mm_EX _ _ _ = F
  refine w_st rfl rfl rfl trivial ?_
  refine w_st rfl rfl rfl (Nat.le_of_ble_eq_true rfl) ?_
  refine w_st rfl rfl rfl trivial ?_
  refine w_st rfl rfl rfl (Nat.le_of_ble_eq_true rfl) ?_
  have L : ∀ m, m < 32768 → ∀ c : Int32, c + sp_pop (nI m) = sp_pop x → mm_W 70 4 [.int x, .int c, .int (nI m)] [] g I F := by
    intro m
    induction m using Nat.strongRecOn with
    | ind m ih =>
      intro hm c hc
      refine w_st rfl rfl rfl trivial ?_
      refine w_m_eq (a := m) rfl (by first | decide | omega) (by first | rfl | assumption | (simp only [← nI_add, ← nI_mul]; rfl)) (fun c1 => ?_) (fun c1 => ?_)
      · subst c1
        refine w_st rfl rfl rfl trivial ?_
        refine w_reti rfl ?_
        exact hF ▸ mm_EX_i (by rw [← hc, show sp_pop (nI 0) = 0 from by decide +kernel, Int32.add_zero])
      · skip
        refine w_inc rfl rfl rfl (Nat.le_of_ble_eq_true rfl) rfl ?_
        refine w_st rfl rfl rfl trivial ?_
        refine w_st rfl rfl rfl trivial ?_
        refine w_st rfl rfl rfl trivial ?_
        refine w_isub rfl ?_
        refine w_iand rfl ?_
        refine w_st rfl rfl rfl (Nat.le_of_ble_eq_true rfl) ?_
        refine w_st rfl rfl rfl trivial ?_
        obtain ⟨k1, k2, k3, k4⟩ := sp_ck_of hm (by assumption)
        refine w_ls (ls' := [.int x, .int (c + 1), .int (nI (Nat.land m (m - 1)))]) ?_ (ih _ k2 (by omega) (c + 1) ?_)
        · rw [← k1]; rfl
        · rw [← hc, k3, Int32.add_assoc, Int32.add_comm 1]
  obtain ⟨n, hn, rfl⟩ := h
  exact L n hn 0 (by rw [Int32.zero_add])
theorem h_show (hc : mm_M 27 4 [.ref 0, .int x, .int y] g I (some (.int v)) I1) : mm_M 71 4 [.ref 0, .int x, .int y] g I (some (.int v)) I1 := by
  refine w_M ?_
  show mm_W 71 0 [.ref 0, .int x, .int y, .null] [] _ _ _
  generalize hF : mm_EX _ _ _ = F
  refine w_st rfl rfl rfl trivial ?_
  refine w_st rfl rfl rfl trivial ?_
  refine w_st rfl rfl rfl trivial ?_
  refine w_k31 (hc) rfl ⟨rfl, by decide, by decide, by decide, Or.inl ⟨_, rfl⟩⟩ (Nat.le_of_ble_eq_true rfl) (mm_foc rfl) (Nat.le_of_ble_eq_true rfl) ?_  -- calls 27 cX4_show
  refine w_reti rfl ?_
  exact hF ▸ mm_EX_i (rfl)
theorem h_show_3 (hc : mm_TH 27 4 [.ref 0, .int x, .int y] g I 3) : mm_Me 71 4 [.ref 0, .int x, .int y] (mm_hp g I) ((0, some (.int (-3))), mm_hp (mm_gx g) I) := by
  refine w_MG ?_
  show mm_W 71 0 [.ref 0, .int x, .int y, .null] [] _ _ _
  generalize hF : mm_EG _ _ _ = F
  refine w_st rfl rfl rfl trivial ?_
  refine w_st rfl rfl rfl trivial ?_
  refine w_st rfl rfl rfl trivial ?_
  refine w_cx (q := (8, 3)) (hc) rfl ⟨rfl, by decide, by decide, by decide, Or.inl ⟨_, rfl⟩⟩ rfl (Nat.le_of_ble_eq_true rfl) (Nat.le_of_ble_eq_true rfl) (mm_foc rfl) (Nat.le_of_ble_eq_true rfl) (by decide) rfl rfl ?_
  refine w_st rfl rfl rfl trivial ?_
  refine w_reti rfl ?_
  exact hF ▸ ⟨rfl, rfl, rfl⟩
theorem h_number (hc : mm_M 28 3 [.ref 0, .int x] g I (some (.int v)) I1) : mm_M 72 3 [.ref 0, .int x] g I (some (.int v)) I1 := by
  refine w_M ?_
  show mm_W 72 0 [.ref 0, .int x, .null] [] _ _ _
  generalize hF : mm_EX _ _ _ = F
  refine w_st rfl rfl rfl trivial ?_
  refine w_st rfl rfl rfl trivial ?_
  refine w_k21 (hc) rfl ⟨rfl, by decide, by decide, by decide, Or.inl ⟨_, rfl⟩⟩ (Nat.le_of_ble_eq_true rfl) (mm_foc rfl) (Nat.le_of_ble_eq_true rfl) ?_  -- calls 28 cX4_number
  refine w_reti rfl ?_
  exact hF ▸ mm_EX_i (rfl)
theorem h_number_3 (hc : mm_TH 28 3 [.ref 0, .int x] g I 3) : mm_Me 72 3 [.ref 0, .int x] (mm_hp g I) ((0, some (.int (-3))), mm_hp (mm_gx g) I) := by
  refine w_MG ?_
  show mm_W 72 0 [.ref 0, .int x, .null] [] _ _ _
  generalize hF : mm_EG _ _ _ = F
  refine w_st rfl rfl rfl trivial ?_
  refine w_st rfl rfl rfl trivial ?_
  refine w_cx (q := (7, 2)) (hc) rfl ⟨rfl, by decide, by decide, by decide, Or.inl ⟨_, rfl⟩⟩ rfl (Nat.le_of_ble_eq_true rfl) (Nat.le_of_ble_eq_true rfl) (mm_foc rfl) (Nat.le_of_ble_eq_true rfl) (by decide) rfl rfl ?_
  refine w_st rfl rfl rfl trivial ?_
  refine w_reti rfl ?_
  exact hF ▸ ⟨rfl, rfl, rfl⟩
theorem h_undo (hc : mm_M 33 1 [.ref 0] g I (some (.int v)) I1) : mm_M 73 2 [.ref 0] g I (some (.int v)) I1 := by
  refine w_M ?_
  show mm_W 73 0 [.ref 0, .null] [] _ _ _
  generalize hF : mm_EX _ _ _ = F
  refine w_st rfl rfl rfl trivial ?_
  refine w_k11 (hc) rfl ⟨rfl, by decide, by decide, by decide, Or.inl ⟨_, rfl⟩⟩ (Nat.le_of_ble_eq_true rfl) (mm_foc rfl) (Nat.le_of_ble_eq_true rfl) ?_  -- calls 33 cX4_undo
  refine w_reti rfl ?_
  exact hF ▸ mm_EX_i (rfl)
theorem h_undo_3 (hc : mm_TH 33 1 [.ref 0] g I 3) : mm_Me 73 2 [.ref 0] (mm_hp g I) ((0, some (.int (-3))), mm_hp (mm_gx g) I) := by
  refine w_MG ?_
  show mm_W 73 0 [.ref 0, .null] [] _ _ _
  generalize hF : mm_EG _ _ _ = F
  refine w_st rfl rfl rfl trivial ?_
  refine w_cx (q := (6, 1)) (hc) rfl ⟨rfl, by decide, by decide, by decide, Or.inl ⟨_, rfl⟩⟩ rfl (Nat.le_of_ble_eq_true rfl) (Nat.le_of_ble_eq_true rfl) (mm_foc rfl) (Nat.le_of_ble_eq_true rfl) (by decide) rfl rfl ?_
  refine w_st rfl rfl rfl trivial ?_
  refine w_reti rfl ?_
  exact hF ▸ ⟨rfl, rfl, rfl⟩
end SM
