/-! counting lamps, both ways -/
noncomputable def sp_if {α : Type} (p : Prop) (x y : α) : α := @ite α p (Classical.propDecidable p) x y
theorem sp_if_t {α : Type} {p : Prop} (h : p) (x y : α) : sp_if p x y = x := by unfold sp_if; exact @if_pos _ (Classical.propDecidable p) h _ _ _
theorem sp_if_f {α : Type} {p : Prop} (h : ¬ p) (x y : α) : sp_if p x y = y := by unfold sp_if; exact @if_neg _ (Classical.propDecidable p) h _ _ _
def sp_q1 (x : Nat) : Nat := x - Nat.land (Nat.shiftRight x 1) 1431655765
def sp_q2 (x : Nat) : Nat := Nat.land x 858993459 + Nat.land (Nat.shiftRight x 2) 858993459
def sp_q3 (x : Nat) : Nat := Nat.land (x + Nat.shiftRight x 4) 252645135
def sp_q4 (x : Nat) : Nat := x + Nat.shiftRight x 8
def sp_q5 (x : Nat) : Nat := x + Nat.shiftRight x 16
def sp_qq (x : Nat) : Nat := Nat.land (sp_q5 (sp_q4 (sp_q3 (sp_q2 (sp_q1 x))))) 63
def sp_ck (m : Nat) : Bool := Nat.beq m 0 || (Nat.beq (sp_qq m) (sp_qq (Nat.land m (m - 1)) + 1) && Nat.ble (sp_qq m) 15)
def sp_al (f : Nat → Bool) : Nat → Nat → Bool
  | 0, a => f a
  | n + 1, a => sp_al f n a && sp_al f n (a + 2 ^ n)
theorem sp_al_of {f : Nat → Bool} : ∀ (n a : Nat), sp_al f n a = true → ∀ m, a ≤ m → m < a + 2 ^ n → f m = true := by
  intro n
  induction n with
  | zero =>
    intro a h m h1 h2
    have : m = a := by simp at h2; omega
    subst this
    exact h
  | succ n ih =>
    intro a h m h1 h2
    have h' : (sp_al f n a && sp_al f n (a + 2 ^ n)) = true := h
    rw [Bool.and_eq_true] at h'
    have e : 2 ^ (n + 1) = 2 ^ n + 2 ^ n := by rw [Nat.pow_succ]; omega
    by_cases c : m < a + 2 ^ n
    · exact ih a h'.1 m h1 c
    · exact ih (a + 2 ^ n) h'.2 m (by omega) (by omega)
theorem sp_ck_0 : sp_al sp_ck 12 0 = true := by decide +kernel
theorem sp_ck_1 : sp_al sp_ck 12 4096 = true := by decide +kernel
theorem sp_ck_2 : sp_al sp_ck 12 8192 = true := by decide +kernel
theorem sp_ck_3 : sp_al sp_ck 12 12288 = true := by decide +kernel
theorem sp_ck_4 : sp_al sp_ck 12 16384 = true := by decide +kernel
theorem sp_ck_5 : sp_al sp_ck 12 20480 = true := by decide +kernel
theorem sp_ck_6 : sp_al sp_ck 12 24576 = true := by decide +kernel
theorem sp_ck_7 : sp_al sp_ck 12 28672 = true := by decide +kernel
theorem sp_ck_all {m : Nat} (h : m < 32768) : sp_ck m = true := by
  have key : ∀ i, i < 8 → m / 4096 = i → sp_ck m = true := by
    intro i hi h1
    have h2 : 4096 * i ≤ m ∧ m < 4096 * i + 2 ^ 12 := by omega
    match i, hi with
    | 0, _ => exact sp_al_of 12 _ sp_ck_0 m h2.1 h2.2
    | 1, _ => exact sp_al_of 12 _ sp_ck_1 m h2.1 h2.2
    | 2, _ => exact sp_al_of 12 _ sp_ck_2 m h2.1 h2.2
    | 3, _ => exact sp_al_of 12 _ sp_ck_3 m h2.1 h2.2
    | 4, _ => exact sp_al_of 12 _ sp_ck_4 m h2.1 h2.2
    | 5, _ => exact sp_al_of 12 _ sp_ck_5 m h2.1 h2.2
    | 6, _ => exact sp_al_of 12 _ sp_ck_6 m h2.1 h2.2
    | 7, _ => exact sp_al_of 12 _ sp_ck_7 m h2.1 h2.2
  exact key (m / 4096) (by omega) rfl
theorem nI_bv (n : Nat) : (nI n).toBitVec = BitVec.ofNat 32 n := rfl
theorem nI_and (a b : Nat) : nI a &&& nI b = nI (Nat.land a b) := by
  apply Int32.toBitVec_inj.1
  rw [Int32.toBitVec_and, nI_bv, nI_bv, nI_bv]
  exact BitVec.ofNat_and.symm
theorem nI_sub {a b : Nat} (h : b ≤ a) : nI a - nI b = nI (a - b) := by
  have e : nI a = nI (a - b) + nI b := by rw [nI_add, Nat.sub_add_cancel h]
  rw [e, Int32.add_sub_cancel]
theorem sp_us_n {n j : Nat} (hn : n < 2 ^ 32) {k : Int32} (hk : ((k.toUInt32 &&& Int32.toUInt32 31).toBitVec % 32).toNat = j) : sp_us (nI n) k = nI (Nat.shiftRight n j) := by
  subst hk
  apply Int32.toBitVec_inj.1
  apply BitVec.eq_of_toNat_eq
  show ((nI n).toUInt32 >>> (k.toUInt32 &&& Int32.toUInt32 31)).toBitVec.toNat = (BitVec.ofNat 32 (Nat.shiftRight n _)).toNat
  rw [UInt32.toBitVec_shiftRight, BitVec.ushiftRight_eq', BitVec.toNat_ushiftRight]
  have e : (nI n).toUInt32.toBitVec.toNat = n := by
    show (BitVec.ofNat 32 n).toNat = n
    rw [BitVec.toNat_ofNat, Nat.mod_eq_of_lt hn]
  rw [e, BitVec.toNat_ofNat]
  exact (Nat.mod_eq_of_lt (Nat.lt_of_le_of_lt (Nat.shiftRight_le _ _) hn)).symm
theorem sp_land_le (a b : Nat) : Nat.land a b ≤ b := Nat.and_le_right
theorem sp_land_le1 (a b : Nat) : Nat.land a b ≤ a := Nat.and_le_left
theorem sp_shr_le (a b : Nat) : Nat.shiftRight a b ≤ a := Nat.shiftRight_le a b
theorem sp_pop_n {n : Nat} (h : n < 32768) : sp_pop (nI n) = nI (sp_qq n) := by
  have h1 : Nat.land (Nat.shiftRight n 1) 1431655765 ≤ n := Nat.le_trans (sp_land_le1 _ _) (sp_shr_le _ _)
  have e1 : sp_p1 (nI n) = nI (sp_q1 n) := by
    unfold sp_p1 sp_q1
    rw [sp_us_n (j := 1) (by omega) (by decide)]
    show nI n - (nI (Nat.shiftRight n 1) &&& nI 1431655765) = _
    rw [nI_and, nI_sub h1]
  have b1 : sp_q1 n < 32768 := by unfold sp_q1; omega
  have e2 : sp_p2 (nI (sp_q1 n)) = nI (sp_q2 (sp_q1 n)) := by
    unfold sp_p2 sp_q2
    rw [sp_us_n (j := 2) (by omega) (by decide)]
    show (nI _ &&& nI 858993459) + (nI _ &&& nI 858993459) = _
    rw [nI_and, nI_and, nI_add]
  have b2 : sp_q2 (sp_q1 n) < 65536 := by
    unfold sp_q2
    have := sp_land_le1 (sp_q1 n) 858993459
    have := sp_land_le1 (Nat.shiftRight (sp_q1 n) 2) 858993459
    have := sp_shr_le (sp_q1 n) 2
    omega
  have e3 : sp_p3 (nI (sp_q2 (sp_q1 n))) = nI (sp_q3 (sp_q2 (sp_q1 n))) := by
    unfold sp_p3 sp_q3
    rw [sp_us_n (j := 4) (by omega) (by decide), nI_add]
    show nI _ &&& nI 252645135 = _
    rw [nI_and]
  have b3 : sp_q3 (sp_q2 (sp_q1 n)) < 131072 := by
    unfold sp_q3
    have := sp_land_le1 (sp_q2 (sp_q1 n) + Nat.shiftRight (sp_q2 (sp_q1 n)) 4) 252645135
    have := sp_shr_le (sp_q2 (sp_q1 n)) 4
    omega
  have e4 : sp_p4 (nI (sp_q3 (sp_q2 (sp_q1 n)))) = nI (sp_q4 (sp_q3 (sp_q2 (sp_q1 n)))) := by
    unfold sp_p4 sp_q4
    rw [sp_us_n (j := 8) (by omega) (by decide), nI_add]
  have b4 : sp_q4 (sp_q3 (sp_q2 (sp_q1 n))) < 262144 := by
    unfold sp_q4
    have := sp_shr_le (sp_q3 (sp_q2 (sp_q1 n))) 8
    omega
  have e5 : sp_p5 (nI (sp_q4 (sp_q3 (sp_q2 (sp_q1 n))))) = nI (sp_q5 (sp_q4 (sp_q3 (sp_q2 (sp_q1 n))))) := by
    unfold sp_p5 sp_q5
    rw [sp_us_n (j := 16) (by omega) (by decide), nI_add]
  unfold sp_pop sp_qq
  rw [e1, e2, e3, e4, e5]
  show nI _ &&& nI 63 = _
  rw [nI_and]
/-- x is a set of lamps -/
def sp_b15 (x : Int32) : Prop := ∃ n, n < 32768 ∧ x = nI n
theorem sp_ck_of {m : Nat} (h : m < 32768) (h0 : 0 < m) : (nI m &&& (nI m - 1)) = nI (Nat.land m (m - 1)) ∧ Nat.land m (m - 1) < m ∧ sp_pop (nI m) = sp_pop (nI (Nat.land m (m - 1))) + 1 ∧ ∃ k, k < 16 ∧ sp_pop (nI m) = nI k := by
  have x := sp_ck_all h
  unfold sp_ck at x
  rw [Bool.or_eq_true] at x
  have hl : Nat.land m (m - 1) < m := Nat.lt_of_le_of_lt (sp_land_le _ _) (by omega)
  rcases x with x | x
  · have := Nat.eq_of_beq_eq_true x; omega
  · rw [Bool.and_eq_true] at x
    obtain ⟨x1, x2⟩ := x
    refine ⟨?_, hl, ?_, sp_qq m, Nat.lt_succ_of_le (Nat.le_of_ble_eq_true x2), sp_pop_n h⟩
    · show nI m &&& (nI m - nI 1) = _
      rw [nI_sub (by omega), nI_and]
    · rw [sp_pop_n h, sp_pop_n (by omega), Nat.eq_of_beq_eq_true x1]
      exact (nI_1 _).symm
theorem sp_pop_k {x : Int32} (h : sp_b15 x) : ∃ k, k < 16 ∧ sp_pop x = nI k := by
  obtain ⟨n, hn, rfl⟩ := h
  rcases Nat.eq_zero_or_pos n with rfl | h0
  · exact ⟨0, by decide, by decide +kernel⟩
  · exact (sp_ck_of hn h0).2.2.2
theorem sp_b15_iff {x : Int32} : sp_b15 x ↔ x.toBitVec.toNat < 32768 := by
  constructor
  · rintro ⟨n, hn, rfl⟩
    show (BitVec.ofNat 32 n).toNat < 32768
    rw [BitVec.toNat_ofNat]
    exact Nat.lt_of_le_of_lt (Nat.mod_le _ _) hn
  · intro h
    refine ⟨x.toBitVec.toNat, h, ?_⟩
    apply Int32.toBitVec_inj.1
    show x.toBitVec = BitVec.ofNat 32 x.toBitVec.toNat
    rw [BitVec.ofNat_toNat, BitVec.setWidth_eq]
theorem sp_b15_and {x : Int32} (h : sp_b15 x) (y : Int32) : sp_b15 (x &&& y) := by
  rw [sp_b15_iff] at h ⊢
  rw [Int32.toBitVec_and, BitVec.toNat_and]
  exact Nat.lt_of_le_of_lt Nat.and_le_left h
theorem sp_b15_xor {x y : Int32} (h : sp_b15 x) (h' : sp_b15 y) : sp_b15 (x ^^^ y) := by
  rw [sp_b15_iff] at h h' ⊢
  rw [Int32.toBitVec_xor, BitVec.toNat_xor]
  exact Nat.xor_lt_two_pow (n := 15) h h'
theorem sp_b15_or {x y : Int32} (h : sp_b15 x) (h' : sp_b15 y) : sp_b15 (x ||| y) := by
  rw [sp_b15_iff] at h h' ⊢
  rw [Int32.toBitVec_or, BitVec.toNat_or]
  exact Nat.or_lt_two_pow (n := 15) h h'
theorem sp_b15_S : ∀ k, k < 30 → sp_b15 (mm_SHP k) := by
  intro k hk
  rw [sp_b15_iff]
  revert k
  decide +kernel
theorem sp_b15_bit {l : Nat} (h : l < 15) : sp_b15 (sp_bit l) := by
  rw [sp_b15_iff]
  revert l
  decide +kernel
theorem sp_b15_0 : sp_b15 0 := ⟨0, by decide, rfl⟩
section SM
variable {g : mm_Gg} {I : mm_Is} {x y z : Int32} {l d k : Nat}
end SM
