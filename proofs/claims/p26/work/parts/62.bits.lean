/-! lamps one by one: counting by bits -/
def p_bs (p : Nat → Bool) : Nat → Nat
  | 0 => 0
  | k + 1 => p_bs p k + (bif p k then 1 else 0)
theorem p_bs_f (p : Nat → Bool) (k : Nat) : p_bs p (k + 1) = (bif p 0 then 1 else 0) + p_bs (fun i => p (i + 1)) k := by
  induction k with
  | zero => exact Nat.add_comm _ _
  | succ k ih =>
    show p_bs p (k + 1) + (bif p (k + 1) then 1 else 0) = _ + (p_bs (fun i => p (i + 1)) k + (bif p (k + 1) then 1 else 0))
    rw [ih, Nat.add_assoc]
theorem p_bs_c {p q : Nat → Bool} (k : Nat) (h : ∀ i, i < k → p i = q i) : p_bs p k = p_bs q k := by
  induction k with
  | zero => rfl
  | succ k ih =>
    show p_bs p k + (bif p k then 1 else 0) = p_bs q k + (bif q k then 1 else 0)
    rw [ih (fun i hi => h i (by omega)), h k (by omega)]
theorem p_bs_le (p : Nat → Bool) (k : Nat) : p_bs p k ≤ k := by
  induction k with
  | zero => exact Nat.le_refl _
  | succ k ih =>
    show p_bs p k + (bif p k then 1 else 0) ≤ k + 1
    cases p k
    · exact Nat.le_trans ih (Nat.le_succ k)
    · exact Nat.succ_le_succ ih
theorem p_bs_mono {p q : Nat → Bool} (k : Nat) (h : ∀ i, i < k → p i = true → q i = true) : p_bs p k ≤ p_bs q k := by
  induction k with
  | zero => exact Nat.le_refl _
  | succ k ih =>
    have i1 := ih (fun i hi => h i (by omega))
    have i2 := h k (by omega)
    show p_bs p k + (bif p k then 1 else 0) ≤ p_bs q k + (bif q k then 1 else 0)
    cases hp : p k
    · exact Nat.le_trans i1 (Nat.le_add_right _ _)
    · rw [i2 hp]; exact Nat.succ_le_succ i1
theorem p_bs_one {p q : Nat → Bool} {i : Nat} (hp : p i = false) (hq : q i = true) (ho : ∀ j, ¬ j = i → q j = p j) : ∀ k, i < k → p_bs q k = p_bs p k + 1 := by
  intro k
  induction k with
  | zero => intro h; omega
  | succ k ih =>
    intro h
    show p_bs q k + (bif q k then 1 else 0) = p_bs p k + (bif p k then 1 else 0) + 1
    by_cases c : k = i
    · subst c
      rw [hp, hq, p_bs_c k (fun j hj => ho j (by omega))]
      rfl
    · rw [ih (by omega), ho k c, Nat.add_right_comm]
def p_hc (m : Nat) : Bool := Nat.beq (sp_qq m) (sp_qq (m / 2) + m % 2)
theorem p_hc_0 : sp_al p_hc 12 0 = true := by decide +kernel
theorem p_hc_1 : sp_al p_hc 12 4096 = true := by decide +kernel
theorem p_hc_2 : sp_al p_hc 12 8192 = true := by decide +kernel
theorem p_hc_3 : sp_al p_hc 12 12288 = true := by decide +kernel
theorem p_hc_4 : sp_al p_hc 12 16384 = true := by decide +kernel
theorem p_hc_5 : sp_al p_hc 12 20480 = true := by decide +kernel
theorem p_hc_6 : sp_al p_hc 12 24576 = true := by decide +kernel
theorem p_hc_7 : sp_al p_hc 12 28672 = true := by decide +kernel
theorem p_hc_all {m : Nat} (h : m < 32768) : p_hc m = true := by
  have key : ∀ i, i < 8 → m / 4096 = i → p_hc m = true := by
    intro i hi h1
    have h2 : 4096 * i ≤ m ∧ m < 4096 * i + 2 ^ 12 := by omega
    match i, hi with
    | 0, _ => exact sp_al_of 12 _ p_hc_0 m h2.1 h2.2
    | 1, _ => exact sp_al_of 12 _ p_hc_1 m h2.1 h2.2
    | 2, _ => exact sp_al_of 12 _ p_hc_2 m h2.1 h2.2
    | 3, _ => exact sp_al_of 12 _ p_hc_3 m h2.1 h2.2
    | 4, _ => exact sp_al_of 12 _ p_hc_4 m h2.1 h2.2
    | 5, _ => exact sp_al_of 12 _ p_hc_5 m h2.1 h2.2
    | 6, _ => exact sp_al_of 12 _ p_hc_6 m h2.1 h2.2
    | 7, _ => exact sp_al_of 12 _ p_hc_7 m h2.1 h2.2
  exact key (m / 4096) (by omega) rfl
theorem p_qq_bs : ∀ k, k ≤ 15 → ∀ m, m < 2 ^ k → sp_qq m = p_bs (fun i => m.testBit i) k := by
  intro k
  induction k with
  | zero =>
    intro _ m hm
    have e : m = 0 := by simp at hm; exact hm
    subst e
    show sp_qq 0 = 0
    decide +kernel
  | succ k ih =>
    intro hk m hm
    have h2 : 2 ^ (k + 1) = 2 ^ k + 2 ^ k := by rw [Nat.pow_succ]; omega
    have h32 : m < 32768 := Nat.lt_of_lt_of_le hm (Nat.pow_le_pow_right (n := 2) (by decide) hk)
    have e := Nat.eq_of_beq_eq_true (p_hc_all h32)
    rw [e, ih (by omega) (m / 2) (by omega), p_bs_f]
    have e2 : (fun i => m.testBit (i + 1)) = fun i => (m / 2).testBit i := funext fun i => Nat.testBit_succ m i
    have e3 : (bif m.testBit 0 then 1 else 0) = m % 2 := by
      rw [Nat.testBit_zero]
      rcases Nat.mod_two_eq_zero_or_one m with h | h <;> rw [h] <;> rfl
    rw [e3, Nat.add_comm]
    show _ = m % 2 + p_bs (fun i => m.testBit (i + 1)) k
    rw [e2]
/-- the bit i of a set -/
def p_b (x : Int32) (i : Nat) : Bool := x.toBitVec.getLsbD i
theorem p_pop {x : Int32} (h : sp_b15 x) : sp_pop x = nI (p_bs (p_b x) 15) := by
  obtain ⟨n, hn, rfl⟩ := h
  rw [sp_pop_n hn, p_qq_bs 15 (Nat.le_refl _) n hn]
  congr 1
  refine p_bs_c 15 fun i hi => ?_
  show n.testBit i = (BitVec.ofNat 32 n).getLsbD i
  rw [BitVec.getLsbD_ofNat, decide_eq_true (show i < 32 by omega), Bool.true_and]
section SM
variable {x y z : Int32} {l d k t f j n m s : Nat}
theorem p_b_or : p_b (x ||| y) j = (p_b x j || p_b y j) := by unfold p_b; rw [Int32.toBitVec_or, BitVec.getLsbD_or]
theorem p_b_and : p_b (x &&& y) j = (p_b x j && p_b y j) := by unfold p_b; rw [Int32.toBitVec_and, BitVec.getLsbD_and]
theorem p_b_0 : p_b 0 j = false := by
  unfold p_b
  rw [show (0 : Int32).toBitVec = 0#32 from rfl]
  exact BitVec.getLsbD_zero
theorem p_b_bit (hl : l < 15) : p_b (sp_bit l) j = decide (j = 14 - l) := by
  unfold p_b
  rw [sp_bit_tw hl, BitVec.getLsbD_twoPow, decide_eq_true (show 14 - l < 32 by omega), Bool.true_and]
  exact decide_eq_decide.2 ⟨Eq.symm, Eq.symm⟩
theorem p_b_hi (h : sp_b15 x) (hj : 15 ≤ j) : p_b x j = false := by
  have h1 := sp_b15_iff.1 h
  show x.toBitVec.toNat.testBit j = false
  exact Nat.testBit_lt_two_pow (Nat.lt_of_lt_of_le h1 (Nat.pow_le_pow_right (n := 2) (by decide) hj))
theorem p_ext (h : ∀ j, p_b x j = p_b y j) : x = y := Int32.toBitVec_inj.1 (BitVec.eq_of_getLsbD_eq fun i _ => h i)
theorem p_on (hl : l < 15) : x &&& sp_bit l = 0 ↔ p_b x (14 - l) = false := sp_and_bit hl
theorem p_off (hl : l < 15) : ¬ x &&& sp_bit l = 0 ↔ p_b x (14 - l) = true := by
  rw [p_on hl]
  cases p_b x (14 - l) <;> simp
theorem p_pop_and (hx : sp_b15 x) (hy : sp_b15 y) : ∃ a b, a ≤ b ∧ b < 16 ∧ sp_pop (x &&& y) = nI a ∧ sp_pop y = nI b := by
  refine ⟨p_bs (p_b (x &&& y)) 15, p_bs (p_b y) 15, p_bs_mono 15 (fun i _ h => ?_), Nat.lt_succ_of_le (p_bs_le _ 15), p_pop (sp_b15_and hx y), p_pop hy⟩
  rw [p_b_and, Bool.and_eq_true] at h
  exact h.2
theorem p_pop_or (hl : l < 15) (hx : sp_b15 x) (h : x &&& sp_bit l = 0) : sp_pop (x ||| sp_bit l) = sp_pop x + 1 := by
  rw [p_pop (sp_b15_or hx (sp_b15_bit hl)), p_pop hx, nI_1]
  congr 1
  refine p_bs_one (i := 14 - l) ((p_on hl).1 h) ?_ (fun j hj => ?_) 15 (by omega)
  · rw [p_b_or, p_b_bit hl, decide_eq_true rfl, Bool.or_true]
  · rw [p_b_or, p_b_bit hl, decide_eq_false hj, Bool.or_false]
theorem p_pop_0 (hx : sp_b15 x) (h : sp_pop x = 0) : x = 0 := by
  obtain ⟨n, hn, rfl⟩ := hx
  rcases Nat.eq_zero_or_pos n with rfl | h0
  · rfl
  · exfalso
    obtain ⟨-, -, h3, k, hk, h4⟩ := sp_ck_of hn h0
    obtain ⟨k2, hk2, h5⟩ := sp_pop_k (x := nI (Nat.land n (n - 1))) ⟨_, Nat.lt_of_le_of_lt (sp_land_le1 _ _) hn, rfl⟩
    rw [h3, h5, nI_1] at h
    exact absurd ((nI_eq (b := 0) (by omega) (by decide)).1 h) (by omega)
/-- a set gathered from its lamps, the first k -/
noncomputable def p_ac (x : Int32) : Nat → Int32
  | 0 => 0
  | k + 1 => p_ac x k ||| (mm_bi (¬ x &&& sp_bit k = 0) <<< ((14 - nI k) &&& 31))
theorem p_bi_sh (x : Int32) (k : Nat) : mm_bi (¬ x &&& sp_bit k = 0) <<< ((14 - nI k) &&& 31) = sp_if (x &&& sp_bit k = 0) 0 (sp_bit k) := by
  by_cases c : x &&& sp_bit k = 0
  · rw [mm_bi_f (fun z => z c), sp_if_t c]; exact Int32.zero_shiftLeft
  · rw [mm_bi_t c, sp_if_f c]; rfl
theorem p_ac_b : ∀ k, k ≤ 15 → ∀ j, p_b (p_ac x k) j = (decide (j < 15 ∧ 14 - j < k) && p_b x j) := by
  intro k
  induction k with
  | zero => intro _ j; show p_b 0 j = _; rw [p_b_0, decide_eq_false (by omega), Bool.false_and]
  | succ k ih =>
    intro hk j
    have ih1 := ih (by omega) j
    show p_b (p_ac x k ||| _) j = _
    rw [p_bi_sh, p_b_or, ih1]
    by_cases cj : j = 14 - k
    · subst cj
      rw [decide_eq_false (show ¬ (14 - k < 15 ∧ 14 - (14 - k) < k) by omega), Bool.false_and, Bool.false_or, decide_eq_true (show 14 - k < 15 ∧ 14 - (14 - k) < k + 1 by omega), Bool.true_and]
      by_cases c : x &&& sp_bit k = 0
      · rw [sp_if_t c, p_b_0]; exact ((p_on (by omega)).1 c).symm
      · rw [sp_if_f c, p_b_bit (by omega), decide_eq_true rfl]; exact ((p_off (by omega)).1 c).symm
    · have e2 : p_b (sp_if (x &&& sp_bit k = 0) 0 (sp_bit k)) j = false := by
        by_cases c : x &&& sp_bit k = 0
        · rw [sp_if_t c, p_b_0]
        · rw [sp_if_f c, p_b_bit (by omega), decide_eq_false cj]
      rw [e2, Bool.or_false]
      congr 1
      exact decide_eq_decide.2 ⟨fun z => ⟨z.1, by have := z.1; have := z.2; omega⟩, fun z => ⟨z.1, by have := z.1; have := z.2; omega⟩⟩
theorem p_ac_15 (h : sp_b15 x) : p_ac x 15 = x := by
  refine p_ext fun j => ?_
  rw [p_ac_b 15 (Nat.le_refl _)]
  by_cases c : j < 15
  · rw [decide_eq_true (show j < 15 ∧ 14 - j < 15 by omega), Bool.true_and]
  · rw [p_b_hi h (by omega), Bool.and_false]
theorem p_ac_c {y : Int32} (k : Nat) (h : ∀ l, l < k → (x &&& sp_bit l = 0 ↔ y &&& sp_bit l = 0)) : p_ac x k = p_ac y k := by
  induction k with
  | zero => rfl
  | succ k ih =>
    show p_ac x k ||| (mm_bi (¬ x &&& sp_bit k = 0) <<< _) = p_ac y k ||| (mm_bi (¬ y &&& sp_bit k = 0) <<< _)
    rw [ih (fun l hl => h l (by omega)), mm_bi_c (not_congr (h k (by omega)))]
/-- all lamps, or one that is not in it -/
theorem p_all (h : sp_b15 x) : x = nI 32767 ↔ ∀ l, l < 15 → ¬ x &&& sp_bit l = 0 := by
  constructor
  · intro e l hl
    subst e
    revert l
    decide +kernel
  · intro a
    have e := p_ac_c (x := x) (y := nI 32767) 15 (fun l hl => ⟨fun z => absurd z (a l hl), fun z => absurd z ((by decide +kernel : ∀ l, l < 15 → ¬ nI 32767 &&& sp_bit l = 0) l hl)⟩)
    rw [p_ac_15 h, p_ac_15 ⟨32767, by decide, rfl⟩] at e
    exact e
end SM
