/-! the class's board, history and text -/
theorem w_cp {mi pc np : Nat} {ls st : List Value} {g : mm_Gg} {I : mm_Is} {F : mm_Ph} {w a b na nb : Nat} {v : Value} {tl : List Nat} (n : Nat) {x : Int32} (he : mm_code mi pc = some (.invokestatic w, np, v, 7 :: tl)) (hp : mm_pl (.invokestatic w, np, v, 7 :: tl) = true) (ha : mm_fa a 10 na) (hb : mm_fa b 10 nb) (hx : x = nI n) (h1 : n ≤ na) (h2 : n ≤ nb) (hs : (st.map Value.category).sum ≤ 8) (K : mm_W mi np ls st g (va_up I b (va_cpy (I a) (I b) 0 0 n)) F) : mm_W mi pc ls (.int x :: .int 0 :: .ref b :: .int 0 :: .ref a :: st) g I F := by
  subst hx
  have hn : n < 2 ^ 31 := by have := ha.2.2; omega
  have hc : (nI n).toNatClampNeg = n := nI_clamp hn
  have h0 : (0 : Int32).toNatClampNeg = 0 := by decide
  refine w_of (fun _ k => mm_step (P := mm_ob (mm_hp g I) a 10 ∧ mm_ob (mm_hp g I) b 10 ∧ ¬ (0 : Int32) < 0 ∧ ¬ (0 : Int32) < 0 ∧ ¬ nI n < 0 ∧ (0 : Int32).toNatClampNeg + (nI n).toNatClampNeg ≤ (mm_K (mm_hp g I) a).2 ∧ (0 : Int32).toNatClampNeg + (nI n).toNatClampNeg ≤ (mm_K (mm_hp g I) b).2 ∧ (st.map Value.category).sum ≤ 8) he hp rfl ?_ k) (ls' := ls) (st' := st) (g' := g) (I' := va_up I b (va_cpy (I a) (I b) (0 : Int32).toNatClampNeg (0 : Int32).toNatClampNeg (nI n).toNatClampNeg)) ?_
  · rw [hc, h0]
    refine ⟨⟨ha.1, ?_⟩, ⟨hb.1, ?_⟩, by decide, by decide, nI_pos hn, ?_, ?_, hs⟩
    · show (mm_K0 a).1 = 10; rw [ha.2.1]
    · show (mm_K0 b).1 = 10; rw [hb.2.1]
    · show 0 + n ≤ (mm_K0 a).2; rw [ha.2.1]; omega
    · show 0 + n ≤ (mm_K0 b).2; rw [hb.2.1]; omega
  · rw [hc, h0]; exact K
theorem va_cpy_i {α : Type} {f g : Nat → α} {n k : Nat} (h : k < n) : va_cpy f g 0 0 n k = f k := by
  show (if 0 ≤ k ∧ k < 0 + n then f (0 + (k - 0)) else g k) = f k
  rw [if_pos (by omega)]
  congr 1
  omega
def sp_in5 (b p : Nat) : Prop := b ≤ p ∧ p < b + 5
theorem sp_bd_c {I I' : mm_Is} {b : Nat} {σ : sp_St} (h : ∀ p, sp_in5 b p → I' p = I p) (x : sp_bd I b σ) : sp_bd I' b σ := by
  unfold sp_bd at x ⊢
  rw [h (b + 1 + 0) ⟨by omega, by omega⟩, h (b + 1 + 1) ⟨by omega, by omega⟩, h (b + 1 + 2) ⟨by omega, by omega⟩, h (b + 1 + 3) ⟨by omega, by omega⟩, h b ⟨by omega, by omega⟩]
  exact x
def sp_ckr (a : Nat) : Bool := decide (nI a / 10 = nI (a / 10)) && decide (nI a - nI a / 10 * 10 = nI (a % 10))
theorem sp_ckr_all : sp_al sp_ckr 14 0 = true := by decide +kernel
theorem nI_div10 {a : Nat} (h : a < 10000) : nI a / 10 = nI (a / 10) ∧ nI a - nI a / 10 * 10 = nI (a % 10) := by
  have x := sp_al_of 14 0 sp_ckr_all a (Nat.zero_le _) (by omega)
  unfold sp_ckr at x
  rw [Bool.and_eq_true, decide_eq_true_eq, decide_eq_true_eq] at x
  exact x
theorem nI_mod6 : ∀ a, a < 13 → nI a - nI a / 6 * 6 = nI (a % 6) := by decide +kernel
/-- the class's history -/
def sp_H (I : mm_Is) (n : Nat) (ps : Nat → sp_St) : Prop := I 13 2 = nI n ∧ n ≤ 6 ∧ ∃ o, o < 6 ∧ I 13 1 = nI o ∧ ∀ i, i < n → sp_bd I (15 + 5 * ((o + i) % 6)) (ps i)
def sp_X (I : mm_Is) (m : Nat) (tx : Nat → Int32) : Prop := I 11 1 = nI m ∧ m ≤ 60 ∧ ∀ i, i < m → I 12 i = tx i
def sp_sn (n : Nat) : Nat := if n < 6 then n + 1 else 6
def sp_sp (n : Nat) (ps : Nat → sp_St) (σ : sp_St) : Nat → sp_St := fun i => if n < 6 then (if i = n then σ else ps i) else (if i = 5 then σ else ps (i + 1))
section SM
variable {g : mm_Gg} {I : mm_Is} {x y z : Int32} {l d k t u f w n b o m : Nat} {σ τ : sp_St} {ps : Nat → sp_St} {tx : Nat → Int32}
theorem c_copyFrom (hB : mm_B b) (hO : mm_B o) (hne : ∀ p, sp_in5 b p → ¬ sp_in5 o p) (h : sp_bd I o σ) : ∃ I', mm_M 1 2 [.ref b, .ref o] g I none I' ∧ (sp_bd I' b σ ∧ ∀ p, ¬ sp_in5 b p → I' p = I p) := by
  have ne : ∀ i j, i < 5 → j < 5 → ¬ o + i = b + j := fun i j hi hj e => hne (b + j) ⟨by omega, by omega⟩ ⟨by omega, by omega⟩
  have n00 := ne 1 1 (by decide) (by decide)
  have n10 := ne 2 1 (by decide) (by decide)
  have n20 := ne 3 1 (by decide) (by decide)
  have n21 := ne 3 2 (by decide) (by decide)
  have n11 := ne 2 2 (by decide) (by decide)
  have n30 := ne 4 1 (by decide) (by decide)
  have n31 := ne 4 2 (by decide) (by decide)
  have n32 := ne 4 3 (by decide) (by decide)
  have n40 := ne 0 1 (by decide) (by decide)
  have n41 := ne 0 2 (by decide) (by decide)
  have n42 := ne 0 3 (by decide) (by decide)
  have n43 := ne 0 4 (by decide) (by decide)
  have n44 := ne 0 0 (by decide) (by decide)
  refine w_MX ?_
  show mm_W 1 0 [.ref b, .ref o] [] _ _ _
  generalize hF : mm_EQ _ _ _ = F
  refine w_st rfl rfl rfl trivial ?_
  refine w_gr (j := (o + 1 + 0)) rfl (mm_B_o hO) (mm_B_r hO (by decide)) mm_T_0 ?_
  refine w_st rfl rfl rfl trivial ?_
  refine w_st rfl rfl rfl trivial ?_
  refine w_gr (j := (b + 1 + 0)) rfl (mm_B_o hB) (mm_B_r hB (by decide)) mm_T_0 ?_
  refine w_st rfl rfl rfl trivial ?_
  refine w_st rfl rfl rfl trivial ?_
  refine w_cp (4) rfl rfl (na := 4) (mm_B_a hO (by decide)) (nb := 4) (mm_B_a hB (by decide)) (by first | rfl | assumption | (simp only [← nI_add, ← nI_mul]; rfl)) (by first | decide | omega) (by first | decide | omega) (Nat.le_of_ble_eq_true rfl) ?_
  refine w_st rfl rfl rfl trivial ?_
  refine w_gr (j := (o + 1 + 1)) rfl (mm_B_o hO) (mm_B_r hO (by decide)) mm_T_0 ?_
  refine w_st rfl rfl rfl trivial ?_
  refine w_st rfl rfl rfl trivial ?_
  refine w_gr (j := (b + 1 + 1)) rfl (mm_B_o hB) (mm_B_r hB (by decide)) mm_T_0 ?_
  refine w_st rfl rfl rfl trivial ?_
  refine w_st rfl rfl rfl trivial ?_
  refine w_cp (4) rfl rfl (na := 4) (mm_B_a hO (by decide)) (nb := 4) (mm_B_a hB (by decide)) (by first | rfl | assumption | (simp only [← nI_add, ← nI_mul]; rfl)) (by first | decide | omega) (by first | decide | omega) (Nat.le_of_ble_eq_true rfl) ?_
  refine w_st rfl rfl rfl trivial ?_
  refine w_gr (j := (o + 1 + 2)) rfl (mm_B_o hO) (mm_B_r hO (by decide)) mm_T_0 ?_
  refine w_st rfl rfl rfl trivial ?_
  refine w_st rfl rfl rfl trivial ?_
  refine w_gr (j := (b + 1 + 2)) rfl (mm_B_o hB) (mm_B_r hB (by decide)) mm_T_0 ?_
  refine w_st rfl rfl rfl trivial ?_
  refine w_st rfl rfl rfl trivial ?_
  refine w_cp (60) rfl rfl (na := 60) (mm_B_a hO (by decide)) (nb := 60) (mm_B_a hB (by decide)) (by first | rfl | assumption | (simp only [← nI_add, ← nI_mul]; rfl)) (by first | decide | omega) (by first | decide | omega) (Nat.le_of_ble_eq_true rfl) ?_
  refine w_st rfl rfl rfl trivial ?_
  refine w_gr (j := (o + 1 + 3)) rfl (mm_B_o hO) (mm_B_r hO (by decide)) mm_T_0 ?_
  refine w_st rfl rfl rfl trivial ?_
  refine w_st rfl rfl rfl trivial ?_
  refine w_gr (j := (b + 1 + 3)) rfl (mm_B_o hB) (mm_B_r hB (by decide)) mm_T_0 ?_
  refine w_st rfl rfl rfl trivial ?_
  refine w_st rfl rfl rfl trivial ?_
  refine w_cp (2) rfl rfl (na := 2) (mm_B_a hO (by decide)) (nb := 2) (mm_B_a hB (by decide)) (by first | rfl | assumption | (simp only [← nI_add, ← nI_mul]; rfl)) (by first | decide | omega) (by first | decide | omega) (Nat.le_of_ble_eq_true rfl) ?_
  refine w_st rfl rfl rfl trivial ?_
  refine w_st rfl rfl rfl trivial ?_
  refine w_gi rfl (mm_B_o hO) ?_
  refine w_pi rfl (mm_B_o hB) ?_
  refine w_st rfl rfl rfl trivial ?_
  refine w_st rfl rfl rfl trivial ?_
  refine w_gi rfl (mm_B_o hO) ?_
  refine w_pi rfl (mm_B_o hB) ?_
  refine w_retv rfl ?_
  subst hF
  refine ⟨rfl, rfl, ?_⟩
  unfold sp_bd at h ⊢
  obtain ⟨h1, h2, h3, h4, h5, h6⟩ := h
  refine ⟨⟨fun f hf => ?_, fun f hf => ?_, fun j hj => ?_, fun k hk => ?_, ?_, ?_⟩, fun p hp => ?_⟩
  · rw [va_up_ne _ _ (by omega), va_up_ne _ _ (by omega), va_up_ne _ _ (by omega), va_up_ne _ _ (by omega), va_up_ne _ _ (by omega), va_up_self, va_cpy_i hf]
    exact h1 f hf
  · rw [va_up_ne _ _ (by omega), va_up_ne _ _ (by omega), va_up_ne _ _ (by omega), va_up_ne _ _ (by omega), va_up_self, va_cpy_i hf, va_up_ne _ _ (by omega)]
    exact h2 f hf
  · rw [va_up_ne _ _ (by omega), va_up_ne _ _ (by omega), va_up_ne _ _ (by omega), va_up_self, va_cpy_i hj, va_up_ne _ _ (by omega), va_up_ne _ _ (by omega)]
    exact h3 j hj
  · rw [va_up_ne _ _ (by omega), va_up_ne _ _ (by omega), va_up_self, va_cpy_i hk, va_up_ne _ _ (by omega), va_up_ne _ _ (by omega), va_up_ne _ _ (by omega)]
    exact h4 k hk
  · rw [mm_un (Or.inr (by decide)), mm_uu, va_up_ne _ _ (by omega), va_up_ne _ _ (by omega), va_up_ne _ _ (by omega), va_up_ne _ _ (by omega)]
    exact h5
  · rw [mm_uu, mm_un (Or.inl (by omega)), va_up_ne _ _ (by omega), va_up_ne _ _ (by omega), va_up_ne _ _ (by omega), va_up_ne _ _ (by omega)]
    exact h6
  · unfold sp_in5 at hp
    rw [va_up_ne _ _ (by omega), va_up_ne _ _ (by omega), va_up_ne _ _ (by omega), va_up_ne _ _ (by omega), va_up_ne _ _ (by omega), va_up_ne _ _ (by omega)]
theorem c_slot (h : I 13 1 = nI o) (ho : o < 6) (hk : k ≤ 6) : mm_M 8 2 [.ref 13, .int (nI k)] g I (some (.int (nI ((o + k) % 6)))) I := by
  refine w_M ?_
  show mm_W 8 0 [.ref 13, .int (nI k)] [] _ _ _
  generalize hF : mm_EX _ _ _ = F
  refine w_st rfl rfl rfl trivial ?_
  refine w_gi rfl (mm_foc rfl) ?_
  refine w_st rfl rfl rfl trivial ?_
  refine w_iadd rfl ?_
  refine w_hd (show I 13 1 + nI k = nI (o + k) from by rw [h, nI_add]) ?_
  refine w_st rfl rfl rfl trivial ?_
  refine w_irem rfl (by decide) ?_
  refine w_reti rfl ?_
  exact hF ▸ mm_EX_i (nI_mod6 _ (by omega))
theorem c_save (hb : sp_bd I 1 σ) (h : sp_H I n ps) : ∃ I', mm_M 6 2 [.ref 13, .ref 1] g I none I' ∧ (sp_H I' (sp_sn n) (sp_sp n ps σ) ∧ ∀ p, ¬ p = 13 → ¬ (15 ≤ p ∧ p < 45) → I' p = I p) := by
  obtain ⟨h1, h2, o, ho, h3, h4⟩ := h
  obtain ⟨I1, hM, hb1, hf⟩ := c_copyFrom (g := g) (I := I) (b := 15 + 5 * ((o + n) % 6)) (o := 1) (mm_B_i (by omega)) (Or.inl rfl) (fun p a c => by unfold sp_in5 at a c; omega) hb
  have e13 : I1 13 = I 13 := hf 13 (fun z => by unfold sp_in5 at z; omega)
  have old : ∀ i, i < 6 → ¬ i = (o + n) % 6 → ∀ p, sp_in5 (15 + 5 * i) p → I1 p = I p := by
    intro i hi hne p hp
    refine hf p (fun z => ?_)
    unfold sp_in5 at z hp
    omega
  refine w_MX ?_
  show mm_W 6 0 [.ref 13, .ref 1] [] _ _ _
  generalize hF : mm_EQ _ _ _ = F
  refine w_st rfl rfl rfl trivial ?_
  refine w_gr (j := 14) rfl (mm_foc rfl) rfl (by decide) ?_
  refine w_st rfl rfl rfl trivial ?_
  refine w_st rfl rfl rfl trivial ?_
  refine w_gi rfl (mm_foc rfl) ?_
  rw [h1]
  refine w_k21 (c_slot h3 ho h2) rfl ⟨rfl, by decide, by decide, by decide, Or.inl ⟨_, rfl⟩⟩ (Nat.le_of_ble_eq_true rfl) (mm_foc rfl) (Nat.le_of_ble_eq_true rfl) ?_  -- calls 8 cX1_slot
  refine w_ra (j := 15 + 5 * ((o + n) % 6)) ((o + n) % 6) rfl (Or.inr (mm_fac (n := 6) rfl)) (by first | rfl | assumption | (simp only [← nI_add, ← nI_mul]; rfl)) (by first | decide | omega) (mm_B_14 (by omega)) (by omega) ?_
  refine w_st rfl rfl rfl trivial ?_
  refine w_k20 (hM) rfl ⟨rfl, by decide, by decide, by decide, Or.inl ⟨_, rfl⟩⟩ (Nat.le_of_ble_eq_true rfl) (mm_B_o (mm_B_i (by omega))) (Nat.le_of_ble_eq_true rfl) ?_  -- calls 1 cX0_copyFrom
  refine w_st rfl rfl rfl trivial ?_
  refine w_gi rfl (mm_foc rfl) ?_
  rw [e13, h1]
  refine w_st rfl rfl rfl trivial ?_
  refine w_n_ge (a := n) (b := 6) rfl (by first | decide | omega) (by first | decide | omega) (by first | rfl | assumption | (simp only [← nI_add, ← nI_mul]; rfl)) (by first | rfl | assumption | (simp only [← nI_add, ← nI_mul]; rfl)) (fun c => ?_) (fun c => ?_)
  · have hn : n = 6 := by omega
    subst hn
    refine w_st rfl rfl rfl trivial ?_
    refine w_st rfl rfl rfl trivial ?_
    refine w_st rfl rfl rfl trivial ?_
    refine w_k21 (c_slot (by rw [e13]; exact h3) ho (show 1 ≤ 6 by decide)) rfl ⟨rfl, by decide, by decide, by decide, Or.inl ⟨_, rfl⟩⟩ (Nat.le_of_ble_eq_true rfl) (mm_foc rfl) (Nat.le_of_ble_eq_true rfl) ?_  -- calls 8 cX1_slot
    refine w_pi rfl (mm_foc rfl) ?_
    refine w_retv rfl ?_
    subst hF
    refine ⟨rfl, rfl, ?_⟩
    refine ⟨⟨?_, by decide, (o + 1) % 6, by omega, mm_uu, fun i hi => ?_⟩, fun p a c => ?_⟩
    · rw [mm_un (Or.inr (by decide)), e13, h1]; rfl
    · refine sp_bd_c (I := I1) (fun p hp => va_up_ne _ _ (by unfold sp_in5 at hp; omega)) ?_
      show sp_bd I1 _ (if 6 < 6 then _ else (if i = 5 then σ else ps (i + 1)))
      rw [if_neg (by decide)]
      have hi6 : i < 6 := hi
      by_cases c5 : i = 5
      · rw [if_pos c5]
        subst c5
        rw [show ((o + 1) % 6 + 5) % 6 = (o + 6) % 6 from by omega]
        exact hb1
      · rw [if_neg c5]
        have e := h4 (i + 1) (by omega)
        rw [show ((o + 1) % 6 + i) % 6 = (o + (i + 1)) % 6 from by omega]
        exact sp_bd_c (old _ (by omega) (by omega)) e
    · rw [va_up_ne _ _ a]; exact hf p (fun z => by unfold sp_in5 at z; omega)
  · skip
    refine w_st rfl rfl rfl trivial ?_
    refine w_st rfl rfl rfl trivial ?_
    refine w_gi rfl (mm_foc rfl) ?_
    refine w_st rfl rfl rfl trivial ?_
    refine w_iadd rfl ?_
    refine w_hd (show I1 13 2 + 1 = nI (n + 1) from by rw [e13, h1]; exact nI_1 n) ?_
    refine w_pi rfl (mm_foc rfl) ?_
    refine w_st rfl rfl rfl trivial ?_
    refine w_retv rfl ?_
    subst hF
    refine ⟨rfl, rfl, ?_⟩
    have es : sp_sn n = n + 1 := if_pos c
    rw [es]
    refine ⟨⟨mm_uu, by omega, o, ho, ?_, fun i hi => ?_⟩, fun p a c => ?_⟩
    · rw [mm_un (Or.inr (by decide)), e13, h3]
    · refine sp_bd_c (I := I1) (fun p hp => va_up_ne _ _ (by unfold sp_in5 at hp; omega)) ?_
      show sp_bd I1 _ (if n < 6 then (if i = n then σ else ps i) else _)
      rw [if_pos c]
      by_cases cn : i = n
      · rw [if_pos cn, cn]; exact hb1
      · rw [if_neg cn]
        exact sp_bd_c (old _ (by omega) (by omega)) (h4 i (by omega))
    · rw [va_up_ne _ _ a]; exact hf p (fun z => by unfold sp_in5 at z; omega)
theorem c_restore (h : sp_H I (n + 1) ps) : ∃ I', mm_M 7 2 [.ref 13, .ref 1] g I none I' ∧ (sp_H I' n ps ∧ sp_bd I' 1 (ps n) ∧ ∀ p, ¬ p = 13 → ¬ sp_in5 1 p → I' p = I p) := by
  obtain ⟨h1, h2, o, ho, h3, h4⟩ := h
  have h4' : ∀ i, i < n + 1 → sp_bd (va_up I 13 (upd (I 13) 2 (nI n))) (15 + 5 * ((o + i) % 6)) (ps i) := fun i hi => sp_bd_c (fun p hp => va_up_ne _ _ (by unfold sp_in5 at hp; omega)) (h4 i hi)
  obtain ⟨I1, hM, hb1, hf⟩ := c_copyFrom (g := g) (I := va_up I 13 (upd (I 13) 2 (nI n))) (b := 1) (o := 15 + 5 * ((o + n) % 6)) (Or.inl rfl) (mm_B_i (by omega)) (fun p a c => by unfold sp_in5 at a c; omega) (h4' n (by omega))
  have e13 : I1 13 = upd (I 13) 2 (nI n) := by rw [hf 13 (fun z => by unfold sp_in5 at z; omega), va_up_self]
  refine w_MX ?_
  show mm_W 7 0 [.ref 13, .ref 1] [] _ _ _
  generalize hF : mm_EQ _ _ _ = F
  refine w_st rfl rfl rfl trivial ?_
  refine w_gi rfl (mm_foc rfl) ?_
  rw [h1]
  refine w_m_le (a := n + 1) rfl (by first | decide | omega) (by first | rfl | assumption | (simp only [← nI_add, ← nI_mul]; rfl)) (fun c => by exfalso; omega) (fun _ => ?_)
  refine w_st rfl rfl rfl trivial ?_
  refine w_st rfl rfl rfl trivial ?_
  refine w_gi rfl (mm_foc rfl) ?_
  refine w_st rfl rfl rfl trivial ?_
  refine w_isub rfl ?_
  refine w_hd (show I 13 2 - 1 = nI n from by rw [h1]; exact nI_pred n) ?_
  refine w_pi rfl (mm_foc rfl) ?_
  refine w_st rfl rfl rfl trivial ?_
  refine w_st rfl rfl rfl trivial ?_
  refine w_gr (j := 14) rfl (mm_foc rfl) rfl (by decide) ?_
  refine w_st rfl rfl rfl trivial ?_
  refine w_st rfl rfl rfl trivial ?_
  refine w_gi rfl (mm_foc rfl) ?_
  rw [show va_up I 13 (upd (I 13) 2 (nI n)) 13 2 = nI n from mm_uu]
  refine w_k21 (c_slot (I := va_up I 13 (upd (I 13) 2 (nI n))) (o := o) (by rw [mm_un (Or.inr (by decide))]; exact h3) ho (show n ≤ 6 by omega)) rfl ⟨rfl, by decide, by decide, by decide, Or.inl ⟨_, rfl⟩⟩ (Nat.le_of_ble_eq_true rfl) (mm_foc rfl) (Nat.le_of_ble_eq_true rfl) ?_  -- calls 8 cX1_slot
  refine w_ra (j := 15 + 5 * ((o + n) % 6)) ((o + n) % 6) rfl (Or.inr (mm_fac (n := 6) rfl)) (by first | rfl | assumption | (simp only [← nI_add, ← nI_mul]; rfl)) (by first | decide | omega) (mm_B_14 (by omega)) (by omega) ?_
  refine w_k20 (hM) rfl ⟨rfl, by decide, by decide, by decide, Or.inl ⟨_, rfl⟩⟩ (Nat.le_of_ble_eq_true rfl) (mm_foc rfl) (Nat.le_of_ble_eq_true rfl) ?_  -- calls 1 cX0_copyFrom
  refine w_retv rfl ?_
  subst hF
  refine ⟨rfl, rfl, ?_⟩
  refine ⟨⟨?_, by omega, o, ho, ?_, fun i hi => ?_⟩, hb1, fun p a c => ?_⟩
  · rw [e13]; show (if 2 = 2 then nI n else _) = _; rw [if_pos rfl]
  · rw [e13]; show (if 1 = 2 then nI n else _) = _; rw [if_neg (by decide)]; exact h3
  · exact sp_bd_c (fun p hp => hf p (fun z => by unfold sp_in5 at z hp; omega)) (h4' i (by omega))
  · rw [hf p c, va_up_ne _ _ a]
/-- a lamp burnt or mended -/
def sp_set (σ : sp_St) (f l : Nat) (q : Bool) : sp_St := bif q then upd σ (8 + f) (σ (8 + f) ||| sp_bit l) else upd (upd σ (8 + f) (σ (8 + f) &&& (sp_bit l ^^^ (-1)))) (12 + (15 * f + l)) 0
def sp_q (q : Bool) : Int32 := bif q then 1 else 0
theorem upd_n {f : Nat → Int32} {k j : Nat} {x : Int32} (h : ¬ j = k) : upd f k x j = f j := by show (if j = k then x else f j) = _; rw [if_neg h]
theorem upd_s {f : Nat → Int32} {k : Nat} {x : Int32} : upd f k x k = x := by show (if k = k then x else f k) = _; rw [if_pos rfl]
theorem sp_bd1 (h : (∀ f, f < 4 → I 2 f = σ (4 + f)) ∧ (∀ f, f < 4 → I 3 f = σ (8 + f)) ∧ (∀ j, j < 60 → I 4 j = σ (12 + j)) ∧ (∀ k, k < 2 → I 5 k = σ (1 + k)) ∧ I 1 4 = σ 0 ∧ I 1 5 = σ 3) : sp_bd I 1 σ := h
theorem sp_bd1' (h : sp_bd I 1 σ) : (∀ f, f < 4 → I 2 f = σ (4 + f)) ∧ (∀ f, f < 4 → I 3 f = σ (8 + f)) ∧ (∀ j, j < 60 → I 4 j = σ (12 + j)) ∧ (∀ k, k < 2 → I 5 k = σ (1 + k)) ∧ I 1 4 = σ 0 ∧ I 1 5 = σ 3 := h
theorem sp_bd_b1 (h : sp_bd I 1 σ) (hf : f < 4) : sp_bd (va_up I 3 (upd (I 3) f x)) 1 (upd σ (8 + f) x) := by
  obtain ⟨h1, h2, h3, h4, h5, h6⟩ := sp_bd1' h
  refine sp_bd1 ⟨fun j hj => ?_, fun j hj => ?_, fun j hj => ?_, fun j hj => ?_, ?_, ?_⟩
  · rw [mm_un (Or.inl (by decide)), upd_n (by omega)]; exact h1 j hj
  · by_cases c : j = f
    · subst c; rw [mm_uu, upd_s]
    · rw [mm_un (Or.inr c), upd_n (by omega)]; exact h2 j hj
  · rw [mm_un (Or.inl (by decide)), upd_n (by omega)]; exact h3 j hj
  · rw [mm_un (Or.inl (by decide)), upd_n (by omega)]; exact h4 j hj
  · rw [mm_un (Or.inl (by decide)), upd_n (by omega)]; exact h5
  · rw [mm_un (Or.inl (by decide)), upd_n (by omega)]; exact h6
theorem sp_bd_h1 (h : sp_bd I 1 σ) (hf : f < 60) : sp_bd (va_up I 4 (upd (I 4) f x)) 1 (upd σ (12 + f) x) := by
  obtain ⟨h1, h2, h3, h4, h5, h6⟩ := sp_bd1' h
  refine sp_bd1 ⟨fun j hj => ?_, fun j hj => ?_, fun j hj => ?_, fun j hj => ?_, ?_, ?_⟩
  · rw [mm_un (Or.inl (by decide)), upd_n (by omega)]; exact h1 j hj
  · rw [mm_un (Or.inl (by decide)), upd_n (by omega)]; exact h2 j hj
  · by_cases c : j = f
    · subst c; rw [mm_uu, upd_s]
    · rw [mm_un (Or.inr c), upd_n (by omega)]; exact h3 j hj
  · rw [mm_un (Or.inl (by decide)), upd_n (by omega)]; exact h4 j hj
  · rw [mm_un (Or.inl (by decide)), upd_n (by omega)]; exact h5
  · rw [mm_un (Or.inl (by decide)), upd_n (by omega)]; exact h6
theorem c_setLamp_t (h : sp_bd I 1 σ) (hf : f < 4) (hl : l < 15) : ∃ I', mm_M 2 4 [.ref 1, .int (nI f), .int (nI l), .int 1] g I none I' ∧ (sp_bd I' 1 (sp_set σ f l true) ∧ ∀ p, ¬ p = 3 → ¬ p = 4 → I' p = I p) := by
  refine w_MX ?_
  show mm_W 2 0 [.ref 1, .int (nI f), .int (nI l), .int 1] [] _ _ _
  generalize hF : mm_EQ _ _ _ = F
  refine w_st rfl rfl rfl trivial ?_
  refine w_z_eq rfl (fun z => by first | exact absurd z ((by decide : ¬ (1 : Int32) = 0)) | exact absurd ((by decide : ¬ (1 : Int32) = 0)) z) (fun _ => ?_)
  refine w_st rfl rfl rfl trivial ?_
  refine w_gr (j := 3) rfl (mm_foc rfl) rfl (by decide) ?_
  refine w_st rfl rfl rfl trivial ?_
  refine w_st rfl rfl rfl trivial ?_
  refine w_ia (f) rfl (mm_fac (n := 4) rfl) (by first | rfl | assumption | (simp only [← nI_add, ← nI_mul]; rfl)) (by first | decide | omega) ?_
  refine w_st rfl rfl rfl trivial ?_
  refine w_k11 (c_maskOf) rfl ⟨rfl, by decide, by decide, by decide, Or.inr (Or.inl ⟨_, rfl⟩)⟩ (Nat.le_of_ble_eq_true rfl) trivial (Nat.le_of_ble_eq_true rfl) ?_  -- calls 49 cX4_maskOf
  refine w_ior rfl ?_
  refine w_is (f) rfl (mm_fac (n := 4) rfl) (by first | rfl | assumption | (simp only [← nI_add, ← nI_mul]; rfl)) (by first | decide | omega) ?_
  refine w_st rfl rfl rfl trivial ?_
  refine w_retv rfl ?_
  subst hF
  refine ⟨rfl, rfl, ?_⟩
  refine ⟨?_, fun p a c => va_up_ne _ _ a⟩
  rw [show I 3 f = σ (8 + f) from h.2.1 f hf]
  exact sp_bd_b1 h hf
theorem c_setLamp_f (h : sp_bd I 1 σ) (hf : f < 4) (hl : l < 15) : ∃ I', mm_M 2 4 [.ref 1, .int (nI f), .int (nI l), .int 0] g I none I' ∧ (sp_bd I' 1 (sp_set σ f l false) ∧ ∀ p, ¬ p = 3 → ¬ p = 4 → I' p = I p) := by
  refine w_MX ?_
  show mm_W 2 0 [.ref 1, .int (nI f), .int (nI l), .int 0] [] _ _ _
  generalize hF : mm_EQ _ _ _ = F
  refine w_st rfl rfl rfl trivial ?_
  refine w_z_eq rfl (fun _ => ?_) (fun z => by first | exact absurd (rfl) z | exact absurd z (rfl))
  refine w_st rfl rfl rfl trivial ?_
  refine w_gr (j := 3) rfl (mm_foc rfl) rfl (by decide) ?_
  refine w_st rfl rfl rfl trivial ?_
  refine w_st rfl rfl rfl trivial ?_
  refine w_ia (f) rfl (mm_fac (n := 4) rfl) (by first | rfl | assumption | (simp only [← nI_add, ← nI_mul]; rfl)) (by first | decide | omega) ?_
  refine w_st rfl rfl rfl trivial ?_
  refine w_k11 (c_maskOf) rfl ⟨rfl, by decide, by decide, by decide, Or.inr (Or.inl ⟨_, rfl⟩)⟩ (Nat.le_of_ble_eq_true rfl) trivial (Nat.le_of_ble_eq_true rfl) ?_  -- calls 49 cX4_maskOf
  refine w_st rfl rfl rfl trivial ?_
  refine w_ixor rfl ?_
  refine w_iand rfl ?_
  refine w_is (f) rfl (mm_fac (n := 4) rfl) (by first | rfl | assumption | (simp only [← nI_add, ← nI_mul]; rfl)) (by first | decide | omega) ?_
  refine w_st rfl rfl rfl trivial ?_
  refine w_gr (j := 4) rfl (mm_foc rfl) rfl (by decide) ?_
  refine w_st rfl rfl rfl trivial ?_
  refine w_st rfl rfl rfl trivial ?_
  refine w_imul rfl ?_
  refine w_st rfl rfl rfl trivial ?_
  refine w_iadd rfl ?_
  refine w_st rfl rfl rfl trivial ?_
  refine w_is (15 * f + l) rfl (mm_fac (n := 60) rfl) (by first | rfl | assumption | (simp only [← nI_add, ← nI_mul]; rfl)) (by first | decide | omega) ?_
  refine w_retv rfl ?_
  subst hF
  refine ⟨rfl, rfl, ?_⟩
  refine ⟨?_, fun p a c => ?_⟩
  · rw [show I 3 f = σ (8 + f) from h.2.1 f hf]
    exact sp_bd_h1 (sp_bd_b1 h hf) (by omega)
  · rw [va_up_ne _ _ c, va_up_ne _ _ a]
end SM
