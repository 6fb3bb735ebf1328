/-! the shape of the heap once the two objects are made -/
def mm_K0 : Nat → Nat × Nat := fun i => (bif Nat.ble i 29 then (bif Nat.ble i 14 then (bif Nat.ble i 6 then (bif Nat.ble i 2 then (bif Nat.ble i 0 then (bif Nat.beq i 0 then (4, 5) else (0, 0)) else (bif Nat.ble i 1 then (bif Nat.beq i 1 then (0, 6) else (0, 0)) else (bif Nat.beq i 2 then (10, 4) else (0, 0)))) else (bif Nat.ble i 4 then (bif Nat.ble i 3 then (bif Nat.beq i 3 then (10, 4) else (0, 0)) else (bif Nat.beq i 4 then (10, 60) else (0, 0))) else (bif Nat.ble i 5 then (bif Nat.beq i 5 then (10, 2) else (0, 0)) else (bif Nat.beq i 6 then (13, 4) else (0, 0))))) else (bif Nat.ble i 10 then (bif Nat.ble i 8 then (bif Nat.ble i 7 then (bif Nat.beq i 7 then (2, 3) else (0, 0)) else (bif Nat.beq i 8 then (10, 10) else (0, 0))) else (bif Nat.ble i 9 then (bif Nat.beq i 9 then (10, 10) else (0, 0)) else (bif Nat.beq i 10 then (10, 10) else (0, 0)))) else (bif Nat.ble i 12 then (bif Nat.ble i 11 then (bif Nat.beq i 11 then (3, 2) else (0, 0)) else (bif Nat.beq i 12 then (11, 60) else (0, 0))) else (bif Nat.ble i 13 then (bif Nat.beq i 13 then (1, 3) else (0, 0)) else (bif Nat.beq i 14 then (14, 6) else (0, 0)))))) else (bif Nat.ble i 21 then (bif Nat.ble i 17 then (bif Nat.ble i 15 then (bif Nat.beq i 15 then (0, 6) else (0, 0)) else (bif Nat.ble i 16 then (bif Nat.beq i 16 then (10, 4) else (0, 0)) else (bif Nat.beq i 17 then (10, 4) else (0, 0)))) else (bif Nat.ble i 19 then (bif Nat.ble i 18 then (bif Nat.beq i 18 then (10, 60) else (0, 0)) else (bif Nat.beq i 19 then (10, 2) else (0, 0))) else (bif Nat.ble i 20 then (bif Nat.beq i 20 then (0, 6) else (0, 0)) else (bif Nat.beq i 21 then (10, 4) else (0, 0))))) else (bif Nat.ble i 25 then (bif Nat.ble i 23 then (bif Nat.ble i 22 then (bif Nat.beq i 22 then (10, 4) else (0, 0)) else (bif Nat.beq i 23 then (10, 60) else (0, 0))) else (bif Nat.ble i 24 then (bif Nat.beq i 24 then (10, 2) else (0, 0)) else (bif Nat.beq i 25 then (0, 6) else (0, 0)))) else (bif Nat.ble i 27 then (bif Nat.ble i 26 then (bif Nat.beq i 26 then (10, 4) else (0, 0)) else (bif Nat.beq i 27 then (10, 4) else (0, 0))) else (bif Nat.ble i 28 then (bif Nat.beq i 28 then (10, 60) else (0, 0)) else (bif Nat.beq i 29 then (10, 2) else (0, 0))))))) else (bif Nat.ble i 44 then (bif Nat.ble i 36 then (bif Nat.ble i 32 then (bif Nat.ble i 30 then (bif Nat.beq i 30 then (0, 6) else (0, 0)) else (bif Nat.ble i 31 then (bif Nat.beq i 31 then (10, 4) else (0, 0)) else (bif Nat.beq i 32 then (10, 4) else (0, 0)))) else (bif Nat.ble i 34 then (bif Nat.ble i 33 then (bif Nat.beq i 33 then (10, 60) else (0, 0)) else (bif Nat.beq i 34 then (10, 2) else (0, 0))) else (bif Nat.ble i 35 then (bif Nat.beq i 35 then (0, 6) else (0, 0)) else (bif Nat.beq i 36 then (10, 4) else (0, 0))))) else (bif Nat.ble i 40 then (bif Nat.ble i 38 then (bif Nat.ble i 37 then (bif Nat.beq i 37 then (10, 4) else (0, 0)) else (bif Nat.beq i 38 then (10, 60) else (0, 0))) else (bif Nat.ble i 39 then (bif Nat.beq i 39 then (10, 2) else (0, 0)) else (bif Nat.beq i 40 then (0, 6) else (0, 0)))) else (bif Nat.ble i 42 then (bif Nat.ble i 41 then (bif Nat.beq i 41 then (10, 4) else (0, 0)) else (bif Nat.beq i 42 then (10, 4) else (0, 0))) else (bif Nat.ble i 43 then (bif Nat.beq i 43 then (10, 60) else (0, 0)) else (bif Nat.beq i 44 then (10, 2) else (0, 0)))))) else (bif Nat.ble i 52 then (bif Nat.ble i 48 then (bif Nat.ble i 46 then (bif Nat.ble i 45 then (bif Nat.beq i 45 then (2, 3) else (0, 0)) else (bif Nat.beq i 46 then (10, 10) else (0, 0))) else (bif Nat.ble i 47 then (bif Nat.beq i 47 then (10, 10) else (0, 0)) else (bif Nat.beq i 48 then (10, 10) else (0, 0)))) else (bif Nat.ble i 50 then (bif Nat.ble i 49 then (bif Nat.beq i 49 then (2, 3) else (0, 0)) else (bif Nat.beq i 50 then (10, 10) else (0, 0))) else (bif Nat.ble i 51 then (bif Nat.beq i 51 then (10, 10) else (0, 0)) else (bif Nat.beq i 52 then (10, 10) else (0, 0))))) else (bif Nat.ble i 56 then (bif Nat.ble i 54 then (bif Nat.ble i 53 then (bif Nat.beq i 53 then (2, 3) else (0, 0)) else (bif Nat.beq i 54 then (10, 10) else (0, 0))) else (bif Nat.ble i 55 then (bif Nat.beq i 55 then (10, 10) else (0, 0)) else (bif Nat.beq i 56 then (10, 10) else (0, 0)))) else (bif Nat.ble i 58 then (bif Nat.ble i 57 then (bif Nat.beq i 57 then (2, 3) else (0, 0)) else (bif Nat.beq i 58 then (10, 10) else (0, 0))) else (bif Nat.ble i 59 then (bif Nat.beq i 59 then (10, 10) else (0, 0)) else (bif Nat.beq i 60 then (10, 10) else (0, 0))))))))
def mm_R0 : Nat → Nat → Nat := fun i k => (bif Nat.ble i 15 then (bif Nat.ble i 7 then (bif Nat.ble i 1 then (bif Nat.ble i 0 then (bif Nat.beq i 0 then ([1, 6, 7, 11, 13] : List Nat).getD k 0 else 0) else (bif Nat.beq i 1 then ([2, 3, 4, 5] : List Nat).getD k 0 else 0)) else (bif Nat.ble i 6 then (bif Nat.beq i 6 then ([45, 49, 53, 57] : List Nat).getD k 0 else 0) else (bif Nat.beq i 7 then ([8, 9, 10] : List Nat).getD k 0 else 0))) else (bif Nat.ble i 13 then (bif Nat.ble i 11 then (bif Nat.beq i 11 then ([12] : List Nat).getD k 0 else 0) else (bif Nat.beq i 13 then ([14] : List Nat).getD k 0 else 0)) else (bif Nat.ble i 14 then (bif Nat.beq i 14 then ([15, 20, 25, 30, 35, 40] : List Nat).getD k 0 else 0) else (bif Nat.beq i 15 then ([16, 17, 18, 19] : List Nat).getD k 0 else 0)))) else (bif Nat.ble i 35 then (bif Nat.ble i 25 then (bif Nat.ble i 20 then (bif Nat.beq i 20 then ([21, 22, 23, 24] : List Nat).getD k 0 else 0) else (bif Nat.beq i 25 then ([26, 27, 28, 29] : List Nat).getD k 0 else 0)) else (bif Nat.ble i 30 then (bif Nat.beq i 30 then ([31, 32, 33, 34] : List Nat).getD k 0 else 0) else (bif Nat.beq i 35 then ([36, 37, 38, 39] : List Nat).getD k 0 else 0))) else (bif Nat.ble i 45 then (bif Nat.ble i 40 then (bif Nat.beq i 40 then ([41, 42, 43, 44] : List Nat).getD k 0 else 0) else (bif Nat.beq i 45 then ([46, 47, 48] : List Nat).getD k 0 else 0)) else (bif Nat.ble i 49 then (bif Nat.beq i 49 then ([50, 51, 52] : List Nat).getD k 0 else 0) else (bif Nat.ble i 53 then (bif Nat.beq i 53 then ([54, 55, 56] : List Nat).getD k 0 else 0) else (bif Nat.beq i 57 then ([58, 59, 60] : List Nat).getD k 0 else 0))))))
abbrev mm_Gg : Type := Nat × Nat × (Nat → Nat → Int64) × Nat × (Nat → Int32)
abbrev mm_Is : Type := Nat → Nat → Int32
/-- the heap: counters, longs and script g, ints I -/
def mm_hp (g : mm_Gg) (I : mm_Is) : mm_Hp := ((61, g.1, g.2.1), mm_K0, mm_R0, I, g.2.2.1, g.2.2.2)
abbrev mm_Ph : Type := Nat × Option Value → mm_Gg → mm_Is → Prop
/-- from there the machine comes to an answer and a heap of which F holds -/
def mm_W (mi pc : Nat) (ls st : List Value) (g : mm_Gg) (I : mm_Is) (F : mm_Ph) : Prop := ∃ q g' I', mm_Ru mi pc ls st (mm_hp g I) (q, mm_hp g' I') ∧ F q g' I'
/-- i is an object of class ci / an array of kind k, n long -/
def mm_fo (i ci : Nat) : Prop := i < 61 ∧ (mm_K0 i).1 = ci
def mm_fa (i k n : Nat) : Prop := i < 61 ∧ mm_K0 i = (k, n) ∧ n < 1000
/-- a method, said over this heap: answer v, ints I' -/
def mm_M (mj L : Nat) (av : List Value) (g : mm_Gg) (I : mm_Is) (v : Option Value) (I' : mm_Is) : Prop := mm_Me mj L av (mm_hp g I) ((0, v), mm_hp g I')
def mm_EX (v : Option Value) (g : mm_Gg) (I : mm_Is) : mm_Ph := fun q g' I' => q = (0, v) ∧ g' = g ∧ I' = I
theorem mm_EX_i {x y : Int32} {g : mm_Gg} {I : mm_Is} (h : x = y) : mm_EX (some (.int y)) g I (0, some (.int x)) g I := by subst h; exact ⟨rfl, rfl, rfl⟩
def mm_EQ (v : Option Value) (g : mm_Gg) (Q : mm_Is → Prop) : mm_Ph := fun q g' I' => q = (0, v) ∧ g' = g ∧ Q I'
theorem w_MX {mj L : Nat} {av : List Value} {g : mm_Gg} {I : mm_Is} {v : Option Value} {Q : mm_Is → Prop} (h : mm_W mj 0 (mm_ent L av) [] g I (mm_EQ v g Q)) : ∃ I', mm_M mj L av g I v I' ∧ Q I' := by
  obtain ⟨q, g', J, h1, h2, h3, h4⟩ := h
  subst h2 h3
  exact ⟨J, h1, h4⟩
theorem w_M {mj L : Nat} {av : List Value} {g : mm_Gg} {I I' : mm_Is} {v : Option Value} (h : mm_W mj 0 (mm_ent L av) [] g I (mm_EX v g I')) : mm_M mj L av g I v I' := by
  obtain ⟨q, g', J, h1, h2, h3, h4⟩ := h
  subst h2 h3 h4
  exact h1
noncomputable def mm_bi (p : Prop) : Int32 := @ite _ p (Classical.propDecidable p) 1 0
theorem mm_bi_t {p : Prop} (h : p) : mm_bi p = 1 := by unfold mm_bi; exact @if_pos _ (Classical.propDecidable p) h _ _ _
theorem mm_bi_f {p : Prop} (h : ¬ p) : mm_bi p = 0 := by unfold mm_bi; exact @if_neg _ (Classical.propDecidable p) h _ _ _
theorem mm_bi_01 (p : Prop) : mm_bi p = 0 ∨ mm_bi p = 1 := by
  by_cases h : p
  · exact Or.inr (mm_bi_t h)
  · exact Or.inl (mm_bi_f h)
theorem mm_dn {P : Nat → Prop} (n : Nat) (h0 : P n) (hs : ∀ j, j < n → P (j + 1) → P j) : ∀ j, j ≤ n → P j := by
  intro j hj
  obtain ⟨d, rfl⟩ : ∃ d, n = j + d := ⟨n - j, by omega⟩
  clear hj
  induction d generalizing j with
  | zero => exact h0
  | succ d ih => exact hs j (by omega) (ih (j + 1) (by rw [Nat.add_right_comm]; exact h0) (fun k hk x => hs k (by omega) x))
section SX
variable {mi pc np : Nat} {ls st : List Value} {g : mm_Gg} {I : mm_Is} {F : mm_Ph}
theorem w_of {mi pc mi' pc' : Nat} {ls ls' st st' : List Value} {g g' : mm_Gg} {I I' : mm_Is} (h : ∀ r, mm_Ru mi' pc' ls' st' (mm_hp g' I') r → mm_Ru mi pc ls st (mm_hp g I) r) (k : mm_W mi' pc' ls' st' g' I' F) : mm_W mi pc ls st g I F := by
  obtain ⟨q, g', I', k, x⟩ := k
  exact ⟨q, g', I', h _ k, x⟩
theorem w_st {pc' : Nat} {ls' st' : List Value} {P : Prop} {e : mm_En} (he : mm_code mi pc = some e) (hp : mm_pl e = true) (hs : mm_stp e ls st (mm_hp g I) = some (pc', ls', st', mm_hp g I, P)) (hP : P) (k : mm_W mi pc' ls' st' g I F) : mm_W mi pc ls st g I F :=
  w_of (fun _ k => mm_step he hp hs hP k) k
/-- the stack's head said anew -/
theorem w_hd {x y : Int32} (h : x = y) (k : mm_W mi pc ls (.int y :: st) g I F) : mm_W mi pc ls (.int x :: st) g I F := by subst h; exact k
theorem w_imp {G : mm_Ph} (h : mm_W mi pc ls st g I G) (k : ∀ q g' I', G q g' I' → F q g' I') : mm_W mi pc ls st g I F := by
  obtain ⟨q, g', I', h1, h2⟩ := h
  exact ⟨q, g', I', h1, k _ _ _ h2⟩
-- branches
theorem w_if {t : Nat} {q : List Value} {c : Jvm.ClassFile.Cond} {o : Int} {v : Value} {x : Int32} {A B : Prop} (he : mm_code mi pc = some (.ifCond c o, np, v, [t])) (hA : mm_cz c x → A) (hB : ¬ mm_cz c x → B) (k1 : A → mm_W mi t ls q g I F) (k2 : B → mm_W mi np ls q g I F) : mm_W mi pc ls (.int x :: q) g I F := by
  by_cases hc : mm_cz c x
  · exact w_of (fun _ k => mm_ifz he (fun _ => k) (fun z => absurd hc z)) (k1 (hA hc))
  · exact w_of (fun _ k => mm_ifz he (fun z => absurd z hc) (fun _ => k)) (k2 (hB hc))
theorem w_ic {t : Nat} {q : List Value} {c : Jvm.ClassFile.Cond} {o : Int} {v : Value} {x y : Int32} {A B : Prop} (he : mm_code mi pc = some (.if_icmp c o, np, v, [t])) (hA : mm_c2 c x y → A) (hB : ¬ mm_c2 c x y → B) (k1 : A → mm_W mi t ls q g I F) (k2 : B → mm_W mi np ls q g I F) : mm_W mi pc ls (.int y :: .int x :: q) g I F := by
  by_cases hc : mm_c2 c x y
  · exact w_of (fun _ k => mm_if2 he (fun _ => k) (fun z => absurd hc z)) (k1 (hA hc))
  · exact w_of (fun _ k => mm_if2 he (fun z => absurd z hc) (fun _ => k)) (k2 (hB hc))
end SX
theorem mm_c2n {a b : Nat} (ha : a < 2 ^ 31) (hb : b < 2 ^ 31) : (mm_c2 .eq (nI a) (nI b) ↔ a = b) ∧ (mm_c2 .ne (nI a) (nI b) ↔ ¬ a = b) ∧ (mm_c2 .lt (nI a) (nI b) ↔ a < b) ∧ (mm_c2 .ge (nI a) (nI b) ↔ b ≤ a) ∧ (mm_c2 .gt (nI a) (nI b) ↔ b < a) ∧ (mm_c2 .le (nI a) (nI b) ↔ a ≤ b) :=
  ⟨nI_eq ha hb, not_congr (nI_eq ha hb), nI_ltI ha hb, nI_leI hb ha, nI_ltI hb ha, nI_leI ha hb⟩
theorem mm_czn {a : Nat} (ha : a < 2 ^ 31) : (mm_cz .eq (nI a) ↔ a = 0) ∧ (mm_cz .ne (nI a) ↔ ¬ a = 0) ∧ (mm_cz .lt (nI a) ↔ a < 0) ∧ (mm_cz .ge (nI a) ↔ 0 ≤ a) ∧ (mm_cz .gt (nI a) ↔ 0 < a) ∧ (mm_cz .le (nI a) ↔ a ≤ 0) :=
  mm_c2n ha (b := 0) (by decide)
section SX2
variable {mi pc np t : Nat} {ls q : List Value} {g : mm_Gg} {I : mm_Is} {F : mm_Ph} {o : Int} {v : Value} {x y : Int32} {a b : Nat} {p : Prop}
-- of ints
theorem w_v_eq (he : mm_code mi pc = some (.if_icmp .eq o, np, v, [t])) (k1 : x = y → mm_W mi t ls q g I F) (k2 : ¬ x = y → mm_W mi np ls q g I F) : mm_W mi pc ls (.int y :: .int x :: q) g I F := w_ic he id id k1 k2
theorem w_v_ne (he : mm_code mi pc = some (.if_icmp .ne o, np, v, [t])) (k1 : ¬ x = y → mm_W mi t ls q g I F) (k2 : x = y → mm_W mi np ls q g I F) : mm_W mi pc ls (.int y :: .int x :: q) g I F := w_ic he id (fun z => Classical.not_not.1 z) k1 k2
theorem w_v_lt (he : mm_code mi pc = some (.if_icmp .lt o, np, v, [t])) (k1 : x < y → mm_W mi t ls q g I F) (k2 : ¬ x < y → mm_W mi np ls q g I F) : mm_W mi pc ls (.int y :: .int x :: q) g I F := w_ic he id id k1 k2
theorem w_v_ge (he : mm_code mi pc = some (.if_icmp .ge o, np, v, [t])) (k1 : y ≤ x → mm_W mi t ls q g I F) (k2 : ¬ y ≤ x → mm_W mi np ls q g I F) : mm_W mi pc ls (.int y :: .int x :: q) g I F := w_ic he id id k1 k2
theorem w_v_gt (he : mm_code mi pc = some (.if_icmp .gt o, np, v, [t])) (k1 : y < x → mm_W mi t ls q g I F) (k2 : ¬ y < x → mm_W mi np ls q g I F) : mm_W mi pc ls (.int y :: .int x :: q) g I F := w_ic he id id k1 k2
theorem w_v_le (he : mm_code mi pc = some (.if_icmp .le o, np, v, [t])) (k1 : x ≤ y → mm_W mi t ls q g I F) (k2 : ¬ x ≤ y → mm_W mi np ls q g I F) : mm_W mi pc ls (.int y :: .int x :: q) g I F := w_ic he id id k1 k2
-- of numbers
theorem w_n_eq (he : mm_code mi pc = some (.if_icmp .eq o, np, v, [t])) (ha : a < 2 ^ 31) (hb : b < 2 ^ 31) (hx : x = nI a) (hy : y = nI b) (k1 : a = b → mm_W mi t ls q g I F) (k2 : ¬ a = b → mm_W mi np ls q g I F) : mm_W mi pc ls (.int y :: .int x :: q) g I F := by
  subst hx hy; exact w_ic he (mm_c2n ha hb).1.1 (not_congr (mm_c2n ha hb).1).1 k1 k2
theorem w_n_ne (he : mm_code mi pc = some (.if_icmp .ne o, np, v, [t])) (ha : a < 2 ^ 31) (hb : b < 2 ^ 31) (hx : x = nI a) (hy : y = nI b) (k1 : ¬ a = b → mm_W mi t ls q g I F) (k2 : a = b → mm_W mi np ls q g I F) : mm_W mi pc ls (.int y :: .int x :: q) g I F := by
  subst hx hy; exact w_ic he (mm_c2n ha hb).2.1.1 (fun z => by have := not_congr (mm_c2n ha hb).2.1 |>.1 z; omega) k1 k2
theorem w_n_lt (he : mm_code mi pc = some (.if_icmp .lt o, np, v, [t])) (ha : a < 2 ^ 31) (hb : b < 2 ^ 31) (hx : x = nI a) (hy : y = nI b) (k1 : a < b → mm_W mi t ls q g I F) (k2 : b ≤ a → mm_W mi np ls q g I F) : mm_W mi pc ls (.int y :: .int x :: q) g I F := by
  subst hx hy; exact w_ic he (mm_c2n ha hb).2.2.1.1 (fun z => by have := not_congr (mm_c2n ha hb).2.2.1 |>.1 z; omega) k1 k2
theorem w_n_ge (he : mm_code mi pc = some (.if_icmp .ge o, np, v, [t])) (ha : a < 2 ^ 31) (hb : b < 2 ^ 31) (hx : x = nI a) (hy : y = nI b) (k1 : b ≤ a → mm_W mi t ls q g I F) (k2 : a < b → mm_W mi np ls q g I F) : mm_W mi pc ls (.int y :: .int x :: q) g I F := by
  subst hx hy; exact w_ic he (mm_c2n ha hb).2.2.2.1.1 (fun z => by have := not_congr (mm_c2n ha hb).2.2.2.1 |>.1 z; omega) k1 k2
theorem w_n_gt (he : mm_code mi pc = some (.if_icmp .gt o, np, v, [t])) (ha : a < 2 ^ 31) (hb : b < 2 ^ 31) (hx : x = nI a) (hy : y = nI b) (k1 : b < a → mm_W mi t ls q g I F) (k2 : a ≤ b → mm_W mi np ls q g I F) : mm_W mi pc ls (.int y :: .int x :: q) g I F := by
  subst hx hy; exact w_ic he (mm_c2n ha hb).2.2.2.2.1.1 (fun z => by have := not_congr (mm_c2n ha hb).2.2.2.2.1 |>.1 z; omega) k1 k2
theorem w_n_le (he : mm_code mi pc = some (.if_icmp .le o, np, v, [t])) (ha : a < 2 ^ 31) (hb : b < 2 ^ 31) (hx : x = nI a) (hy : y = nI b) (k1 : a ≤ b → mm_W mi t ls q g I F) (k2 : b < a → mm_W mi np ls q g I F) : mm_W mi pc ls (.int y :: .int x :: q) g I F := by
  subst hx hy; exact w_ic he (mm_c2n ha hb).2.2.2.2.2.1 (fun z => by have := not_congr (mm_c2n ha hb).2.2.2.2.2 |>.1 z; omega) k1 k2
-- of one int
theorem w_z_eq (he : mm_code mi pc = some (.ifCond .eq o, np, v, [t])) (k1 : x = 0 → mm_W mi t ls q g I F) (k2 : ¬ x = 0 → mm_W mi np ls q g I F) : mm_W mi pc ls (.int x :: q) g I F := w_if he id id k1 k2
theorem w_z_ne (he : mm_code mi pc = some (.ifCond .ne o, np, v, [t])) (k1 : ¬ x = 0 → mm_W mi t ls q g I F) (k2 : x = 0 → mm_W mi np ls q g I F) : mm_W mi pc ls (.int x :: q) g I F := w_if he id (fun z => Classical.not_not.1 z) k1 k2
theorem w_z_lt (he : mm_code mi pc = some (.ifCond .lt o, np, v, [t])) (k1 : x < 0 → mm_W mi t ls q g I F) (k2 : ¬ x < 0 → mm_W mi np ls q g I F) : mm_W mi pc ls (.int x :: q) g I F := w_if he id id k1 k2
theorem w_z_ge (he : mm_code mi pc = some (.ifCond .ge o, np, v, [t])) (k1 : 0 ≤ x → mm_W mi t ls q g I F) (k2 : ¬ 0 ≤ x → mm_W mi np ls q g I F) : mm_W mi pc ls (.int x :: q) g I F := w_if he id id k1 k2
theorem w_z_gt (he : mm_code mi pc = some (.ifCond .gt o, np, v, [t])) (k1 : 0 < x → mm_W mi t ls q g I F) (k2 : ¬ 0 < x → mm_W mi np ls q g I F) : mm_W mi pc ls (.int x :: q) g I F := w_if he id id k1 k2
theorem w_z_le (he : mm_code mi pc = some (.ifCond .le o, np, v, [t])) (k1 : x ≤ 0 → mm_W mi t ls q g I F) (k2 : ¬ x ≤ 0 → mm_W mi np ls q g I F) : mm_W mi pc ls (.int x :: q) g I F := w_if he id id k1 k2
-- of one number
theorem w_m_eq (he : mm_code mi pc = some (.ifCond .eq o, np, v, [t])) (ha : a < 2 ^ 31) (hx : x = nI a) (k1 : a = 0 → mm_W mi t ls q g I F) (k2 : 0 < a → mm_W mi np ls q g I F) : mm_W mi pc ls (.int x :: q) g I F := by
  subst hx; exact w_if he (mm_czn ha).1.1 (fun z => by have := not_congr (mm_czn ha).1 |>.1 z; omega) k1 k2
theorem w_m_ne (he : mm_code mi pc = some (.ifCond .ne o, np, v, [t])) (ha : a < 2 ^ 31) (hx : x = nI a) (k1 : 0 < a → mm_W mi t ls q g I F) (k2 : a = 0 → mm_W mi np ls q g I F) : mm_W mi pc ls (.int x :: q) g I F := by
  subst hx; exact w_if he (fun z => by have := (mm_czn ha).2.1.1 z; omega) (fun z => by have := not_congr (mm_czn ha).2.1 |>.1 z; omega) k1 k2
theorem w_m_lt (he : mm_code mi pc = some (.ifCond .lt o, np, v, [t])) (ha : a < 2 ^ 31) (hx : x = nI a) (k2 : mm_W mi np ls q g I F) : mm_W mi pc ls (.int x :: q) g I F := by
  subst hx; exact w_if (A := False) (B := True) he (fun z => by have := (mm_czn ha).2.2.1.1 z; omega) (fun _ => trivial) (fun z => z.elim) (fun _ => k2)
theorem w_m_ge (he : mm_code mi pc = some (.ifCond .ge o, np, v, [t])) (ha : a < 2 ^ 31) (hx : x = nI a) (k2 : mm_W mi t ls q g I F) : mm_W mi pc ls (.int x :: q) g I F := by
  subst hx; exact w_if (A := True) (B := False) he (fun _ => trivial) (fun z => by have := not_congr (mm_czn ha).2.2.2.1 |>.1 z; omega) (fun _ => k2) (fun z => z.elim)
theorem w_m_gt (he : mm_code mi pc = some (.ifCond .gt o, np, v, [t])) (ha : a < 2 ^ 31) (hx : x = nI a) (k1 : 0 < a → mm_W mi t ls q g I F) (k2 : a = 0 → mm_W mi np ls q g I F) : mm_W mi pc ls (.int x :: q) g I F := by
  subst hx; exact w_if he (mm_czn ha).2.2.2.2.1.1 (fun z => by have := not_congr (mm_czn ha).2.2.2.2.1 |>.1 z; omega) k1 k2
theorem w_m_le (he : mm_code mi pc = some (.ifCond .le o, np, v, [t])) (ha : a < 2 ^ 31) (hx : x = nI a) (k1 : a = 0 → mm_W mi t ls q g I F) (k2 : 0 < a → mm_W mi np ls q g I F) : mm_W mi pc ls (.int x :: q) g I F := by
  subst hx; exact w_if he (fun z => by have := (mm_czn ha).2.2.2.2.2.1 z; omega) (fun z => by have := not_congr (mm_czn ha).2.2.2.2.2 |>.1 z; omega) k1 k2
-- of a truth
theorem w_b_eq (he : mm_code mi pc = some (.ifCond .eq o, np, v, [t])) (k1 : ¬ p → mm_W mi t ls q g I F) (k2 : p → mm_W mi np ls q g I F) : mm_W mi pc ls (.int (mm_bi p) :: q) g I F := by
  refine w_if he (fun z => ?_) (fun z => ?_) k1 k2
  · intro hp
    have z' : mm_bi p = 0 := z
    rw [mm_bi_t hp] at z'
    exact absurd z' (by decide)
  · exact Classical.byContradiction (fun hp => z (mm_bi_f hp))
theorem w_b_ne (he : mm_code mi pc = some (.ifCond .ne o, np, v, [t])) (k1 : p → mm_W mi t ls q g I F) (k2 : ¬ p → mm_W mi np ls q g I F) : mm_W mi pc ls (.int (mm_bi p) :: q) g I F := by
  refine w_if he (fun z => ?_) (fun z => ?_) k1 k2
  · exact Classical.byContradiction (fun hp => z (mm_bi_f hp))
  · intro hp
    exact z (fun z' => by rw [mm_bi_t hp] at z'; exact absurd z' (by decide))
end SX2
section SX3
variable {mi pc np : Nat} {ls st : List Value} {g : mm_Gg} {I : mm_Is} {F : mm_Ph}
-- answers
theorem w_reti {v : Value} {x : Int32} (he : mm_code mi pc = some (.ireturn, np, v, [0])) (h : F (0, some (.int x)) g I) : mm_W mi pc ls [.int x] g I F := ⟨_, g, I, mm_reti he, h⟩
theorem w_retz {v : Value} {x : Int32} (he : mm_code mi pc = some (.ireturn, np, v, [1])) (hx : x = 0 ∨ x = 1) (h : F (0, some (.int x)) g I) : mm_W mi pc ls [.int x] g I F := ⟨_, g, I, mm_retz he hx, h⟩
theorem w_retc {v : Value} {x : Int32} (he : mm_code mi pc = some (.ireturn, np, v, [2])) (hx : vp_nar .char x = x) (h : F (0, some (.int x)) g I) : mm_W mi pc ls [.int x] g I F := ⟨_, g, I, mm_retc he hx, h⟩
theorem w_retl {v : Value} {x : Int64} {a : List Nat} (he : mm_code mi pc = some (.lreturn, np, v, a)) (h : F (0, some (.long x)) g I) : mm_W mi pc ls [.long x] g I F := ⟨_, g, I, mm_retl he, h⟩
theorem w_retd {v : Value} {x : UInt64} {a : List Nat} (he : mm_code mi pc = some (.dreturn, np, v, a)) (h : F (0, some (.double x)) g I) : mm_W mi pc ls [.double x] g I F := ⟨_, g, I, mm_retd he, h⟩
theorem w_retv {v : Value} {a : List Nat} (he : mm_code mi pc = some (.return_, np, v, a)) (h : F (0, none) g I) : mm_W mi pc ls [] g I F := ⟨_, g, I, mm_retv he, h⟩
/-- the heap's counters after a throw -/
def mm_gx (g : mm_Gg) : mm_Gg := (g.1 + 1, g.2.1 + 6, g.2.2)
theorem w_thr {i E : Nat} {v : Value} {a : List Nat} (he : mm_code mi pc = some (.new i, np, v, 1 :: E :: a)) (hs : (st.map Value.category).sum ≤ 8) (h : F (E, none) (mm_gx g) I) : mm_W mi pc ls st g I F := ⟨(E, none), mm_gx g, I, mm_thr he hs, h⟩
-- calls
theorem w_cl {g' : mm_Gg} {I' : mm_Is} {ck mj na L : Nat} {aux : List Nat} {e : mm_En} {args : List Value} {vo : Option Value}
    (hc : mm_Me mj L args (mm_hp g I) ((0, vo), mm_hp g' I')) (he : mm_code mi pc = some e) (hi : mm_isc e ck mj na L aux) (ha : (st.take na).reverse = args)
    (hn : na ≤ st.length) (hcat : ((st.drop na).map Value.category).sum ≤ 8) (hr : mm_recv ck (aux.headD 99) args (mm_hp g I)) (hL : (mm_spread args).length ≤ L)
    (k : mm_W mi e.2.1 ls (vo.toList ++ st.drop na) g' I' F) : mm_W mi pc ls st g I F := by
  obtain ⟨q, g1, I1, k, x⟩ := k
  exact ⟨q, g1, I1, mm_cll he hi ha hc hn hcat hr hL (Or.inl rfl) k, x⟩
theorem w_cx {g' : mm_Gg} {I' : mm_Is} {ck mj na L E : Nat} {aux : List Nat} {e : mm_En} {args : List Value} {q : Nat × Nat}
    (hc : mm_Me mj L args (mm_hp g I) ((E, none), mm_hp g' I')) (he : mm_code mi pc = some e) (hi : mm_isc e ck mj na L aux) (ha : (st.take na).reverse = args)
    (hn : na ≤ st.length) (hcat : ((st.drop na).map Value.category).sum ≤ 8) (hr : mm_recv ck (aux.headD 99) args (mm_hp g I)) (hL : (mm_spread args).length ≤ L)
    (hE : E ≠ 0) (hq : mm_hand mi E = some q) (hpre : mm_pre ls q.2 = false)
    (k : mm_W mi q.1 (mm_lset ls q.2 .null) [] g' I' F) : mm_W mi pc ls st g I F := by
  obtain ⟨q, g1, I1, k, x⟩ := k
  exact ⟨q, g1, I1, mm_clx he hi ha hc hn hcat hr hL (Or.inl rfl) hE hq hpre k, x⟩
-- fields and arrays
theorem w_gr {w i ci k j : Nat} {v : Value} {tl : List Nat} (he : mm_code mi pc = some (.getfield w, np, v, ci :: k :: 1 :: tl)) (hf : mm_fo i ci) (hj : mm_R0 i k = j) (h0 : j ≠ 0) (K : mm_W mi np ls (.ref j :: st) g I F) : mm_W mi pc ls (.ref i :: st) g I F := by
  subst hj; exact w_of (fun _ k => mm_step he rfl rfl ⟨hf, h0⟩ k) K
theorem w_gi {w i ci k : Nat} {v : Value} {tl : List Nat} (he : mm_code mi pc = some (.getfield w, np, v, ci :: k :: 0 :: tl)) (hf : mm_fo i ci) (K : mm_W mi np ls (.int (I i k) :: st) g I F) : mm_W mi pc ls (.ref i :: st) g I F :=
  w_of (fun _ k => mm_step he rfl rfl hf k) K
theorem w_gb {w i ci k : Nat} {v : Value} {tl : List Nat} (he : mm_code mi pc = some (.getfield w, np, v, ci :: k :: 2 :: tl)) (hf : mm_fo i ci) (K : mm_W mi np ls (.int (I i k) :: st) g I F) : mm_W mi pc ls (.ref i :: st) g I F :=
  w_of (fun _ k => mm_step he rfl rfl hf k) K
theorem w_pi {w i ci k : Nat} {x : Int32} {v : Value} {tl : List Nat} (he : mm_code mi pc = some (.putfield w, np, v, ci :: k :: 0 :: tl)) (hf : mm_fo i ci) (K : mm_W mi np ls st g (va_up I i (upd (I i) k x)) F) : mm_W mi pc ls (.int x :: .ref i :: st) g I F :=
  w_of (fun _ k => mm_step he rfl rfl hf k) K
theorem w_pb {w i ci k : Nat} {x : Int32} {v : Value} {tl : List Nat} (he : mm_code mi pc = some (.putfield w, np, v, ci :: k :: 2 :: tl)) (hf : mm_fo i ci) (hx : x = 0 ∨ x = 1) (K : mm_W mi np ls st g (va_up I i (upd (I i) k x)) F) : mm_W mi pc ls (.int x :: .ref i :: st) g I F :=
  w_of (fun _ k => mm_step he rfl rfl ⟨hf, hx⟩ k) K
theorem mm_fa_ar {i k n j : Nat} (ha : mm_fa i k n) (hj : j < n) : mm_ar (mm_hp g I) i k (nI j) := by
  obtain ⟨h1, h2, h3⟩ := ha
  refine ⟨h1, ?_, ?_⟩
  · show (mm_K0 i).1 = k
    rw [h2]
  · show vp_in (nI j) (mm_K0 i).2
    rw [h2]
    exact vp_in_nI hj (by omega)
theorem w_ia {i n : Nat} (k : Nat) {v : Value} {x : Int32} (he : mm_code mi pc = some (.iaload, np, v, [0])) (ha : mm_fa i 10 n) (hx : x = nI k) (hk : k < n) (K : mm_W mi np ls (.int (I i k) :: st) g I F) : mm_W mi pc ls (.int x :: .ref i :: st) g I F := by
  subst hx
  have hc : (nI k).toNatClampNeg = k := nI_clamp (by have := ha.2.2; omega)
  refine w_of (fun _ k => mm_step he rfl rfl (mm_fa_ar ha hk) k) (ls' := ls) (g' := g) (I' := I) ?_
  show mm_W mi np ls (.int (I i (nI k).toNatClampNeg) :: st) g I F
  rw [hc]; exact K
theorem w_sh (k : Nat) {v : Value} {x : Int32} (he : mm_code mi pc = some (.iaload, np, v, [2])) (hx : x = nI k) (hk : k < 30) (K : mm_W mi np ls (.int (mm_SHP k) :: st) g I F) : mm_W mi pc ls (.int x :: .ref 1000 :: st) g I F := by
  subst hx
  have hc : (nI k).toNatClampNeg = k := nI_clamp (by omega)
  refine w_of (fun _ k => mm_step he rfl rfl ⟨rfl, vp_in_nI hk (by decide)⟩ k) (ls' := ls) (g' := g) (I' := I) ?_
  show mm_W mi np ls (.int (mm_SHP (nI k).toNatClampNeg) :: st) g I F
  rw [hc]; exact K
theorem w_sx (k : Nat) {v : Value} {x : Int32} (he : mm_code mi pc = some (.iaload, np, v, [1])) (hx : x = nI k) (hk : k < g.2.2.2.1) (hL : g.2.2.2.1 < 2 ^ 31) (K : mm_W mi np ls (.int (g.2.2.2.2 k) :: st) g I F) : mm_W mi pc ls (.int x :: .ref 1001 :: st) g I F := by
  subst hx
  have hc : (nI k).toNatClampNeg = k := nI_clamp (by omega)
  refine w_of (fun _ k => mm_step he rfl rfl ⟨rfl, vp_in_nI hk hL⟩ k) (ls' := ls) (g' := g) (I' := I) ?_
  show mm_W mi np ls (.int (g.2.2.2.2 (nI k).toNatClampNeg) :: st) g I F
  rw [hc]; exact K
theorem w_ca {i n : Nat} (k : Nat) {v : Value} {x : Int32} {a : List Nat} (he : mm_code mi pc = some (.caload, np, v, a)) (ha : mm_fa i 11 n) (hx : x = nI k) (hk : k < n) (K : mm_W mi np ls (.int (I i k) :: st) g I F) : mm_W mi pc ls (.int x :: .ref i :: st) g I F := by
  subst hx
  have hc : (nI k).toNatClampNeg = k := nI_clamp (by have := ha.2.2; omega)
  refine w_of (fun _ k => mm_step he rfl rfl (mm_fa_ar ha hk) k) (ls' := ls) (g' := g) (I' := I) ?_
  show mm_W mi np ls (.int (I i (nI k).toNatClampNeg) :: st) g I F
  rw [hc]; exact K
theorem w_is {i n : Nat} (k : Nat) {x j : Int32} {v : Value} {a : List Nat} (he : mm_code mi pc = some (.iastore, np, v, a)) (ha : mm_fa i 10 n) (hx : j = nI k) (hk : k < n) (K : mm_W mi np ls st g (va_up I i (upd (I i) k x)) F) : mm_W mi pc ls (.int x :: .int j :: .ref i :: st) g I F := by
  subst hx
  have hc : (nI k).toNatClampNeg = k := nI_clamp (by have := ha.2.2; omega)
  refine w_of (fun _ k => mm_step he rfl rfl (mm_fa_ar ha hk) k) (ls' := ls) (st' := st) (g' := g) (I' := va_up I i (upd (I i) (nI k).toNatClampNeg x)) ?_
  rw [hc]; exact K
theorem w_cs {i n : Nat} (k : Nat) {x j : Int32} {v : Value} {a : List Nat} (he : mm_code mi pc = some (.castore, np, v, a)) (ha : mm_fa i 11 n) (hx : j = nI k) (hk : k < n) (hn : vp_nar .char x = x) (K : mm_W mi np ls st g (va_up I i (upd (I i) k x)) F) : mm_W mi pc ls (.int x :: .int j :: .ref i :: st) g I F := by
  subst hx
  have hc : (nI k).toNatClampNeg = k := nI_clamp (by have := ha.2.2; omega)
  refine w_of (fun _ k => mm_step he rfl rfl ⟨mm_fa_ar ha hk, hn⟩ k) (ls' := ls) (st' := st) (g' := g) (I' := va_up I i (upd (I i) (nI k).toNatClampNeg x)) ?_
  rw [hc]; exact K
theorem w_ra {i n j : Nat} (k : Nat) {v : Value} {x : Int32} {a : List Nat} (he : mm_code mi pc = some (.aaload, np, v, a)) (ha : mm_fa i 13 n ∨ mm_fa i 14 n) (hx : x = nI k) (hk : k < n) (hj : mm_R0 i k = j) (h0 : j ≠ 0) (K : mm_W mi np ls (.ref j :: st) g I F) : mm_W mi pc ls (.int x :: .ref i :: st) g I F := by
  subst hx hj
  have hn : n < 1000 := by rcases ha with z | z <;> exact z.2.2
  have hc : (nI k).toNatClampNeg = k := nI_clamp (by omega)
  have h0' : mm_R0 i (nI k).toNatClampNeg ≠ 0 := by rw [hc]; exact h0
  have hP : (mm_ar (mm_hp g I) i 13 (nI k) ∨ mm_ar (mm_hp g I) i 14 (nI k)) ∧ mm_R (mm_hp g I) i (nI k).toNatClampNeg ≠ 0 := by
    refine ⟨?_, h0'⟩
    rcases ha with z | z
    · exact Or.inl (mm_fa_ar z hk)
    · exact Or.inr (mm_fa_ar z hk)
  refine w_of (fun _ k => mm_step he rfl rfl hP k) (ls' := ls) (g' := g) (I' := I) ?_
  show mm_W mi np ls (.ref (mm_R0 i (nI k).toNatClampNeg) :: st) g I F
  rw [hc]; exact K
theorem w_inc {i j : Nat} {n : Int} {x y k : Int32} (he : mm_code mi pc = some (.iinc j n, np, .int k, [i])) (hl : mm_lget ls i = .int x) (hp : mm_pre ls i = false) (hi : i < ls.length) (hy : x + k = y) (K : mm_W mi np (mm_lset ls i (.int y)) st g I F) : mm_W mi pc ls st g I F := by
  subst hy
  have hs : ∀ e : Instr × Nat × Value × List Nat, e = (.iinc j n, np, .int k, [i]) → mm_stp e ls st (mm_hp g I) = some (np, mm_lset ls i (.int (x + k)), st, mm_hp g I, i < ls.length) := by
    intro e he
    subst he
    simp only [mm_stp, mm_inc, hl, hp, cond_false]
  exact w_of (fun _ k => mm_step he rfl (hs _ rfl) hi k) K
theorem w_tab {d : Nat} {ts : List Nat} {a b c : Int} {o : Array Int} {v : Value} {x : Int32} (he : mm_code mi pc = some (.tableswitch a b c o, np, v, d :: ts)) (t : Nat) (ht : mm_tsw d ts x = t) (k : mm_W mi t ls st g I F) : mm_W mi pc ls (.int x :: st) g I F :=
  w_of (fun _ k => mm_tab he t ht k) k
theorem w_lok {d : Nat} {ts : List Nat} {a : Int} {o : Array (Int × Int)} {v : Value} {x : Int32} (he : mm_code mi pc = some (.lookupswitch a o, np, v, d :: ts)) (t : Nat) (ht : mm_lsw d ts x = t) (k : mm_W mi t ls st g I F) : mm_W mi pc ls (.int x :: st) g I F :=
  w_of (fun _ k => mm_lok he t ht k) k
/-- the list of places said anew -/
theorem w_ls {ls' : List Value} (h : ls = ls') (k : mm_W mi pc ls' st g I F) : mm_W mi pc ls st g I F := by subst h; exact k
end SX3
theorem mm_fac {i k n : Nat} (h : (Nat.ble 61 i || Nat.ble 1000 n || !(Nat.beq (mm_K0 i).1 k) || !(Nat.beq (mm_K0 i).2 n)) = false) : mm_fa i k n := by
  simp only [Bool.or_eq_false_iff, Bool.not_eq_false', Nat.beq_eq_true_eq] at h
  obtain ⟨⟨⟨h1, h2⟩, h3⟩, h4⟩ := h
  refine ⟨?_, ?_, ?_⟩
  · exact Nat.lt_of_not_le (fun z => by rw [Nat.ble_eq_true_of_le z] at h1; cases h1)
  · exact Prod.ext (Nat.eq_of_beq_eq_true h3) (Nat.eq_of_beq_eq_true h4)
  · exact Nat.lt_of_not_le (fun z => by rw [Nat.ble_eq_true_of_le z] at h2; cases h2)
theorem mm_foc {i k : Nat} (h : (Nat.ble 61 i || !(Nat.beq (mm_K0 i).1 k)) = false) : mm_fo i k := by
  simp only [Bool.or_eq_false_iff, Bool.not_eq_false'] at h
  obtain ⟨h1, h3⟩ := h
  refine ⟨?_, Nat.eq_of_beq_eq_true h3⟩
  exact Nat.lt_of_not_le (fun z => by rw [Nat.ble_eq_true_of_le z] at h1; cases h1)
/-- tables and boards -/
def mm_T (t : Nat) : Prop := t = 7 ∨ t = 45 ∨ t = 49 ∨ t = 53 ∨ t = 57
def mm_B (b : Nat) : Prop := b = 1 ∨ b = 15 ∨ b = 20 ∨ b = 25 ∨ b = 30 ∨ b = 35 ∨ b = 40
theorem mm_T_o {t : Nat} (h : mm_T t) : mm_fo t 2 := by rcases h with rfl | rfl | rfl | rfl | rfl <;> exact mm_foc rfl
theorem mm_T_r {t k : Nat} (h : mm_T t) (hk : k < 3) : mm_R0 t k = t + 1 + k := by
  rcases h with rfl | rfl | rfl | rfl | rfl <;> (match k, hk with | 0, _ => rfl | 1, _ => rfl | 2, _ => rfl)
theorem mm_T_0 {t k : Nat} : t + 1 + k ≠ 0 := by omega
theorem mm_T_a {t k : Nat} (h : mm_T t) (hk : k < 3) : mm_fa (t + 1 + k) 10 10 := by
  rcases h with rfl | rfl | rfl | rfl | rfl <;> (match k, hk with | 0, _ => exact mm_fac rfl | 1, _ => exact mm_fac rfl | 2, _ => exact mm_fac rfl)
theorem mm_T_f {f : Nat} (h : f < 4) : mm_T (45 + 4 * f) := by unfold mm_T; omega
theorem mm_T_6 {f : Nat} (h : f < 4) : mm_R0 6 f = 45 + 4 * f := by match f, h with | 0, _ => rfl | 1, _ => rfl | 2, _ => rfl | 3, _ => rfl
theorem mm_B_o {t : Nat} (h : mm_B t) : mm_fo t 0 := by rcases h with rfl | rfl | rfl | rfl | rfl | rfl | rfl <;> exact mm_foc rfl
theorem mm_B_r {t k : Nat} (h : mm_B t) (hk : k < 4) : mm_R0 t k = t + 1 + k := by
  rcases h with rfl | rfl | rfl | rfl | rfl | rfl | rfl <;> (match k, hk with | 0, _ => rfl | 1, _ => rfl | 2, _ => rfl | 3, _ => rfl)
def mm_Bn (k : Nat) : Nat := ([4, 4, 60, 2] : List Nat).getD k 0
theorem mm_B_a {t k : Nat} (h : mm_B t) (hk : k < 4) : mm_fa (t + 1 + k) 10 (mm_Bn k) := by
  rcases h with rfl | rfl | rfl | rfl | rfl | rfl | rfl <;> (match k, hk with | 0, _ => exact mm_fac rfl | 1, _ => exact mm_fac rfl | 2, _ => exact mm_fac rfl | 3, _ => exact mm_fac rfl)
theorem mm_B_14 {i : Nat} (h : i < 6) : mm_R0 14 i = 15 + 5 * i := by match i, h with | 0, _ => rfl | 1, _ => rfl | 2, _ => rfl | 3, _ => rfl | 4, _ => rfl | 5, _ => rfl
theorem mm_B_i {i : Nat} (h : i < 6) : mm_B (15 + 5 * i) := by unfold mm_B; omega
theorem nI_mul (a b : Nat) : nI a * nI b = nI (a * b) := (Int32.ofNat_mul a b).symm
theorem nI_dec (a : Nat) : nI (a + 1) + (-1) = nI a := by
  rw [← nI_add, Int32.add_assoc]
  show nI a + (nI 1 + -1) = nI a
  rw [show nI 1 + -1 = (0 : Int32) from by decide, Int32.add_zero]
section SX4
variable {mi pc np : Nat} {ls st : List Value} {g : mm_Gg} {I : mm_Is} {F : mm_Ph} {v : Value} {a : List Nat}
theorem w_iadd {x y : Int32} (he : mm_code mi pc = some (.iadd, np, v, a)) (K : mm_W mi np ls (.int (x + y) :: st) g I F) : mm_W mi pc ls (.int y :: .int x :: st) g I F := w_st he rfl rfl trivial K
theorem w_isub {x y : Int32} (he : mm_code mi pc = some (.isub, np, v, a)) (K : mm_W mi np ls (.int (x - y) :: st) g I F) : mm_W mi pc ls (.int y :: .int x :: st) g I F := w_st he rfl rfl trivial K
theorem w_imul {x y : Int32} (he : mm_code mi pc = some (.imul, np, v, a)) (K : mm_W mi np ls (.int (x * y) :: st) g I F) : mm_W mi pc ls (.int y :: .int x :: st) g I F := w_st he rfl rfl trivial K
theorem w_iand {x y : Int32} (he : mm_code mi pc = some (.iand, np, v, a)) (K : mm_W mi np ls (.int (x &&& y) :: st) g I F) : mm_W mi pc ls (.int y :: .int x :: st) g I F := w_st he rfl rfl trivial K
theorem w_ior {x y : Int32} (he : mm_code mi pc = some (.ior, np, v, a)) (K : mm_W mi np ls (.int (x ||| y) :: st) g I F) : mm_W mi pc ls (.int y :: .int x :: st) g I F := w_st he rfl rfl trivial K
theorem w_ixor {x y : Int32} (he : mm_code mi pc = some (.ixor, np, v, a)) (K : mm_W mi np ls (.int (x ^^^ y) :: st) g I F) : mm_W mi pc ls (.int y :: .int x :: st) g I F := w_st he rfl rfl trivial K
theorem w_ladd {x y : Int64} (he : mm_code mi pc = some (.ladd, np, v, a)) (K : mm_W mi np ls (.long (x + y) :: st) g I F) : mm_W mi pc ls (.long y :: .long x :: st) g I F := w_st he rfl rfl trivial K
theorem w_lmul {x y : Int64} (he : mm_code mi pc = some (.lmul, np, v, a)) (K : mm_W mi np ls (.long (x * y) :: st) g I F) : mm_W mi pc ls (.long y :: .long x :: st) g I F := w_st he rfl rfl trivial K
theorem w_ishl {x y : Int32} (he : mm_code mi pc = some (.ishl, np, v, a)) (K : mm_W mi np ls (.int (x <<< (y &&& 31)) :: st) g I F) : mm_W mi pc ls (.int y :: .int x :: st) g I F := w_st he rfl rfl trivial K
theorem w_ishr {x y : Int32} (he : mm_code mi pc = some (.ishr, np, v, a)) (K : mm_W mi np ls (.int (x >>> (y &&& 31)) :: st) g I F) : mm_W mi pc ls (.int y :: .int x :: st) g I F := w_st he rfl rfl trivial K
theorem w_idiv {x y : Int32} (he : mm_code mi pc = some (.idiv, np, v, a)) (hy : ¬ y = 0) (K : mm_W mi np ls (.int (x / y) :: st) g I F) : mm_W mi pc ls (.int y :: .int x :: st) g I F := w_st he rfl rfl hy K
theorem w_irem {x y : Int32} (he : mm_code mi pc = some (.irem, np, v, a)) (hy : ¬ y = 0) (K : mm_W mi np ls (.int (x - x / y * y) :: st) g I F) : mm_W mi pc ls (.int y :: .int x :: st) g I F := w_st he rfl rfl hy K
theorem w_k10 {g' : mm_Gg} {I' : mm_Is} {ck mj L : Nat} {aux : List Nat} {e : mm_En} {a1 : Value} (hc : mm_Me mj L [a1] (mm_hp g I) ((0, none), mm_hp g' I')) (he : mm_code mi pc = some e) (hi : mm_isc e ck mj 1 L aux) (hcat : (st.map Value.category).sum ≤ 8) (hr : mm_recv ck (aux.headD 99) [a1] (mm_hp g I)) (hL : (mm_spread [a1]).length ≤ L) (k : mm_W mi e.2.1 ls (st) g' I' F) : mm_W mi pc ls (a1 :: st) g I F := w_cl hc he hi rfl (by show 1 ≤ st.length + 1; omega) hcat hr hL k
theorem w_k11 {g' : mm_Gg} {I' : mm_Is} {ck mj L : Nat} {aux : List Nat} {e : mm_En} {a1 w : Value} (hc : mm_Me mj L [a1] (mm_hp g I) ((0, some w), mm_hp g' I')) (he : mm_code mi pc = some e) (hi : mm_isc e ck mj 1 L aux) (hcat : (st.map Value.category).sum ≤ 8) (hr : mm_recv ck (aux.headD 99) [a1] (mm_hp g I)) (hL : (mm_spread [a1]).length ≤ L) (k : mm_W mi e.2.1 ls (w :: st) g' I' F) : mm_W mi pc ls (a1 :: st) g I F := w_cl hc he hi rfl (by show 1 ≤ st.length + 1; omega) hcat hr hL k
theorem w_k20 {g' : mm_Gg} {I' : mm_Is} {ck mj L : Nat} {aux : List Nat} {e : mm_En} {a1 a2 : Value} (hc : mm_Me mj L [a1, a2] (mm_hp g I) ((0, none), mm_hp g' I')) (he : mm_code mi pc = some e) (hi : mm_isc e ck mj 2 L aux) (hcat : (st.map Value.category).sum ≤ 8) (hr : mm_recv ck (aux.headD 99) [a1, a2] (mm_hp g I)) (hL : (mm_spread [a1, a2]).length ≤ L) (k : mm_W mi e.2.1 ls (st) g' I' F) : mm_W mi pc ls (a2 :: a1 :: st) g I F := w_cl hc he hi rfl (by show 2 ≤ st.length + 2; omega) hcat hr hL k
theorem w_k21 {g' : mm_Gg} {I' : mm_Is} {ck mj L : Nat} {aux : List Nat} {e : mm_En} {a1 a2 w : Value} (hc : mm_Me mj L [a1, a2] (mm_hp g I) ((0, some w), mm_hp g' I')) (he : mm_code mi pc = some e) (hi : mm_isc e ck mj 2 L aux) (hcat : (st.map Value.category).sum ≤ 8) (hr : mm_recv ck (aux.headD 99) [a1, a2] (mm_hp g I)) (hL : (mm_spread [a1, a2]).length ≤ L) (k : mm_W mi e.2.1 ls (w :: st) g' I' F) : mm_W mi pc ls (a2 :: a1 :: st) g I F := w_cl hc he hi rfl (by show 2 ≤ st.length + 2; omega) hcat hr hL k
theorem w_k30 {g' : mm_Gg} {I' : mm_Is} {ck mj L : Nat} {aux : List Nat} {e : mm_En} {a1 a2 a3 : Value} (hc : mm_Me mj L [a1, a2, a3] (mm_hp g I) ((0, none), mm_hp g' I')) (he : mm_code mi pc = some e) (hi : mm_isc e ck mj 3 L aux) (hcat : (st.map Value.category).sum ≤ 8) (hr : mm_recv ck (aux.headD 99) [a1, a2, a3] (mm_hp g I)) (hL : (mm_spread [a1, a2, a3]).length ≤ L) (k : mm_W mi e.2.1 ls (st) g' I' F) : mm_W mi pc ls (a3 :: a2 :: a1 :: st) g I F := w_cl hc he hi rfl (by show 3 ≤ st.length + 3; omega) hcat hr hL k
theorem w_k31 {g' : mm_Gg} {I' : mm_Is} {ck mj L : Nat} {aux : List Nat} {e : mm_En} {a1 a2 a3 w : Value} (hc : mm_Me mj L [a1, a2, a3] (mm_hp g I) ((0, some w), mm_hp g' I')) (he : mm_code mi pc = some e) (hi : mm_isc e ck mj 3 L aux) (hcat : (st.map Value.category).sum ≤ 8) (hr : mm_recv ck (aux.headD 99) [a1, a2, a3] (mm_hp g I)) (hL : (mm_spread [a1, a2, a3]).length ≤ L) (k : mm_W mi e.2.1 ls (w :: st) g' I' F) : mm_W mi pc ls (a3 :: a2 :: a1 :: st) g I F := w_cl hc he hi rfl (by show 3 ≤ st.length + 3; omega) hcat hr hL k
theorem w_k40 {g' : mm_Gg} {I' : mm_Is} {ck mj L : Nat} {aux : List Nat} {e : mm_En} {a1 a2 a3 a4 : Value} (hc : mm_Me mj L [a1, a2, a3, a4] (mm_hp g I) ((0, none), mm_hp g' I')) (he : mm_code mi pc = some e) (hi : mm_isc e ck mj 4 L aux) (hcat : (st.map Value.category).sum ≤ 8) (hr : mm_recv ck (aux.headD 99) [a1, a2, a3, a4] (mm_hp g I)) (hL : (mm_spread [a1, a2, a3, a4]).length ≤ L) (k : mm_W mi e.2.1 ls (st) g' I' F) : mm_W mi pc ls (a4 :: a3 :: a2 :: a1 :: st) g I F := w_cl hc he hi rfl (by show 4 ≤ st.length + 4; omega) hcat hr hL k
theorem w_k41 {g' : mm_Gg} {I' : mm_Is} {ck mj L : Nat} {aux : List Nat} {e : mm_En} {a1 a2 a3 a4 w : Value} (hc : mm_Me mj L [a1, a2, a3, a4] (mm_hp g I) ((0, some w), mm_hp g' I')) (he : mm_code mi pc = some e) (hi : mm_isc e ck mj 4 L aux) (hcat : (st.map Value.category).sum ≤ 8) (hr : mm_recv ck (aux.headD 99) [a1, a2, a3, a4] (mm_hp g I)) (hL : (mm_spread [a1, a2, a3, a4]).length ≤ L) (k : mm_W mi e.2.1 ls (w :: st) g' I' F) : mm_W mi pc ls (a4 :: a3 :: a2 :: a1 :: st) g I F := w_cl hc he hi rfl (by show 4 ≤ st.length + 4; omega) hcat hr hL k
theorem w_k50 {g' : mm_Gg} {I' : mm_Is} {ck mj L : Nat} {aux : List Nat} {e : mm_En} {a1 a2 a3 a4 a5 : Value} (hc : mm_Me mj L [a1, a2, a3, a4, a5] (mm_hp g I) ((0, none), mm_hp g' I')) (he : mm_code mi pc = some e) (hi : mm_isc e ck mj 5 L aux) (hcat : (st.map Value.category).sum ≤ 8) (hr : mm_recv ck (aux.headD 99) [a1, a2, a3, a4, a5] (mm_hp g I)) (hL : (mm_spread [a1, a2, a3, a4, a5]).length ≤ L) (k : mm_W mi e.2.1 ls (st) g' I' F) : mm_W mi pc ls (a5 :: a4 :: a3 :: a2 :: a1 :: st) g I F := w_cl hc he hi rfl (by show 5 ≤ st.length + 5; omega) hcat hr hL k
theorem w_k51 {g' : mm_Gg} {I' : mm_Is} {ck mj L : Nat} {aux : List Nat} {e : mm_En} {a1 a2 a3 a4 a5 w : Value} (hc : mm_Me mj L [a1, a2, a3, a4, a5] (mm_hp g I) ((0, some w), mm_hp g' I')) (he : mm_code mi pc = some e) (hi : mm_isc e ck mj 5 L aux) (hcat : (st.map Value.category).sum ≤ 8) (hr : mm_recv ck (aux.headD 99) [a1, a2, a3, a4, a5] (mm_hp g I)) (hL : (mm_spread [a1, a2, a3, a4, a5]).length ≤ L) (k : mm_W mi e.2.1 ls (w :: st) g' I' F) : mm_W mi pc ls (a5 :: a4 :: a3 :: a2 :: a1 :: st) g I F := w_cl hc he hi rfl (by show 5 ≤ st.length + 5; omega) hcat hr hL k
theorem w_k60 {g' : mm_Gg} {I' : mm_Is} {ck mj L : Nat} {aux : List Nat} {e : mm_En} {a1 a2 a3 a4 a5 a6 : Value} (hc : mm_Me mj L [a1, a2, a3, a4, a5, a6] (mm_hp g I) ((0, none), mm_hp g' I')) (he : mm_code mi pc = some e) (hi : mm_isc e ck mj 6 L aux) (hcat : (st.map Value.category).sum ≤ 8) (hr : mm_recv ck (aux.headD 99) [a1, a2, a3, a4, a5, a6] (mm_hp g I)) (hL : (mm_spread [a1, a2, a3, a4, a5, a6]).length ≤ L) (k : mm_W mi e.2.1 ls (st) g' I' F) : mm_W mi pc ls (a6 :: a5 :: a4 :: a3 :: a2 :: a1 :: st) g I F := w_cl hc he hi rfl (by show 6 ≤ st.length + 6; omega) hcat hr hL k
theorem w_k61 {g' : mm_Gg} {I' : mm_Is} {ck mj L : Nat} {aux : List Nat} {e : mm_En} {a1 a2 a3 a4 a5 a6 w : Value} (hc : mm_Me mj L [a1, a2, a3, a4, a5, a6] (mm_hp g I) ((0, some w), mm_hp g' I')) (he : mm_code mi pc = some e) (hi : mm_isc e ck mj 6 L aux) (hcat : (st.map Value.category).sum ≤ 8) (hr : mm_recv ck (aux.headD 99) [a1, a2, a3, a4, a5, a6] (mm_hp g I)) (hL : (mm_spread [a1, a2, a3, a4, a5, a6]).length ≤ L) (k : mm_W mi e.2.1 ls (w :: st) g' I' F) : mm_W mi pc ls (a6 :: a5 :: a4 :: a3 :: a2 :: a1 :: st) g I F := w_cl hc he hi rfl (by show 6 ≤ st.length + 6; omega) hcat hr hL k
end SX4
