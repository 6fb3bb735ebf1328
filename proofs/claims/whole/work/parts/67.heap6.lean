/-! the heap of 61 cells, the class alone: the rows of part 30 and seven contracts said of it -/
def mm_K6 : Nat → Nat × Nat := fun i => bif Nat.ble 61 i then (0, 0) else mm_K0 i
def mm_R6 : Nat → Nat → Nat := fun i k => bif Nat.ble 61 i then 0 else mm_R0 i k
/-- the heap: counters, longs and script g, ints I -/
def kmm_hp (g : mm_Gg) (I : mm_Is) : mm_Hp := ((61, g.1, g.2.1), mm_K6, mm_R6, I, g.2.2.1, g.2.2.2)
/-- from there the machine comes to an answer and a heap of which F holds -/
def kmm_W (mi pc : Nat) (ls st : List Value) (g : mm_Gg) (I : mm_Is) (F : mm_Ph) : Prop := ∃ q g' I', mm_Ru mi pc ls st (kmm_hp g I) (q, kmm_hp g' I') ∧ F q g' I'
/-- i is an object of class ci / an array of kind k, n long -/
def kmm_fo (i ci : Nat) : Prop := i < 61 ∧ (mm_K6 i).1 = ci
def kmm_fa (i k n : Nat) : Prop := i < 61 ∧ mm_K6 i = (k, n) ∧ n < 1000
/-- a method, said over this heap: answer v, ints I' -/
def kmm_M (mj L : Nat) (av : List Value) (g : mm_Gg) (I : mm_Is) (v : Option Value) (I' : mm_Is) : Prop := mm_Me mj L av (kmm_hp g I) ((0, v), kmm_hp g I')
theorem kw_MX {mj L : Nat} {av : List Value} {g : mm_Gg} {I : mm_Is} {v : Option Value} {Q : mm_Is → Prop} (h : kmm_W mj 0 (mm_ent L av) [] g I (mm_EQ v g Q)) : ∃ I', kmm_M mj L av g I v I' ∧ Q I' := by
  obtain ⟨q, g', J, h1, h2, h3, h4⟩ := h
  subst h2 h3
  exact ⟨J, h1, h4⟩
theorem kw_M {mj L : Nat} {av : List Value} {g : mm_Gg} {I I' : mm_Is} {v : Option Value} (h : kmm_W mj 0 (mm_ent L av) [] g I (mm_EX v g I')) : kmm_M mj L av g I v I' := by
  obtain ⟨q, g', J, h1, h2, h3, h4⟩ := h
  subst h2 h3 h4
  exact h1
section SX
variable {mi pc np : Nat} {ls st : List Value} {g : mm_Gg} {I : mm_Is} {F : mm_Ph}
theorem kw_of {mi pc mi' pc' : Nat} {ls ls' st st' : List Value} {g g' : mm_Gg} {I I' : mm_Is} (h : ∀ r, mm_Ru mi' pc' ls' st' (kmm_hp g' I') r → mm_Ru mi pc ls st (kmm_hp g I) r) (k : kmm_W mi' pc' ls' st' g' I' F) : kmm_W mi pc ls st g I F := by
  obtain ⟨q, g', I', k, x⟩ := k
  exact ⟨q, g', I', h _ k, x⟩
theorem kw_st {pc' : Nat} {ls' st' : List Value} {P : Prop} {e : mm_En} (he : mm_code mi pc = some e) (hp : mm_pl e = true) (hs : mm_stp e ls st (kmm_hp g I) = some (pc', ls', st', kmm_hp g I, P)) (hP : P) (k : kmm_W mi pc' ls' st' g I F) : kmm_W mi pc ls st g I F :=
  kw_of (fun _ k => mm_step he hp hs hP k) k
/-- the stack's head said anew -/
theorem kw_hd {x y : Int32} (h : x = y) (k : kmm_W mi pc ls (.int y :: st) g I F) : kmm_W mi pc ls (.int x :: st) g I F := by subst h; exact k
theorem kw_imp {G : mm_Ph} (h : kmm_W mi pc ls st g I G) (k : ∀ q g' I', G q g' I' → F q g' I') : kmm_W mi pc ls st g I F := by
  obtain ⟨q, g', I', h1, h2⟩ := h
  exact ⟨q, g', I', h1, k _ _ _ h2⟩
-- branches
theorem kw_if {t : Nat} {q : List Value} {c : Jvm.ClassFile.Cond} {o : Int} {v : Value} {x : Int32} {A B : Prop} (he : mm_code mi pc = some (.ifCond c o, np, v, [t])) (hA : mm_cz c x → A) (hB : ¬ mm_cz c x → B) (k1 : A → kmm_W mi t ls q g I F) (k2 : B → kmm_W mi np ls q g I F) : kmm_W mi pc ls (.int x :: q) g I F := by
  by_cases hc : mm_cz c x
  · exact kw_of (fun _ k => mm_ifz he (fun _ => k) (fun z => absurd hc z)) (k1 (hA hc))
  · exact kw_of (fun _ k => mm_ifz he (fun z => absurd z hc) (fun _ => k)) (k2 (hB hc))
theorem kw_ic {t : Nat} {q : List Value} {c : Jvm.ClassFile.Cond} {o : Int} {v : Value} {x y : Int32} {A B : Prop} (he : mm_code mi pc = some (.if_icmp c o, np, v, [t])) (hA : mm_c2 c x y → A) (hB : ¬ mm_c2 c x y → B) (k1 : A → kmm_W mi t ls q g I F) (k2 : B → kmm_W mi np ls q g I F) : kmm_W mi pc ls (.int y :: .int x :: q) g I F := by
  by_cases hc : mm_c2 c x y
  · exact kw_of (fun _ k => mm_if2 he (fun _ => k) (fun z => absurd hc z)) (k1 (hA hc))
  · exact kw_of (fun _ k => mm_if2 he (fun z => absurd z hc) (fun _ => k)) (k2 (hB hc))
end SX
section SX2
variable {mi pc np t : Nat} {ls q : List Value} {g : mm_Gg} {I : mm_Is} {F : mm_Ph} {o : Int} {v : Value} {x y : Int32} {a b : Nat} {p : Prop}
-- of ints
theorem kw_v_eq (he : mm_code mi pc = some (.if_icmp .eq o, np, v, [t])) (k1 : x = y → kmm_W mi t ls q g I F) (k2 : ¬ x = y → kmm_W mi np ls q g I F) : kmm_W mi pc ls (.int y :: .int x :: q) g I F := kw_ic he id id k1 k2
theorem kw_v_ne (he : mm_code mi pc = some (.if_icmp .ne o, np, v, [t])) (k1 : ¬ x = y → kmm_W mi t ls q g I F) (k2 : x = y → kmm_W mi np ls q g I F) : kmm_W mi pc ls (.int y :: .int x :: q) g I F := kw_ic he id (fun z => Classical.not_not.1 z) k1 k2
theorem kw_v_lt (he : mm_code mi pc = some (.if_icmp .lt o, np, v, [t])) (k1 : x < y → kmm_W mi t ls q g I F) (k2 : ¬ x < y → kmm_W mi np ls q g I F) : kmm_W mi pc ls (.int y :: .int x :: q) g I F := kw_ic he id id k1 k2
theorem kw_v_ge (he : mm_code mi pc = some (.if_icmp .ge o, np, v, [t])) (k1 : y ≤ x → kmm_W mi t ls q g I F) (k2 : ¬ y ≤ x → kmm_W mi np ls q g I F) : kmm_W mi pc ls (.int y :: .int x :: q) g I F := kw_ic he id id k1 k2
theorem kw_v_gt (he : mm_code mi pc = some (.if_icmp .gt o, np, v, [t])) (k1 : y < x → kmm_W mi t ls q g I F) (k2 : ¬ y < x → kmm_W mi np ls q g I F) : kmm_W mi pc ls (.int y :: .int x :: q) g I F := kw_ic he id id k1 k2
theorem kw_v_le (he : mm_code mi pc = some (.if_icmp .le o, np, v, [t])) (k1 : x ≤ y → kmm_W mi t ls q g I F) (k2 : ¬ x ≤ y → kmm_W mi np ls q g I F) : kmm_W mi pc ls (.int y :: .int x :: q) g I F := kw_ic he id id k1 k2
-- of numbers
theorem kw_n_eq (he : mm_code mi pc = some (.if_icmp .eq o, np, v, [t])) (ha : a < 2 ^ 31) (hb : b < 2 ^ 31) (hx : x = nI a) (hy : y = nI b) (k1 : a = b → kmm_W mi t ls q g I F) (k2 : ¬ a = b → kmm_W mi np ls q g I F) : kmm_W mi pc ls (.int y :: .int x :: q) g I F := by
  subst hx hy; exact kw_ic he (mm_c2n ha hb).1.1 (not_congr (mm_c2n ha hb).1).1 k1 k2
theorem kw_n_ne (he : mm_code mi pc = some (.if_icmp .ne o, np, v, [t])) (ha : a < 2 ^ 31) (hb : b < 2 ^ 31) (hx : x = nI a) (hy : y = nI b) (k1 : ¬ a = b → kmm_W mi t ls q g I F) (k2 : a = b → kmm_W mi np ls q g I F) : kmm_W mi pc ls (.int y :: .int x :: q) g I F := by
  subst hx hy; exact kw_ic he (mm_c2n ha hb).2.1.1 (fun z => by have := not_congr (mm_c2n ha hb).2.1 |>.1 z; omega) k1 k2
theorem kw_n_lt (he : mm_code mi pc = some (.if_icmp .lt o, np, v, [t])) (ha : a < 2 ^ 31) (hb : b < 2 ^ 31) (hx : x = nI a) (hy : y = nI b) (k1 : a < b → kmm_W mi t ls q g I F) (k2 : b ≤ a → kmm_W mi np ls q g I F) : kmm_W mi pc ls (.int y :: .int x :: q) g I F := by
  subst hx hy; exact kw_ic he (mm_c2n ha hb).2.2.1.1 (fun z => by have := not_congr (mm_c2n ha hb).2.2.1 |>.1 z; omega) k1 k2
theorem kw_n_ge (he : mm_code mi pc = some (.if_icmp .ge o, np, v, [t])) (ha : a < 2 ^ 31) (hb : b < 2 ^ 31) (hx : x = nI a) (hy : y = nI b) (k1 : b ≤ a → kmm_W mi t ls q g I F) (k2 : a < b → kmm_W mi np ls q g I F) : kmm_W mi pc ls (.int y :: .int x :: q) g I F := by
  subst hx hy; exact kw_ic he (mm_c2n ha hb).2.2.2.1.1 (fun z => by have := not_congr (mm_c2n ha hb).2.2.2.1 |>.1 z; omega) k1 k2
theorem kw_n_gt (he : mm_code mi pc = some (.if_icmp .gt o, np, v, [t])) (ha : a < 2 ^ 31) (hb : b < 2 ^ 31) (hx : x = nI a) (hy : y = nI b) (k1 : b < a → kmm_W mi t ls q g I F) (k2 : a ≤ b → kmm_W mi np ls q g I F) : kmm_W mi pc ls (.int y :: .int x :: q) g I F := by
  subst hx hy; exact kw_ic he (mm_c2n ha hb).2.2.2.2.1.1 (fun z => by have := not_congr (mm_c2n ha hb).2.2.2.2.1 |>.1 z; omega) k1 k2
theorem kw_n_le (he : mm_code mi pc = some (.if_icmp .le o, np, v, [t])) (ha : a < 2 ^ 31) (hb : b < 2 ^ 31) (hx : x = nI a) (hy : y = nI b) (k1 : a ≤ b → kmm_W mi t ls q g I F) (k2 : b < a → kmm_W mi np ls q g I F) : kmm_W mi pc ls (.int y :: .int x :: q) g I F := by
  subst hx hy; exact kw_ic he (mm_c2n ha hb).2.2.2.2.2.1 (fun z => by have := not_congr (mm_c2n ha hb).2.2.2.2.2 |>.1 z; omega) k1 k2
-- of one int
theorem kw_z_eq (he : mm_code mi pc = some (.ifCond .eq o, np, v, [t])) (k1 : x = 0 → kmm_W mi t ls q g I F) (k2 : ¬ x = 0 → kmm_W mi np ls q g I F) : kmm_W mi pc ls (.int x :: q) g I F := kw_if he id id k1 k2
theorem kw_z_ne (he : mm_code mi pc = some (.ifCond .ne o, np, v, [t])) (k1 : ¬ x = 0 → kmm_W mi t ls q g I F) (k2 : x = 0 → kmm_W mi np ls q g I F) : kmm_W mi pc ls (.int x :: q) g I F := kw_if he id (fun z => Classical.not_not.1 z) k1 k2
theorem kw_z_lt (he : mm_code mi pc = some (.ifCond .lt o, np, v, [t])) (k1 : x < 0 → kmm_W mi t ls q g I F) (k2 : ¬ x < 0 → kmm_W mi np ls q g I F) : kmm_W mi pc ls (.int x :: q) g I F := kw_if he id id k1 k2
theorem kw_z_ge (he : mm_code mi pc = some (.ifCond .ge o, np, v, [t])) (k1 : 0 ≤ x → kmm_W mi t ls q g I F) (k2 : ¬ 0 ≤ x → kmm_W mi np ls q g I F) : kmm_W mi pc ls (.int x :: q) g I F := kw_if he id id k1 k2
theorem kw_z_gt (he : mm_code mi pc = some (.ifCond .gt o, np, v, [t])) (k1 : 0 < x → kmm_W mi t ls q g I F) (k2 : ¬ 0 < x → kmm_W mi np ls q g I F) : kmm_W mi pc ls (.int x :: q) g I F := kw_if he id id k1 k2
theorem kw_z_le (he : mm_code mi pc = some (.ifCond .le o, np, v, [t])) (k1 : x ≤ 0 → kmm_W mi t ls q g I F) (k2 : ¬ x ≤ 0 → kmm_W mi np ls q g I F) : kmm_W mi pc ls (.int x :: q) g I F := kw_if he id id k1 k2
-- of one number
theorem kw_m_eq (he : mm_code mi pc = some (.ifCond .eq o, np, v, [t])) (ha : a < 2 ^ 31) (hx : x = nI a) (k1 : a = 0 → kmm_W mi t ls q g I F) (k2 : 0 < a → kmm_W mi np ls q g I F) : kmm_W mi pc ls (.int x :: q) g I F := by
  subst hx; exact kw_if he (mm_czn ha).1.1 (fun z => by have := not_congr (mm_czn ha).1 |>.1 z; omega) k1 k2
theorem kw_m_ne (he : mm_code mi pc = some (.ifCond .ne o, np, v, [t])) (ha : a < 2 ^ 31) (hx : x = nI a) (k1 : 0 < a → kmm_W mi t ls q g I F) (k2 : a = 0 → kmm_W mi np ls q g I F) : kmm_W mi pc ls (.int x :: q) g I F := by
  subst hx; exact kw_if he (fun z => by have := (mm_czn ha).2.1.1 z; omega) (fun z => by have := not_congr (mm_czn ha).2.1 |>.1 z; omega) k1 k2
theorem kw_m_lt (he : mm_code mi pc = some (.ifCond .lt o, np, v, [t])) (ha : a < 2 ^ 31) (hx : x = nI a) (k2 : kmm_W mi np ls q g I F) : kmm_W mi pc ls (.int x :: q) g I F := by
  subst hx; exact kw_if (A := False) (B := True) he (fun z => by have := (mm_czn ha).2.2.1.1 z; omega) (fun _ => trivial) (fun z => z.elim) (fun _ => k2)
theorem kw_m_ge (he : mm_code mi pc = some (.ifCond .ge o, np, v, [t])) (ha : a < 2 ^ 31) (hx : x = nI a) (k2 : kmm_W mi t ls q g I F) : kmm_W mi pc ls (.int x :: q) g I F := by
  subst hx; exact kw_if (A := True) (B := False) he (fun _ => trivial) (fun z => by have := not_congr (mm_czn ha).2.2.2.1 |>.1 z; omega) (fun _ => k2) (fun z => z.elim)
theorem kw_m_gt (he : mm_code mi pc = some (.ifCond .gt o, np, v, [t])) (ha : a < 2 ^ 31) (hx : x = nI a) (k1 : 0 < a → kmm_W mi t ls q g I F) (k2 : a = 0 → kmm_W mi np ls q g I F) : kmm_W mi pc ls (.int x :: q) g I F := by
  subst hx; exact kw_if he (mm_czn ha).2.2.2.2.1.1 (fun z => by have := not_congr (mm_czn ha).2.2.2.2.1 |>.1 z; omega) k1 k2
theorem kw_m_le (he : mm_code mi pc = some (.ifCond .le o, np, v, [t])) (ha : a < 2 ^ 31) (hx : x = nI a) (k1 : a = 0 → kmm_W mi t ls q g I F) (k2 : 0 < a → kmm_W mi np ls q g I F) : kmm_W mi pc ls (.int x :: q) g I F := by
  subst hx; exact kw_if he (fun z => by have := (mm_czn ha).2.2.2.2.2.1 z; omega) (fun z => by have := not_congr (mm_czn ha).2.2.2.2.2 |>.1 z; omega) k1 k2
-- of a truth
theorem kw_b_eq (he : mm_code mi pc = some (.ifCond .eq o, np, v, [t])) (k1 : ¬ p → kmm_W mi t ls q g I F) (k2 : p → kmm_W mi np ls q g I F) : kmm_W mi pc ls (.int (mm_bi p) :: q) g I F := by
  refine kw_if he (fun z => ?_) (fun z => ?_) k1 k2
  · intro hp
    have z' : mm_bi p = 0 := z
    rw [mm_bi_t hp] at z'
    exact absurd z' (by decide)
  · exact Classical.byContradiction (fun hp => z (mm_bi_f hp))
theorem kw_b_ne (he : mm_code mi pc = some (.ifCond .ne o, np, v, [t])) (k1 : p → kmm_W mi t ls q g I F) (k2 : ¬ p → kmm_W mi np ls q g I F) : kmm_W mi pc ls (.int (mm_bi p) :: q) g I F := by
  refine kw_if he (fun z => ?_) (fun z => ?_) k1 k2
  · exact Classical.byContradiction (fun hp => z (mm_bi_f hp))
  · intro hp
    exact z (fun z' => by rw [mm_bi_t hp] at z'; exact absurd z' (by decide))
end SX2
section SX3
variable {mi pc np : Nat} {ls st : List Value} {g : mm_Gg} {I : mm_Is} {F : mm_Ph}
-- answers
theorem kw_reti {v : Value} {x : Int32} (he : mm_code mi pc = some (.ireturn, np, v, [0])) (h : F (0, some (.int x)) g I) : kmm_W mi pc ls [.int x] g I F := ⟨_, g, I, mm_reti he, h⟩
theorem kw_retz {v : Value} {x : Int32} (he : mm_code mi pc = some (.ireturn, np, v, [1])) (hx : x = 0 ∨ x = 1) (h : F (0, some (.int x)) g I) : kmm_W mi pc ls [.int x] g I F := ⟨_, g, I, mm_retz he hx, h⟩
theorem kw_retc {v : Value} {x : Int32} (he : mm_code mi pc = some (.ireturn, np, v, [2])) (hx : vp_nar .char x = x) (h : F (0, some (.int x)) g I) : kmm_W mi pc ls [.int x] g I F := ⟨_, g, I, mm_retc he hx, h⟩
theorem kw_retl {v : Value} {x : Int64} {a : List Nat} (he : mm_code mi pc = some (.lreturn, np, v, a)) (h : F (0, some (.long x)) g I) : kmm_W mi pc ls [.long x] g I F := ⟨_, g, I, mm_retl he, h⟩
theorem kw_retd {v : Value} {x : UInt64} {a : List Nat} (he : mm_code mi pc = some (.dreturn, np, v, a)) (h : F (0, some (.double x)) g I) : kmm_W mi pc ls [.double x] g I F := ⟨_, g, I, mm_retd he, h⟩
theorem kw_retv {v : Value} {a : List Nat} (he : mm_code mi pc = some (.return_, np, v, a)) (h : F (0, none) g I) : kmm_W mi pc ls [] g I F := ⟨_, g, I, mm_retv he, h⟩
/-- the heap's counters after a throw -/
theorem kw_thr {i E : Nat} {v : Value} {a : List Nat} (he : mm_code mi pc = some (.new i, np, v, 1 :: E :: a)) (hs : (st.map Value.category).sum ≤ 8) (h : F (E, none) (mm_gx g) I) : kmm_W mi pc ls st g I F := ⟨(E, none), mm_gx g, I, mm_thr he hs, h⟩
-- calls
theorem kw_cl {g' : mm_Gg} {I' : mm_Is} {ck mj na L : Nat} {aux : List Nat} {e : mm_En} {args : List Value} {vo : Option Value}
    (hc : mm_Me mj L args (kmm_hp g I) ((0, vo), kmm_hp g' I')) (he : mm_code mi pc = some e) (hi : mm_isc e ck mj na L aux) (ha : (st.take na).reverse = args)
    (hn : na ≤ st.length) (hcat : ((st.drop na).map Value.category).sum ≤ 8) (hr : mm_recv ck (aux.headD 99) args (kmm_hp g I)) (hL : (mm_spread args).length ≤ L)
    (k : kmm_W mi e.2.1 ls (vo.toList ++ st.drop na) g' I' F) : kmm_W mi pc ls st g I F := by
  obtain ⟨q, g1, I1, k, x⟩ := k
  exact ⟨q, g1, I1, mm_cll he hi ha hc hn hcat hr hL (Or.inl rfl) k, x⟩
theorem kw_cx {g' : mm_Gg} {I' : mm_Is} {ck mj na L E : Nat} {aux : List Nat} {e : mm_En} {args : List Value} {q : Nat × Nat}
    (hc : mm_Me mj L args (kmm_hp g I) ((E, none), kmm_hp g' I')) (he : mm_code mi pc = some e) (hi : mm_isc e ck mj na L aux) (ha : (st.take na).reverse = args)
    (hn : na ≤ st.length) (hcat : ((st.drop na).map Value.category).sum ≤ 8) (hr : mm_recv ck (aux.headD 99) args (kmm_hp g I)) (hL : (mm_spread args).length ≤ L)
    (hE : E ≠ 0) (hq : mm_hand mi E = some q) (hpre : mm_pre ls q.2 = false)
    (k : kmm_W mi q.1 (mm_lset ls q.2 .null) [] g' I' F) : kmm_W mi pc ls st g I F := by
  obtain ⟨q, g1, I1, k, x⟩ := k
  exact ⟨q, g1, I1, mm_clx he hi ha hc hn hcat hr hL (Or.inl rfl) hE hq hpre k, x⟩
-- fields and arrays
theorem kw_gr {w i ci k j : Nat} {v : Value} {tl : List Nat} (he : mm_code mi pc = some (.getfield w, np, v, ci :: k :: 1 :: tl)) (hf : kmm_fo i ci) (hj : mm_R6 i k = j) (h0 : j ≠ 0) (K : kmm_W mi np ls (.ref j :: st) g I F) : kmm_W mi pc ls (.ref i :: st) g I F := by
  subst hj; exact kw_of (fun _ k => mm_step he rfl rfl ⟨hf, h0⟩ k) K
theorem kw_gi {w i ci k : Nat} {v : Value} {tl : List Nat} (he : mm_code mi pc = some (.getfield w, np, v, ci :: k :: 0 :: tl)) (hf : kmm_fo i ci) (K : kmm_W mi np ls (.int (I i k) :: st) g I F) : kmm_W mi pc ls (.ref i :: st) g I F :=
  kw_of (fun _ k => mm_step he rfl rfl hf k) K
theorem kw_gb {w i ci k : Nat} {v : Value} {tl : List Nat} (he : mm_code mi pc = some (.getfield w, np, v, ci :: k :: 2 :: tl)) (hf : kmm_fo i ci) (K : kmm_W mi np ls (.int (I i k) :: st) g I F) : kmm_W mi pc ls (.ref i :: st) g I F :=
  kw_of (fun _ k => mm_step he rfl rfl hf k) K
theorem kw_pi {w i ci k : Nat} {x : Int32} {v : Value} {tl : List Nat} (he : mm_code mi pc = some (.putfield w, np, v, ci :: k :: 0 :: tl)) (hf : kmm_fo i ci) (K : kmm_W mi np ls st g (va_up I i (upd (I i) k x)) F) : kmm_W mi pc ls (.int x :: .ref i :: st) g I F :=
  kw_of (fun _ k => mm_step he rfl rfl hf k) K
theorem kw_pb {w i ci k : Nat} {x : Int32} {v : Value} {tl : List Nat} (he : mm_code mi pc = some (.putfield w, np, v, ci :: k :: 2 :: tl)) (hf : kmm_fo i ci) (hx : x = 0 ∨ x = 1) (K : kmm_W mi np ls st g (va_up I i (upd (I i) k x)) F) : kmm_W mi pc ls (.int x :: .ref i :: st) g I F :=
  kw_of (fun _ k => mm_step he rfl rfl ⟨hf, hx⟩ k) K
theorem kmm_fa_ar {i k n j : Nat} (ha : kmm_fa i k n) (hj : j < n) : mm_ar (kmm_hp g I) i k (nI j) := by
  obtain ⟨h1, h2, h3⟩ := ha
  refine ⟨h1, ?_, ?_⟩
  · show (mm_K6 i).1 = k
    rw [h2]
  · show vp_in (nI j) (mm_K6 i).2
    rw [h2]
    exact vp_in_nI hj (by omega)
theorem kw_ia {i n : Nat} (k : Nat) {v : Value} {x : Int32} (he : mm_code mi pc = some (.iaload, np, v, [0])) (ha : kmm_fa i 10 n) (hx : x = nI k) (hk : k < n) (K : kmm_W mi np ls (.int (I i k) :: st) g I F) : kmm_W mi pc ls (.int x :: .ref i :: st) g I F := by
  subst hx
  have hc : (nI k).toNatClampNeg = k := nI_clamp (by have := ha.2.2; omega)
  refine kw_of (fun _ k => mm_step he rfl rfl (kmm_fa_ar ha hk) k) (ls' := ls) (g' := g) (I' := I) ?_
  show kmm_W mi np ls (.int (I i (nI k).toNatClampNeg) :: st) g I F
  rw [hc]; exact K
theorem kw_sh (k : Nat) {v : Value} {x : Int32} (he : mm_code mi pc = some (.iaload, np, v, [2])) (hx : x = nI k) (hk : k < 30) (K : kmm_W mi np ls (.int (mm_SHP k) :: st) g I F) : kmm_W mi pc ls (.int x :: .ref 1000 :: st) g I F := by
  subst hx
  have hc : (nI k).toNatClampNeg = k := nI_clamp (by omega)
  refine kw_of (fun _ k => mm_step he rfl rfl ⟨rfl, vp_in_nI hk (by decide)⟩ k) (ls' := ls) (g' := g) (I' := I) ?_
  show kmm_W mi np ls (.int (mm_SHP (nI k).toNatClampNeg) :: st) g I F
  rw [hc]; exact K
theorem kw_ca {i n : Nat} (k : Nat) {v : Value} {x : Int32} {a : List Nat} (he : mm_code mi pc = some (.caload, np, v, a)) (ha : kmm_fa i 11 n) (hx : x = nI k) (hk : k < n) (K : kmm_W mi np ls (.int (I i k) :: st) g I F) : kmm_W mi pc ls (.int x :: .ref i :: st) g I F := by
  subst hx
  have hc : (nI k).toNatClampNeg = k := nI_clamp (by have := ha.2.2; omega)
  refine kw_of (fun _ k => mm_step he rfl rfl (kmm_fa_ar ha hk) k) (ls' := ls) (g' := g) (I' := I) ?_
  show kmm_W mi np ls (.int (I i (nI k).toNatClampNeg) :: st) g I F
  rw [hc]; exact K
theorem kw_is {i n : Nat} (k : Nat) {x j : Int32} {v : Value} {a : List Nat} (he : mm_code mi pc = some (.iastore, np, v, a)) (ha : kmm_fa i 10 n) (hx : j = nI k) (hk : k < n) (K : kmm_W mi np ls st g (va_up I i (upd (I i) k x)) F) : kmm_W mi pc ls (.int x :: .int j :: .ref i :: st) g I F := by
  subst hx
  have hc : (nI k).toNatClampNeg = k := nI_clamp (by have := ha.2.2; omega)
  refine kw_of (fun _ k => mm_step he rfl rfl (kmm_fa_ar ha hk) k) (ls' := ls) (st' := st) (g' := g) (I' := va_up I i (upd (I i) (nI k).toNatClampNeg x)) ?_
  rw [hc]; exact K
theorem kw_cs {i n : Nat} (k : Nat) {x j : Int32} {v : Value} {a : List Nat} (he : mm_code mi pc = some (.castore, np, v, a)) (ha : kmm_fa i 11 n) (hx : j = nI k) (hk : k < n) (hn : vp_nar .char x = x) (K : kmm_W mi np ls st g (va_up I i (upd (I i) k x)) F) : kmm_W mi pc ls (.int x :: .int j :: .ref i :: st) g I F := by
  subst hx
  have hc : (nI k).toNatClampNeg = k := nI_clamp (by have := ha.2.2; omega)
  refine kw_of (fun _ k => mm_step he rfl rfl ⟨kmm_fa_ar ha hk, hn⟩ k) (ls' := ls) (st' := st) (g' := g) (I' := va_up I i (upd (I i) (nI k).toNatClampNeg x)) ?_
  rw [hc]; exact K
theorem kw_ra {i n j : Nat} (k : Nat) {v : Value} {x : Int32} {a : List Nat} (he : mm_code mi pc = some (.aaload, np, v, a)) (ha : kmm_fa i 13 n ∨ kmm_fa i 14 n) (hx : x = nI k) (hk : k < n) (hj : mm_R6 i k = j) (h0 : j ≠ 0) (K : kmm_W mi np ls (.ref j :: st) g I F) : kmm_W mi pc ls (.int x :: .ref i :: st) g I F := by
  subst hx hj
  have hn : n < 1000 := by rcases ha with z | z <;> exact z.2.2
  have hc : (nI k).toNatClampNeg = k := nI_clamp (by omega)
  have h0' : mm_R6 i (nI k).toNatClampNeg ≠ 0 := by rw [hc]; exact h0
  have hP : (mm_ar (kmm_hp g I) i 13 (nI k) ∨ mm_ar (kmm_hp g I) i 14 (nI k)) ∧ mm_R (kmm_hp g I) i (nI k).toNatClampNeg ≠ 0 := by
    refine ⟨?_, h0'⟩
    rcases ha with z | z
    · exact Or.inl (kmm_fa_ar z hk)
    · exact Or.inr (kmm_fa_ar z hk)
  refine kw_of (fun _ k => mm_step he rfl rfl hP k) (ls' := ls) (g' := g) (I' := I) ?_
  show kmm_W mi np ls (.ref (mm_R6 i (nI k).toNatClampNeg) :: st) g I F
  rw [hc]; exact K
theorem kw_inc {i j : Nat} {n : Int} {x y k : Int32} (he : mm_code mi pc = some (.iinc j n, np, .int k, [i])) (hl : mm_lget ls i = .int x) (hp : mm_pre ls i = false) (hi : i < ls.length) (hy : x + k = y) (K : kmm_W mi np (mm_lset ls i (.int y)) st g I F) : kmm_W mi pc ls st g I F := by
  subst hy
  have hs : ∀ e : Instr × Nat × Value × List Nat, e = (.iinc j n, np, .int k, [i]) → mm_stp e ls st (kmm_hp g I) = some (np, mm_lset ls i (.int (x + k)), st, kmm_hp g I, i < ls.length) := by
    intro e he
    subst he
    simp only [mm_stp, mm_inc, hl, hp, cond_false]
  exact kw_of (fun _ k => mm_step he rfl (hs _ rfl) hi k) K
theorem kw_tab {d : Nat} {ts : List Nat} {a b c : Int} {o : Array Int} {v : Value} {x : Int32} (he : mm_code mi pc = some (.tableswitch a b c o, np, v, d :: ts)) (t : Nat) (ht : mm_tsw d ts x = t) (k : kmm_W mi t ls st g I F) : kmm_W mi pc ls (.int x :: st) g I F :=
  kw_of (fun _ k => mm_tab he t ht k) k
theorem kw_lok {d : Nat} {ts : List Nat} {a : Int} {o : Array (Int × Int)} {v : Value} {x : Int32} (he : mm_code mi pc = some (.lookupswitch a o, np, v, d :: ts)) (t : Nat) (ht : mm_lsw d ts x = t) (k : kmm_W mi t ls st g I F) : kmm_W mi pc ls (.int x :: st) g I F :=
  kw_of (fun _ k => mm_lok he t ht k) k
/-- the list of places said anew -/
theorem kw_ls {ls' : List Value} (h : ls = ls') (k : kmm_W mi pc ls' st g I F) : kmm_W mi pc ls st g I F := by subst h; exact k
end SX3
theorem kmm_fac {i k n : Nat} (h : (Nat.ble 61 i || Nat.ble 1000 n || !(Nat.beq (mm_K6 i).1 k) || !(Nat.beq (mm_K6 i).2 n)) = false) : kmm_fa i k n := by
  simp only [Bool.or_eq_false_iff, Bool.not_eq_false', Nat.beq_eq_true_eq] at h
  obtain ⟨⟨⟨h1, h2⟩, h3⟩, h4⟩ := h
  refine ⟨?_, ?_, ?_⟩
  · exact Nat.lt_of_not_le (fun z => by rw [Nat.ble_eq_true_of_le z] at h1; cases h1)
  · exact Prod.ext (Nat.eq_of_beq_eq_true h3) (Nat.eq_of_beq_eq_true h4)
  · exact Nat.lt_of_not_le (fun z => by rw [Nat.ble_eq_true_of_le z] at h2; cases h2)
theorem kmm_foc {i k : Nat} (h : (Nat.ble 61 i || !(Nat.beq (mm_K6 i).1 k)) = false) : kmm_fo i k := by
  simp only [Bool.or_eq_false_iff, Bool.not_eq_false'] at h
  obtain ⟨h1, h3⟩ := h
  refine ⟨?_, Nat.eq_of_beq_eq_true h3⟩
  exact Nat.lt_of_not_le (fun z => by rw [Nat.ble_eq_true_of_le z] at h1; cases h1)
/-- tables and boards -/
theorem kmm_T_o {t : Nat} (h : mm_T t) : kmm_fo t 2 := by rcases h with rfl | rfl | rfl | rfl | rfl <;> exact kmm_foc rfl
theorem kmm_T_r {t k : Nat} (h : mm_T t) (hk : k < 3) : mm_R6 t k = t + 1 + k := by
  rcases h with rfl | rfl | rfl | rfl | rfl <;> (match k, hk with | 0, _ => rfl | 1, _ => rfl | 2, _ => rfl)
theorem kmm_T_a {t k : Nat} (h : mm_T t) (hk : k < 3) : kmm_fa (t + 1 + k) 10 10 := by
  rcases h with rfl | rfl | rfl | rfl | rfl <;> (match k, hk with | 0, _ => exact kmm_fac rfl | 1, _ => exact kmm_fac rfl | 2, _ => exact kmm_fac rfl)
theorem kmm_T_6 {f : Nat} (h : f < 4) : mm_R6 6 f = 45 + 4 * f := by match f, h with | 0, _ => rfl | 1, _ => rfl | 2, _ => rfl | 3, _ => rfl
theorem kmm_B_o {t : Nat} (h : mm_B t) : kmm_fo t 0 := by rcases h with rfl | rfl | rfl | rfl | rfl | rfl | rfl <;> exact kmm_foc rfl
theorem kmm_B_r {t k : Nat} (h : mm_B t) (hk : k < 4) : mm_R6 t k = t + 1 + k := by
  rcases h with rfl | rfl | rfl | rfl | rfl | rfl | rfl <;> (match k, hk with | 0, _ => rfl | 1, _ => rfl | 2, _ => rfl | 3, _ => rfl)
section SX4
variable {mi pc np : Nat} {ls st : List Value} {g : mm_Gg} {I : mm_Is} {F : mm_Ph} {v : Value} {a : List Nat}
theorem kw_iadd {x y : Int32} (he : mm_code mi pc = some (.iadd, np, v, a)) (K : kmm_W mi np ls (.int (x + y) :: st) g I F) : kmm_W mi pc ls (.int y :: .int x :: st) g I F := kw_st he rfl rfl trivial K
theorem kw_isub {x y : Int32} (he : mm_code mi pc = some (.isub, np, v, a)) (K : kmm_W mi np ls (.int (x - y) :: st) g I F) : kmm_W mi pc ls (.int y :: .int x :: st) g I F := kw_st he rfl rfl trivial K
theorem kw_imul {x y : Int32} (he : mm_code mi pc = some (.imul, np, v, a)) (K : kmm_W mi np ls (.int (x * y) :: st) g I F) : kmm_W mi pc ls (.int y :: .int x :: st) g I F := kw_st he rfl rfl trivial K
theorem kw_iand {x y : Int32} (he : mm_code mi pc = some (.iand, np, v, a)) (K : kmm_W mi np ls (.int (x &&& y) :: st) g I F) : kmm_W mi pc ls (.int y :: .int x :: st) g I F := kw_st he rfl rfl trivial K
theorem kw_ior {x y : Int32} (he : mm_code mi pc = some (.ior, np, v, a)) (K : kmm_W mi np ls (.int (x ||| y) :: st) g I F) : kmm_W mi pc ls (.int y :: .int x :: st) g I F := kw_st he rfl rfl trivial K
theorem kw_ixor {x y : Int32} (he : mm_code mi pc = some (.ixor, np, v, a)) (K : kmm_W mi np ls (.int (x ^^^ y) :: st) g I F) : kmm_W mi pc ls (.int y :: .int x :: st) g I F := kw_st he rfl rfl trivial K
theorem kw_ladd {x y : Int64} (he : mm_code mi pc = some (.ladd, np, v, a)) (K : kmm_W mi np ls (.long (x + y) :: st) g I F) : kmm_W mi pc ls (.long y :: .long x :: st) g I F := kw_st he rfl rfl trivial K
theorem kw_lmul {x y : Int64} (he : mm_code mi pc = some (.lmul, np, v, a)) (K : kmm_W mi np ls (.long (x * y) :: st) g I F) : kmm_W mi pc ls (.long y :: .long x :: st) g I F := kw_st he rfl rfl trivial K
theorem kw_ishl {x y : Int32} (he : mm_code mi pc = some (.ishl, np, v, a)) (K : kmm_W mi np ls (.int (x <<< (y &&& 31)) :: st) g I F) : kmm_W mi pc ls (.int y :: .int x :: st) g I F := kw_st he rfl rfl trivial K
theorem kw_idiv {x y : Int32} (he : mm_code mi pc = some (.idiv, np, v, a)) (hy : ¬ y = 0) (K : kmm_W mi np ls (.int (x / y) :: st) g I F) : kmm_W mi pc ls (.int y :: .int x :: st) g I F := kw_st he rfl rfl hy K
theorem kw_irem {x y : Int32} (he : mm_code mi pc = some (.irem, np, v, a)) (hy : ¬ y = 0) (K : kmm_W mi np ls (.int (x - x / y * y) :: st) g I F) : kmm_W mi pc ls (.int y :: .int x :: st) g I F := kw_st he rfl rfl hy K
theorem kw_k10 {g' : mm_Gg} {I' : mm_Is} {ck mj L : Nat} {aux : List Nat} {e : mm_En} {a1 : Value} (hc : mm_Me mj L [a1] (kmm_hp g I) ((0, none), kmm_hp g' I')) (he : mm_code mi pc = some e) (hi : mm_isc e ck mj 1 L aux) (hcat : (st.map Value.category).sum ≤ 8) (hr : mm_recv ck (aux.headD 99) [a1] (kmm_hp g I)) (hL : (mm_spread [a1]).length ≤ L) (k : kmm_W mi e.2.1 ls (st) g' I' F) : kmm_W mi pc ls (a1 :: st) g I F := kw_cl hc he hi rfl (by show 1 ≤ st.length + 1; omega) hcat hr hL k
theorem kw_k11 {g' : mm_Gg} {I' : mm_Is} {ck mj L : Nat} {aux : List Nat} {e : mm_En} {a1 w : Value} (hc : mm_Me mj L [a1] (kmm_hp g I) ((0, some w), kmm_hp g' I')) (he : mm_code mi pc = some e) (hi : mm_isc e ck mj 1 L aux) (hcat : (st.map Value.category).sum ≤ 8) (hr : mm_recv ck (aux.headD 99) [a1] (kmm_hp g I)) (hL : (mm_spread [a1]).length ≤ L) (k : kmm_W mi e.2.1 ls (w :: st) g' I' F) : kmm_W mi pc ls (a1 :: st) g I F := kw_cl hc he hi rfl (by show 1 ≤ st.length + 1; omega) hcat hr hL k
theorem kw_k20 {g' : mm_Gg} {I' : mm_Is} {ck mj L : Nat} {aux : List Nat} {e : mm_En} {a1 a2 : Value} (hc : mm_Me mj L [a1, a2] (kmm_hp g I) ((0, none), kmm_hp g' I')) (he : mm_code mi pc = some e) (hi : mm_isc e ck mj 2 L aux) (hcat : (st.map Value.category).sum ≤ 8) (hr : mm_recv ck (aux.headD 99) [a1, a2] (kmm_hp g I)) (hL : (mm_spread [a1, a2]).length ≤ L) (k : kmm_W mi e.2.1 ls (st) g' I' F) : kmm_W mi pc ls (a2 :: a1 :: st) g I F := kw_cl hc he hi rfl (by show 2 ≤ st.length + 2; omega) hcat hr hL k
theorem kw_k21 {g' : mm_Gg} {I' : mm_Is} {ck mj L : Nat} {aux : List Nat} {e : mm_En} {a1 a2 w : Value} (hc : mm_Me mj L [a1, a2] (kmm_hp g I) ((0, some w), kmm_hp g' I')) (he : mm_code mi pc = some e) (hi : mm_isc e ck mj 2 L aux) (hcat : (st.map Value.category).sum ≤ 8) (hr : mm_recv ck (aux.headD 99) [a1, a2] (kmm_hp g I)) (hL : (mm_spread [a1, a2]).length ≤ L) (k : kmm_W mi e.2.1 ls (w :: st) g' I' F) : kmm_W mi pc ls (a2 :: a1 :: st) g I F := kw_cl hc he hi rfl (by show 2 ≤ st.length + 2; omega) hcat hr hL k
theorem kw_k30 {g' : mm_Gg} {I' : mm_Is} {ck mj L : Nat} {aux : List Nat} {e : mm_En} {a1 a2 a3 : Value} (hc : mm_Me mj L [a1, a2, a3] (kmm_hp g I) ((0, none), kmm_hp g' I')) (he : mm_code mi pc = some e) (hi : mm_isc e ck mj 3 L aux) (hcat : (st.map Value.category).sum ≤ 8) (hr : mm_recv ck (aux.headD 99) [a1, a2, a3] (kmm_hp g I)) (hL : (mm_spread [a1, a2, a3]).length ≤ L) (k : kmm_W mi e.2.1 ls (st) g' I' F) : kmm_W mi pc ls (a3 :: a2 :: a1 :: st) g I F := kw_cl hc he hi rfl (by show 3 ≤ st.length + 3; omega) hcat hr hL k
theorem kw_k31 {g' : mm_Gg} {I' : mm_Is} {ck mj L : Nat} {aux : List Nat} {e : mm_En} {a1 a2 a3 w : Value} (hc : mm_Me mj L [a1, a2, a3] (kmm_hp g I) ((0, some w), kmm_hp g' I')) (he : mm_code mi pc = some e) (hi : mm_isc e ck mj 3 L aux) (hcat : (st.map Value.category).sum ≤ 8) (hr : mm_recv ck (aux.headD 99) [a1, a2, a3] (kmm_hp g I)) (hL : (mm_spread [a1, a2, a3]).length ≤ L) (k : kmm_W mi e.2.1 ls (w :: st) g' I' F) : kmm_W mi pc ls (a3 :: a2 :: a1 :: st) g I F := kw_cl hc he hi rfl (by show 3 ≤ st.length + 3; omega) hcat hr hL k
theorem kw_k40 {g' : mm_Gg} {I' : mm_Is} {ck mj L : Nat} {aux : List Nat} {e : mm_En} {a1 a2 a3 a4 : Value} (hc : mm_Me mj L [a1, a2, a3, a4] (kmm_hp g I) ((0, none), kmm_hp g' I')) (he : mm_code mi pc = some e) (hi : mm_isc e ck mj 4 L aux) (hcat : (st.map Value.category).sum ≤ 8) (hr : mm_recv ck (aux.headD 99) [a1, a2, a3, a4] (kmm_hp g I)) (hL : (mm_spread [a1, a2, a3, a4]).length ≤ L) (k : kmm_W mi e.2.1 ls (st) g' I' F) : kmm_W mi pc ls (a4 :: a3 :: a2 :: a1 :: st) g I F := kw_cl hc he hi rfl (by show 4 ≤ st.length + 4; omega) hcat hr hL k
theorem kw_k41 {g' : mm_Gg} {I' : mm_Is} {ck mj L : Nat} {aux : List Nat} {e : mm_En} {a1 a2 a3 a4 w : Value} (hc : mm_Me mj L [a1, a2, a3, a4] (kmm_hp g I) ((0, some w), kmm_hp g' I')) (he : mm_code mi pc = some e) (hi : mm_isc e ck mj 4 L aux) (hcat : (st.map Value.category).sum ≤ 8) (hr : mm_recv ck (aux.headD 99) [a1, a2, a3, a4] (kmm_hp g I)) (hL : (mm_spread [a1, a2, a3, a4]).length ≤ L) (k : kmm_W mi e.2.1 ls (w :: st) g' I' F) : kmm_W mi pc ls (a4 :: a3 :: a2 :: a1 :: st) g I F := kw_cl hc he hi rfl (by show 4 ≤ st.length + 4; omega) hcat hr hL k
theorem kw_k50 {g' : mm_Gg} {I' : mm_Is} {ck mj L : Nat} {aux : List Nat} {e : mm_En} {a1 a2 a3 a4 a5 : Value} (hc : mm_Me mj L [a1, a2, a3, a4, a5] (kmm_hp g I) ((0, none), kmm_hp g' I')) (he : mm_code mi pc = some e) (hi : mm_isc e ck mj 5 L aux) (hcat : (st.map Value.category).sum ≤ 8) (hr : mm_recv ck (aux.headD 99) [a1, a2, a3, a4, a5] (kmm_hp g I)) (hL : (mm_spread [a1, a2, a3, a4, a5]).length ≤ L) (k : kmm_W mi e.2.1 ls (st) g' I' F) : kmm_W mi pc ls (a5 :: a4 :: a3 :: a2 :: a1 :: st) g I F := kw_cl hc he hi rfl (by show 5 ≤ st.length + 5; omega) hcat hr hL k
theorem kw_k51 {g' : mm_Gg} {I' : mm_Is} {ck mj L : Nat} {aux : List Nat} {e : mm_En} {a1 a2 a3 a4 a5 w : Value} (hc : mm_Me mj L [a1, a2, a3, a4, a5] (kmm_hp g I) ((0, some w), kmm_hp g' I')) (he : mm_code mi pc = some e) (hi : mm_isc e ck mj 5 L aux) (hcat : (st.map Value.category).sum ≤ 8) (hr : mm_recv ck (aux.headD 99) [a1, a2, a3, a4, a5] (kmm_hp g I)) (hL : (mm_spread [a1, a2, a3, a4, a5]).length ≤ L) (k : kmm_W mi e.2.1 ls (w :: st) g' I' F) : kmm_W mi pc ls (a5 :: a4 :: a3 :: a2 :: a1 :: st) g I F := kw_cl hc he hi rfl (by show 5 ≤ st.length + 5; omega) hcat hr hL k
theorem kw_k60 {g' : mm_Gg} {I' : mm_Is} {ck mj L : Nat} {aux : List Nat} {e : mm_En} {a1 a2 a3 a4 a5 a6 : Value} (hc : mm_Me mj L [a1, a2, a3, a4, a5, a6] (kmm_hp g I) ((0, none), kmm_hp g' I')) (he : mm_code mi pc = some e) (hi : mm_isc e ck mj 6 L aux) (hcat : (st.map Value.category).sum ≤ 8) (hr : mm_recv ck (aux.headD 99) [a1, a2, a3, a4, a5, a6] (kmm_hp g I)) (hL : (mm_spread [a1, a2, a3, a4, a5, a6]).length ≤ L) (k : kmm_W mi e.2.1 ls (st) g' I' F) : kmm_W mi pc ls (a6 :: a5 :: a4 :: a3 :: a2 :: a1 :: st) g I F := kw_cl hc he hi rfl (by show 6 ≤ st.length + 6; omega) hcat hr hL k
theorem kw_k61 {g' : mm_Gg} {I' : mm_Is} {ck mj L : Nat} {aux : List Nat} {e : mm_En} {a1 a2 a3 a4 a5 a6 w : Value} (hc : mm_Me mj L [a1, a2, a3, a4, a5, a6] (kmm_hp g I) ((0, some w), kmm_hp g' I')) (he : mm_code mi pc = some e) (hi : mm_isc e ck mj 6 L aux) (hcat : (st.map Value.category).sum ≤ 8) (hr : mm_recv ck (aux.headD 99) [a1, a2, a3, a4, a5, a6] (kmm_hp g I)) (hL : (mm_spread [a1, a2, a3, a4, a5, a6]).length ≤ L) (k : kmm_W mi e.2.1 ls (w :: st) g' I' F) : kmm_W mi pc ls (a6 :: a5 :: a4 :: a3 :: a2 :: a1 :: st) g I F := kw_cl hc he hi rfl (by show 6 ≤ st.length + 6; omega) hcat hr hL k
end SX4

section SM
variable {g : mm_Gg} {I : mm_Is} {x y z b s L : Int32} {l d k t f : Nat} {σ : sp_St}
theorem kc_bitCount : kmm_M 155 1 [.int x] g I (some (.int (sp_pop x))) I := by
  refine kw_M ?_
  show kmm_W 155 0 [.int x] [] _ _ _
  generalize hF : mm_EX _ _ _ = F
  refine kw_st rfl rfl rfl trivial ?_
  refine kw_st rfl rfl rfl trivial ?_
  refine kw_st rfl rfl rfl trivial ?_
  refine kw_st rfl rfl rfl trivial ?_
  refine kw_st rfl rfl rfl trivial ?_
  refine kw_iand rfl ?_
  refine kw_isub rfl ?_
  refine kw_st rfl rfl rfl (Nat.le_of_ble_eq_true rfl) ?_
  refine kw_st rfl rfl rfl trivial ?_
  refine kw_st rfl rfl rfl trivial ?_
  refine kw_iand rfl ?_
  refine kw_st rfl rfl rfl trivial ?_
  refine kw_st rfl rfl rfl trivial ?_
  refine kw_st rfl rfl rfl trivial ?_
  refine kw_st rfl rfl rfl trivial ?_
  refine kw_iand rfl ?_
  refine kw_iadd rfl ?_
  refine kw_st rfl rfl rfl (Nat.le_of_ble_eq_true rfl) ?_
  refine kw_st rfl rfl rfl trivial ?_
  refine kw_st rfl rfl rfl trivial ?_
  refine kw_st rfl rfl rfl trivial ?_
  refine kw_st rfl rfl rfl trivial ?_
  refine kw_iadd rfl ?_
  refine kw_st rfl rfl rfl trivial ?_
  refine kw_iand rfl ?_
  refine kw_st rfl rfl rfl (Nat.le_of_ble_eq_true rfl) ?_
  refine kw_st rfl rfl rfl trivial ?_
  refine kw_st rfl rfl rfl trivial ?_
  refine kw_st rfl rfl rfl trivial ?_
  refine kw_st rfl rfl rfl trivial ?_
  refine kw_iadd rfl ?_
  refine kw_st rfl rfl rfl (Nat.le_of_ble_eq_true rfl) ?_
  refine kw_st rfl rfl rfl trivial ?_
  refine kw_st rfl rfl rfl trivial ?_
  refine kw_st rfl rfl rfl trivial ?_
  refine kw_st rfl rfl rfl trivial ?_
  refine kw_iadd rfl ?_
  refine kw_st rfl rfl rfl (Nat.le_of_ble_eq_true rfl) ?_
  refine kw_st rfl rfl rfl trivial ?_
  refine kw_st rfl rfl rfl trivial ?_
  refine kw_iand rfl ?_
  refine kw_reti rfl ?_
  exact hF ▸ mm_EX_i (rfl)
theorem kc_lampsOf (hd : d < 10) (hk : k < 3) : kmm_M 13 2 [.int (nI d), .int (nI k)] g I (some (.int (mm_SHP (3 * d + k)))) I := by
  refine kw_M ?_
  show kmm_W 13 0 [.int (nI d), .int (nI k)] [] _ _ _
  generalize hF : mm_EX _ _ _ = F
  refine kw_st rfl rfl rfl trivial ?_
  refine kw_st rfl rfl rfl trivial ?_
  refine kw_st rfl rfl rfl trivial ?_
  refine kw_imul rfl ?_
  refine kw_st rfl rfl rfl trivial ?_
  refine kw_iadd rfl ?_
  refine kw_sh (3 * d + k) rfl (by first | rfl | assumption | (simp only [← nI_add, ← nI_mul]; rfl)) (by first | decide | omega) ?_
  refine kw_reti rfl ?_
  exact hF ▸ mm_EX_i (rfl)
theorem kc_isApart (hT : mm_T t) (hd : d < 10) (hI : ∀ e, e < d → I (t + 1 + 0) e = sp_row b s e ∧ (¬ sp_row b s e = -1 → I (t + 1 + 1) e = sp_sh b e (sp_row b s e))) : kmm_M 12 5 [.ref t, .int L, .int (nI d), .int s] g I (some (.int (mm_bi (sp_ap (sp_row b s) b s L d)))) I := by
  refine kw_M ?_
  show kmm_W 12 0 [.ref t, .int L, .int (nI d), .int s, .null] [] _ _ _
  generalize hF : mm_EX _ _ _ = F
  refine kw_st rfl rfl rfl trivial ?_
  refine kw_st rfl rfl rfl (Nat.le_of_ble_eq_true rfl) ?_
  have K : ∀ j, j ≤ d → sp_ap (sp_row b s) b s L j → kmm_W 12 3 [.ref t, .int L, .int (nI d), .int s, .int (nI j)] [] g I F := by
    refine mm_dn d ?_ ?_
    · intro h
      refine kw_st rfl rfl rfl trivial ?_
      refine kw_st rfl rfl rfl trivial ?_
      refine kw_n_ge (a := d) (b := d) rfl (by first | decide | omega) (by first | decide | omega) (by first | rfl | assumption | (simp only [← nI_add, ← nI_mul]; rfl)) (by first | rfl | assumption | (simp only [← nI_add, ← nI_mul]; rfl)) (fun _ => ?_) (fun c => by exfalso; omega)
      refine kw_st rfl rfl rfl trivial ?_
      refine kw_retz rfl (by first | exact Or.inl rfl | exact Or.inr rfl | exact mm_bi_01 _ | assumption) ?_
      exact hF ▸ mm_EX_i ((mm_bi_t h).symm)
    · intro j hj ih h
      refine kw_st rfl rfl rfl trivial ?_
      refine kw_st rfl rfl rfl trivial ?_
      refine kw_n_ge (a := j) (b := d) rfl (by first | decide | omega) (by first | decide | omega) (by first | rfl | assumption | (simp only [← nI_add, ← nI_mul]; rfl)) (by first | rfl | assumption | (simp only [← nI_add, ← nI_mul]; rfl)) (fun c => by exfalso; omega) (fun _ => ?_)
      refine kw_st rfl rfl rfl trivial ?_
      refine kw_gr (j := (t + 1 + 0)) rfl (kmm_T_o hT) (kmm_T_r hT (by decide)) mm_T_0 ?_
      refine kw_st rfl rfl rfl trivial ?_
      refine kw_ia (j) rfl (kmm_T_a hT (by decide)) (by first | rfl | assumption | (simp only [← nI_add, ← nI_mul]; rfl)) (by first | decide | omega) ?_
      rw [(hI j hj).1]
      refine kw_st rfl rfl rfl trivial ?_
      refine kw_v_eq rfl (fun c1 => ?_) (fun c1 => ?_)
      · skip
        refine kw_inc rfl rfl rfl (Nat.le_of_ble_eq_true rfl) (nI_1 _) ?_
        refine kw_st rfl rfl rfl trivial ?_
        refine ih (fun e he hr => ?_)
        rcases Nat.lt_succ_iff_lt_or_eq.1 he with h1 | rfl
        · exact h e h1 hr
        · exact absurd c1 hr
      · skip
        refine kw_st rfl rfl rfl trivial ?_
        refine kw_st rfl rfl rfl trivial ?_
        refine kw_gr (j := (t + 1 + 1)) rfl (kmm_T_o hT) (kmm_T_r hT (by decide)) mm_T_0 ?_
        refine kw_st rfl rfl rfl trivial ?_
        refine kw_ia (j) rfl (kmm_T_a hT (by decide)) (by first | rfl | assumption | (simp only [← nI_add, ← nI_mul]; rfl)) (by first | decide | omega) ?_
        refine kw_ixor rfl ?_
        refine kw_k11 (kc_bitCount) rfl ⟨rfl, by decide, by decide, by decide, Or.inr (Or.inl ⟨_, rfl⟩)⟩ (Nat.le_of_ble_eq_true rfl) trivial (Nat.le_of_ble_eq_true rfl) ?_  -- calls 155 cJ6_bitCount_0f7a4
        rw [(hI j hj).2 c1]
        refine kw_st rfl rfl rfl trivial ?_
        refine kw_v_ge rfl (fun c2 => ?_) (fun c2 => ?_)
        · skip
          refine kw_inc rfl rfl rfl (Nat.le_of_ble_eq_true rfl) (nI_1 _) ?_
          refine kw_st rfl rfl rfl trivial ?_
          refine ih (fun e he hr => ?_)
          rcases Nat.lt_succ_iff_lt_or_eq.1 he with h1 | rfl
          · exact h e h1 hr
          · exact Int32.not_lt.2 c2
        · skip
          refine kw_st rfl rfl rfl trivial ?_
          refine kw_retz rfl (by first | exact Or.inl rfl | exact Or.inr rfl | exact mm_bi_01 _ | assumption) ?_
          exact hF ▸ mm_EX_i ((mm_bi_f (fun z => z j hj c1 (Int32.not_le.1 c2))).symm)
  exact K 0 (Nat.zero_le _) (fun e he => absurd he (Nat.not_lt_zero _))
theorem kc_chooseShape (hT : mm_T t) (hd : d < 10) (hI : ∀ e, e < d → sp_te I t b s e) : ∃ I', kmm_M 11 8 [.ref t, .int (nI d), .int b, .int s] g I none I' ∧ (sp_te I' t b s d ∧ sp_ch t d I I') := by
  refine kw_MX ?_
  show kmm_W 11 0 [.ref t, .int (nI d), .int b, .int s, .null, .null, .null, .null] [] _ _ _
  generalize hF : mm_EQ _ _ _ = F
  refine kw_st rfl rfl rfl trivial ?_
  refine kw_gr (j := (t + 1 + 0)) rfl (kmm_T_o hT) (kmm_T_r hT (by decide)) mm_T_0 ?_
  refine kw_st rfl rfl rfl trivial ?_
  refine kw_st rfl rfl rfl trivial ?_
  refine kw_is (d) rfl (kmm_T_a hT (by decide)) (by first | rfl | assumption | (simp only [← nI_add, ← nI_mul]; rfl)) (by first | decide | omega) ?_
  refine kw_st rfl rfl rfl trivial ?_
  refine kw_gr (j := (t + 1 + 1)) rfl (kmm_T_o hT) (kmm_T_r hT (by decide)) mm_T_0 ?_
  refine kw_st rfl rfl rfl trivial ?_
  refine kw_st rfl rfl rfl trivial ?_
  refine kw_is (d) rfl (kmm_T_a hT (by decide)) (by first | rfl | assumption | (simp only [← nI_add, ← nI_mul]; rfl)) (by first | decide | omega) ?_
  refine kw_st rfl rfl rfl trivial ?_
  refine kw_gr (j := (t + 1 + 2)) rfl (kmm_T_o hT) (kmm_T_r hT (by decide)) mm_T_0 ?_
  refine kw_st rfl rfl rfl trivial ?_
  refine kw_st rfl rfl rfl trivial ?_
  refine kw_is (d) rfl (kmm_T_a hT (by decide)) (by first | rfl | assumption | (simp only [← nI_add, ← nI_mul]; rfl)) (by first | decide | omega) ?_
  refine kw_st rfl rfl rfl trivial ?_
  refine kw_st rfl rfl rfl (Nat.le_of_ble_eq_true rfl) ?_
  have K : ∀ k, k ≤ 3 → ∀ I1 v5 v6 v7, (I1 (t + 1 + 0) d = sp_pk (sp_row b s) b s d k ∧ (¬ sp_pk (sp_row b s) b s d k = -1 → I1 (t + 1 + 1) d = sp_sh b d (sp_pk (sp_row b s) b s d k) ∧ I1 (t + 1 + 2) d = sp_mi b d (sp_pk (sp_row b s) b s d k)) ∧ sp_ch t d I I1) → kmm_W 11 24 [.ref t, .int (nI d), .int b, .int s, .int (nI k), v5, v6, v7] [] g I1 F := by
    refine mm_dn 3 ?_ ?_
    · intro I1 v5 v6 v7 h
      rw [← sp_row_eq hd] at h
      refine kw_st rfl rfl rfl trivial ?_
      refine kw_st rfl rfl rfl trivial ?_
      refine kw_n_ge (a := 3) (b := 3) rfl (by first | decide | omega) (by first | decide | omega) (by first | rfl | assumption | (simp only [← nI_add, ← nI_mul]; rfl)) (by first | rfl | assumption | (simp only [← nI_add, ← nI_mul]; rfl)) (fun _ => ?_) (fun c => by exfalso; omega)
      refine kw_retv rfl ?_
      exact hF ▸ ⟨rfl, rfl, ⟨⟨h.1, h.2.1⟩, h.2.2⟩⟩
    · intro k hk ih I1 v5 v6 v7 h
      have N : ∀ w w5 w6, sp_pk (sp_row b s) b s d (k + 1) = sp_pk (sp_row b s) b s d k → kmm_W 11 123 [.ref t, .int (nI d), .int b, .int s, .int (nI k), .int w5, .int w6, .int w] [] g I1 F := by
        intro w w5 w6 hw
        refine kw_inc rfl rfl rfl (Nat.le_of_ble_eq_true rfl) (nI_1 _) ?_
        refine kw_st rfl rfl rfl trivial ?_
        exact ih I1 (.int w5) (.int w6) (.int w) (by rw [hw]; exact h)
      have Y : ∀ w, (sp_pk (sp_row b s) b s d k = -1 ∨ sp_mi b d (nI k) < sp_mi b d (sp_pk (sp_row b s) b s d k)) → kmm_W 11 80 [.ref t, .int (nI d), .int b, .int s, .int (nI k), .int (mm_SHP (3 * d + k)), .int (sp_pop (mm_SHP (3 * d + k) &&& b)), .int w] [] g I1 F := by
        intro w hw
        refine kw_st rfl rfl rfl trivial ?_
        refine kw_st rfl rfl rfl trivial ?_
        refine kw_st rfl rfl rfl trivial ?_
        refine kw_st rfl rfl rfl trivial ?_
        refine kw_ixor rfl ?_
        refine kw_iand rfl ?_
        refine kw_st rfl rfl rfl trivial ?_
        refine kw_st rfl rfl rfl trivial ?_
        refine kw_k41 (kc_isApart hT hd (fun e he => by rw [h.2.2.2 _ _ (show ¬ e = d by omega), h.2.2.2 _ _ (show ¬ e = d by omega)]; exact ⟨(hI e he).1, fun z => ((hI e he).2 z).1⟩)) rfl ⟨rfl, by decide, by decide, by decide, Or.inl ⟨_, rfl⟩⟩ (Nat.le_of_ble_eq_true rfl) (kmm_T_o hT) (Nat.le_of_ble_eq_true rfl) ?_  -- calls 12 cX2_isApart
        refine kw_b_eq rfl (fun c2 => ?_) (fun c2 => ?_)
        · refine N _ _ _ ?_
          show sp_if _ _ _ = _
          rw [sp_if_f (fun z => c2 (by rw [sp_sh_n hk] at z; exact z.2))]
        · have hp : sp_pk (sp_row b s) b s d (k + 1) = nI k := by
            show sp_if _ _ _ = _
            rw [sp_if_t ⟨hw, by rw [sp_sh_n hk]; exact c2⟩]
          refine kw_st rfl rfl rfl trivial ?_
          refine kw_gr (j := (t + 1 + 0)) rfl (kmm_T_o hT) (kmm_T_r hT (by decide)) mm_T_0 ?_
          refine kw_st rfl rfl rfl trivial ?_
          refine kw_st rfl rfl rfl trivial ?_
          refine kw_is (d) rfl (kmm_T_a hT (by decide)) (by first | rfl | assumption | (simp only [← nI_add, ← nI_mul]; rfl)) (by first | decide | omega) ?_
          refine kw_st rfl rfl rfl trivial ?_
          refine kw_gr (j := (t + 1 + 1)) rfl (kmm_T_o hT) (kmm_T_r hT (by decide)) mm_T_0 ?_
          refine kw_st rfl rfl rfl trivial ?_
          refine kw_st rfl rfl rfl trivial ?_
          refine kw_st rfl rfl rfl trivial ?_
          refine kw_st rfl rfl rfl trivial ?_
          refine kw_ixor rfl ?_
          refine kw_iand rfl ?_
          refine kw_is (d) rfl (kmm_T_a hT (by decide)) (by first | rfl | assumption | (simp only [← nI_add, ← nI_mul]; rfl)) (by first | decide | omega) ?_
          refine kw_st rfl rfl rfl trivial ?_
          refine kw_gr (j := (t + 1 + 2)) rfl (kmm_T_o hT) (kmm_T_r hT (by decide)) mm_T_0 ?_
          refine kw_st rfl rfl rfl trivial ?_
          refine kw_st rfl rfl rfl trivial ?_
          refine kw_is (d) rfl (kmm_T_a hT (by decide)) (by first | rfl | assumption | (simp only [← nI_add, ← nI_mul]; rfl)) (by first | decide | omega) ?_
          refine kw_inc rfl rfl rfl (Nat.le_of_ble_eq_true rfl) (nI_1 _) ?_
          refine kw_st rfl rfl rfl trivial ?_
          refine ih _ _ _ _ ?_
          rw [hp, sp_sh_n hk, sp_mi_n hk]
          refine ⟨?_, fun _ => ⟨?_, ?_⟩, sp_ch_up (sp_ch_up (sp_ch_up h.2.2 (k := 0) (by decide)) (k := 1) (by decide)) (k := 2) (by decide)⟩
          · rw [mm_un (Or.inl (by omega)), mm_un (Or.inl (by omega)), mm_uu]
          · rw [mm_un (Or.inl (by omega)), mm_uu]
          · rw [mm_uu]
      refine kw_st rfl rfl rfl trivial ?_
      refine kw_st rfl rfl rfl trivial ?_
      refine kw_n_ge (a := k) (b := 3) rfl (by first | decide | omega) (by first | decide | omega) (by first | rfl | assumption | (simp only [← nI_add, ← nI_mul]; rfl)) (by first | rfl | assumption | (simp only [← nI_add, ← nI_mul]; rfl)) (fun c => by exfalso; omega) (fun _ => ?_)
      refine kw_st rfl rfl rfl trivial ?_
      refine kw_st rfl rfl rfl trivial ?_
      refine kw_k21 (kc_lampsOf hd hk) rfl ⟨rfl, by decide, by decide, by decide, Or.inr (Or.inl ⟨_, rfl⟩)⟩ (Nat.le_of_ble_eq_true rfl) trivial (Nat.le_of_ble_eq_true rfl) ?_  -- calls 13 cX2_lampsOf
      refine kw_st rfl rfl rfl (Nat.le_of_ble_eq_true rfl) ?_
      refine kw_st rfl rfl rfl trivial ?_
      refine kw_st rfl rfl rfl trivial ?_
      refine kw_iand rfl ?_
      refine kw_k11 (kc_bitCount) rfl ⟨rfl, by decide, by decide, by decide, Or.inr (Or.inl ⟨_, rfl⟩)⟩ (Nat.le_of_ble_eq_true rfl) trivial (Nat.le_of_ble_eq_true rfl) ?_  -- calls 155 cJ6_bitCount_0f7a4
      refine kw_st rfl rfl rfl (Nat.le_of_ble_eq_true rfl) ?_
      refine kw_st rfl rfl rfl trivial ?_
      refine kw_gr (j := (t + 1 + 0)) rfl (kmm_T_o hT) (kmm_T_r hT (by decide)) mm_T_0 ?_
      refine kw_st rfl rfl rfl trivial ?_
      refine kw_ia (d) rfl (kmm_T_a hT (by decide)) (by first | rfl | assumption | (simp only [← nI_add, ← nI_mul]; rfl)) (by first | decide | omega) ?_
      rw [h.1]
      refine kw_st rfl rfl rfl trivial ?_
      refine kw_v_eq rfl (fun c1 => ?_) (fun c1 => ?_)
      · skip
        refine kw_st rfl rfl rfl trivial ?_
        refine kw_st rfl rfl rfl trivial ?_
        refine kw_st rfl rfl rfl (Nat.le_of_ble_eq_true rfl) ?_
        refine kw_st rfl rfl rfl trivial ?_
        refine kw_z_eq rfl (fun z => absurd z ((by decide : ¬ (1 : Int32) = 0))) (fun _ => ?_)
        exact Y 1 (Or.inl c1)
      · skip
        refine kw_st rfl rfl rfl trivial ?_
        refine kw_st rfl rfl rfl trivial ?_
        refine kw_gr (j := (t + 1 + 2)) rfl (kmm_T_o hT) (kmm_T_r hT (by decide)) mm_T_0 ?_
        refine kw_st rfl rfl rfl trivial ?_
        refine kw_ia (d) rfl (kmm_T_a hT (by decide)) (by first | rfl | assumption | (simp only [← nI_add, ← nI_mul]; rfl)) (by first | decide | omega) ?_
        rw [(h.2.1 c1).2]
        refine kw_v_ge rfl (fun c3 => ?_) (fun c3 => ?_)
        · skip
          refine kw_st rfl rfl rfl trivial ?_
          refine kw_st rfl rfl rfl (Nat.le_of_ble_eq_true rfl) ?_
          refine kw_st rfl rfl rfl trivial ?_
          refine kw_z_eq rfl (fun _ => ?_) (fun z => absurd (rfl) z)
          refine N _ _ _ ?_
          show sp_if _ _ _ = _
          rw [sp_if_f (fun z => z.1.elim c1 (fun z1 => absurd c3 (Int32.not_le.2 (by rw [sp_mi_n hk] at z1; exact z1))))]
        · skip
          refine kw_st rfl rfl rfl trivial ?_
          refine kw_st rfl rfl rfl trivial ?_
          refine kw_st rfl rfl rfl (Nat.le_of_ble_eq_true rfl) ?_
          refine kw_st rfl rfl rfl trivial ?_
          refine kw_z_eq rfl (fun z => absurd z ((by decide : ¬ (1 : Int32) = 0))) (fun _ => ?_)
          exact Y 1 (Or.inr (by rw [sp_mi_n hk]; exact Int32.not_le.1 c3))
  refine K 0 (by decide) _ .null .null .null ⟨?_, fun z => absurd rfl z, sp_ch_up (sp_ch_up (sp_ch_up sp_ch_rf (k := 0) (by decide)) (k := 1) (by decide)) (k := 2) (by decide)⟩
  rw [mm_un (Or.inl (by omega)), mm_un (Or.inl (by omega)), mm_uu]
  rfl
theorem kc_choose (hT : mm_T t) : ∃ I', kmm_M 10 4 [.ref t, .int b, .int s] g I none I' ∧ (sp_tt I' t b s ∧ sp_f3 t I I') := by
  refine kw_MX ?_
  show kmm_W 10 0 [.ref t, .int b, .int s, .null] [] _ _ _
  generalize hF : mm_EQ _ _ _ = F
  refine kw_st rfl rfl rfl trivial ?_
  refine kw_st rfl rfl rfl (Nat.le_of_ble_eq_true rfl) ?_
  have K : ∀ d, d ≤ 10 → ∀ I1, ((∀ e, e < d → sp_te I1 t b s e) ∧ sp_f3 t I I1) → kmm_W 10 2 [.ref t, .int b, .int s, .int (nI d)] [] g I1 F := by
    refine mm_dn 10 ?_ ?_
    · intro I1 h
      refine kw_st rfl rfl rfl trivial ?_
      refine kw_st rfl rfl rfl trivial ?_
      refine kw_n_ge (a := 10) (b := 10) rfl (by first | decide | omega) (by first | decide | omega) (by first | rfl | assumption | (simp only [← nI_add, ← nI_mul]; rfl)) (by first | rfl | assumption | (simp only [← nI_add, ← nI_mul]; rfl)) (fun _ => ?_) (fun c => by exfalso; omega)
      refine kw_retv rfl ?_
      exact hF ▸ ⟨rfl, rfl, h⟩
    · intro d hd ih I1 h
      refine kw_st rfl rfl rfl trivial ?_
      refine kw_st rfl rfl rfl trivial ?_
      refine kw_n_ge (a := d) (b := 10) rfl (by first | decide | omega) (by first | decide | omega) (by first | rfl | assumption | (simp only [← nI_add, ← nI_mul]; rfl)) (by first | rfl | assumption | (simp only [← nI_add, ← nI_mul]; rfl)) (fun c => by exfalso; omega) (fun _ => ?_)
      obtain ⟨I2, hM, h1, h2⟩ := kc_chooseShape (g := g) (I := I1) hT hd h.1
      refine kw_st rfl rfl rfl trivial ?_
      refine kw_st rfl rfl rfl trivial ?_
      refine kw_st rfl rfl rfl trivial ?_
      refine kw_st rfl rfl rfl trivial ?_
      refine kw_k40 (hM) rfl ⟨rfl, by decide, by decide, by decide, Or.inl ⟨_, rfl⟩⟩ (Nat.le_of_ble_eq_true rfl) (kmm_T_o hT) (Nat.le_of_ble_eq_true rfl) ?_  -- calls 11 cX2_chooseShape
      refine kw_inc rfl rfl rfl (Nat.le_of_ble_eq_true rfl) (nI_1 _) ?_
      refine kw_st rfl rfl rfl trivial ?_
      refine ih I2 ⟨fun e he => ?_, fun p a1 a2 a3 => ?_⟩
      · rcases Nat.lt_succ_iff_lt_or_eq.1 he with z | rfl
        · exact sp_te_ch h2 (by omega) (h.1 e z)
        · exact h1
      · rw [h2.1 p a1 a2 a3]; exact h.2 p a1 a2 a3
  exact K 0 (by decide) I ⟨fun e he => absurd he (Nat.not_lt_zero _), fun _ _ _ _ => rfl⟩
theorem kc_chooseTable (h : sp_bd I 1 σ) (hf : f < 4) : ∃ I', kmm_M 72 2 [.ref 0, .int (nI f)] g I none I' ∧ (sp_tt I' (45 + 4 * f) (σ (8 + f)) (σ 1) ∧ sp_f3 (45 + 4 * f) I I') := by
  have hT : mm_T (45 + 4 * f) := mm_T_f hf
  obtain ⟨I', hM, hI⟩ := kc_choose (g := g) (I := I) (b := σ (8 + f)) (s := σ 1) hT
  refine ⟨I', ?_, hI⟩
  refine kw_M ?_
  show kmm_W 72 0 [.ref 0, .int (nI f)] [] _ _ _
  generalize hF : mm_EX _ _ _ = F
  refine kw_st rfl rfl rfl trivial ?_
  refine kw_gr (j := 6) rfl (kmm_foc rfl) rfl (by decide) ?_
  refine kw_st rfl rfl rfl trivial ?_
  refine kw_ra (j := 45 + 4 * f) (f) rfl (Or.inl (kmm_fac rfl)) (by first | rfl | assumption | (simp only [← nI_add, ← nI_mul]; rfl)) (by first | decide | omega) (kmm_T_6 (by omega)) (by omega) ?_
  refine kw_st rfl rfl rfl trivial ?_
  refine kw_gr (j := 1) rfl (kmm_foc rfl) rfl (by decide) ?_
  refine kw_gr (j := 3) rfl (kmm_foc rfl) rfl (by decide) ?_
  refine kw_st rfl rfl rfl trivial ?_
  refine kw_ia (f) rfl (kmm_fac (n := 4) rfl) (by first | rfl | assumption | (simp only [← nI_add, ← nI_mul]; rfl)) (by first | decide | omega) ?_
  rw [show I 3 f = σ (8 + f) from h.2.1 f hf]
  refine kw_st rfl rfl rfl trivial ?_
  refine kw_gr (j := 1) rfl (kmm_foc rfl) rfl (by decide) ?_
  refine kw_gr (j := 5) rfl (kmm_foc rfl) rfl (by decide) ?_
  refine kw_st rfl rfl rfl trivial ?_
  refine kw_ia (0) rfl (kmm_fac (n := 2) rfl) (by first | rfl | assumption | (simp only [← nI_add, ← nI_mul]; rfl)) (by first | decide | omega) ?_
  rw [show I 5 0 = σ 1 from h.2.2.2.1 0 (by decide)]
  refine kw_k30 (hM) rfl ⟨rfl, by decide, by decide, by decide, Or.inl ⟨_, rfl⟩⟩ (Nat.le_of_ble_eq_true rfl) (kmm_T_o hT) (Nat.le_of_ble_eq_true rfl) ?_  -- calls 10 cX2_choose
  refine kw_retv rfl ?_
  exact hF ▸ ⟨rfl, rfl, rfl⟩
theorem kc_chooseAll (h : sp_bd I 1 σ) : ∃ I', kmm_M 73 2 [.ref 0] g I none I' ∧ (sp_D I' σ ∧ sp_ft I I') := by
  refine kw_MX ?_
  show kmm_W 73 0 [.ref 0, .null] [] _ _ _
  generalize hF : mm_EQ _ _ _ = F
  refine kw_st rfl rfl rfl trivial ?_
  refine kw_st rfl rfl rfl (Nat.le_of_ble_eq_true rfl) ?_
  have K : ∀ f, f ≤ 4 → ∀ I1, (sp_bd I1 1 σ ∧ (∀ e, e < f → sp_tt I1 (45 + 4 * e) (σ (8 + e)) (σ 1)) ∧ sp_ft I I1) → kmm_W 73 2 [.ref 0, .int (nI f)] [] g I1 F := by
    refine mm_dn 4 ?_ ?_
    · intro I1 hI
      refine kw_st rfl rfl rfl trivial ?_
      refine kw_st rfl rfl rfl trivial ?_
      refine kw_n_ge (a := 4) (b := 4) rfl (by first | decide | omega) (by first | decide | omega) (by first | rfl | assumption | (simp only [← nI_add, ← nI_mul]; rfl)) (by first | rfl | assumption | (simp only [← nI_add, ← nI_mul]; rfl)) (fun _ => ?_) (fun c => by exfalso; omega)
      refine kw_retv rfl ?_
      exact hF ▸ ⟨rfl, rfl, ⟨⟨hI.1, hI.2.1⟩, hI.2.2⟩⟩
    · intro f hf ih I1 hI
      obtain ⟨I2, hM, h2, h3⟩ := kc_chooseTable (g := g) hI.1 hf
      refine kw_st rfl rfl rfl trivial ?_
      refine kw_st rfl rfl rfl trivial ?_
      refine kw_n_ge (a := f) (b := 4) rfl (by first | decide | omega) (by first | decide | omega) (by first | rfl | assumption | (simp only [← nI_add, ← nI_mul]; rfl)) (by first | rfl | assumption | (simp only [← nI_add, ← nI_mul]; rfl)) (fun c => by exfalso; omega) (fun _ => ?_)
      refine kw_st rfl rfl rfl trivial ?_
      refine kw_st rfl rfl rfl trivial ?_
      refine kw_k20 (hM) rfl ⟨rfl, by decide, by decide, by decide, Or.inl ⟨_, rfl⟩⟩ (Nat.le_of_ble_eq_true rfl) (kmm_foc rfl) (Nat.le_of_ble_eq_true rfl) ?_  -- calls 72 cX4_chooseTable
      refine kw_inc rfl rfl rfl (Nat.le_of_ble_eq_true rfl) (nI_1 _) ?_
      refine kw_st rfl rfl rfl trivial ?_
      refine ih I2 ⟨sp_bd_c (fun p hp => ?_) hI.1, fun e he => ?_, fun p hp => ?_⟩
      · exact sp_ft_3 hf h3 p (by unfold sp_in5 at hp; omega)
      · by_cases c : e = f
        · subst c; exact h2
        · intro d hd
          have := hI.2.1 e (by omega) d hd
          unfold sp_te at this ⊢
          rw [h3 (45 + 4 * e + 1 + 0) (by omega) (by omega) (by omega), h3 (45 + 4 * e + 1 + 1) (by omega) (by omega) (by omega), h3 (45 + 4 * e + 1 + 2) (by omega) (by omega) (by omega)]
          exact this
      · rw [sp_ft_3 hf h3 p hp]; exact hI.2.2 p hp
  exact K 0 (by decide) I ⟨h, fun e he => absurd he (Nat.not_lt_zero _), fun _ _ => rfl⟩
end SM
