/-! ===== rules of the mini machine ===== -/
set_option maxHeartbeats 4000000 in
theorem mm_act_mono {k k' : mm_Kt} (hk : mm_le k k') {mi : Nat} {e : mm_En} {ls st : List Value} {h : mm_Hp} {r : mm_Res} (x : mm_act k mi e ls st h r) : mm_act k' mi e ls st h r := by
  obtain ⟨ins, np, v, aux⟩ := e
  cases ins <;> simp only [mm_act] at x ⊢ <;> first
    | exact mm_seq_mono hk x
    | exact mm_cl9_mono hk x
    | exact x
    | (split at x
       · first
         | exact ⟨fun c => hk _ _ _ _ _ _ (x.1 c), fun c => hk _ _ _ _ _ _ (x.2 c)⟩
         | exact hk _ _ _ _ _ _ x
         | exact x
       · first
         | exact mm_seq_mono hk x
         | exact x)
theorem mm_Rn_mono : ∀ (n : Nat), mm_le (mm_Rn n) (mm_Rn (n + 1)) := by
  intro n
  induction n with
  | zero => intro mi pc ls st h r x; exact x.elim
  | succ n ih =>
    intro mi pc ls st h r x
    show (match mm_code mi pc with | none => False | some e => mm_act (mm_Rn (n + 1)) mi e ls st h r)
    have x' : (match mm_code mi pc with | none => False | some e => mm_act (mm_Rn n) mi e ls st h r) := x
    split at x'
    · exact x'
    · exact mm_act_mono ih x'
theorem mm_Rn_le {n m : Nat} (h : n ≤ m) : mm_le (mm_Rn n) (mm_Rn m) := by
  induction h with
  | refl => intro _ _ _ _ _ _ x; exact x
  | step _ ih => intro mi pc ls st h r x; exact mm_Rn_mono _ _ _ _ _ _ _ (ih _ _ _ _ _ _ x)
theorem mm_of_act {n mi pc : Nat} {ls st : List Value} {h : mm_Hp} {r : mm_Res} {e : mm_En} (he : mm_code mi pc = some e) (x : mm_act (mm_Rn n) mi e ls st h r) : mm_Ru mi pc ls st h r := by
  refine ⟨n + 1, ?_⟩
  show (match mm_code mi pc with | none => False | some e => mm_act (mm_Rn n) mi e ls st h r)
  rw [he]
  exact x
/-- the ways of control: which instructions 'mm_stp' steps -/
def mm_pl (e : mm_En) : Bool := match e.1 with
  | .ireturn => false | .lreturn => false | .dreturn => false | .return_ => false
  | .ifCond _ _ => false | .if_icmp _ _ => false | .tableswitch _ _ _ _ => false | .lookupswitch _ _ => false
  | .new _ => (match e.2.2.2 with | 1 :: _ :: _ => false | _ => true)
  | .invokevirtual _ => false
  | .invokestatic _ => (match e.2.2.2 with | 0 :: _ :: _ :: _ :: _ => true | 7 :: _ :: _ :: _ :: _ => true | 8 :: _ :: _ :: _ :: _ => true | _ => false)
  | .invokespecial _ => (match e.2.2.2 with | 0 :: _ :: _ :: _ :: _ => true | 7 :: _ :: _ :: _ :: _ => true | 8 :: _ :: _ :: _ :: _ => true | _ => false)
  | _ => true
set_option maxHeartbeats 4000000 in
theorem mm_act_pl {k : mm_Kt} {mi : Nat} {e : mm_En} {ls st : List Value} {h : mm_Hp} {r : mm_Res} (hp : mm_pl e = true) (x : mm_seq k mi e ls st h r) : mm_act k mi e ls st h r := by
  obtain ⟨ins, np, v, aux⟩ := e
  cases ins <;> first
    | exact x
    | (simp [mm_pl] at hp; done)
    | (simp only [mm_pl] at hp
       simp only [mm_act, mm_cl9]
       split at hp
       · first | exact absurd hp (by decide) | exact x
       · first | exact absurd hp (by decide) | exact x
       · exact x
       · exact absurd hp (by decide))
    | (simp only [mm_pl] at hp
       simp only [mm_act, mm_cl9]
       split at hp
       · exact absurd hp (by decide)
       · split <;> first | exact x | (exfalso; simp_all; done))
/-- the place, its entry, and one step -/
theorem mm_step {mi pc pc' : Nat} {ls ls' st st' : List Value} {h h' : mm_Hp} {r : mm_Res} {P : Prop} {e : mm_En} (he : mm_code mi pc = some e) (hp : mm_pl e = true) (hs : mm_stp e ls st h = some (pc', ls', st', h', P)) (hP : P) (k : mm_Ru mi pc' ls' st' h' r) : mm_Ru mi pc ls st h r := by
  obtain ⟨n, k⟩ := k
  refine mm_of_act he (n := n) (mm_act_pl hp ?_)
  unfold mm_seq
  rw [hs]
  exact ⟨hP, k⟩
theorem mm_ifz {mi pc t np : Nat} {ls q : List Value} {h : mm_Hp} {r : mm_Res} {c : Jvm.ClassFile.Cond} {o : Int} {v : Value} {x : Int32} (he : mm_code mi pc = some (.ifCond c o, np, v, [t])) (k1 : mm_cz c x → mm_Ru mi t ls q h r) (k2 : ¬ mm_cz c x → mm_Ru mi np ls q h r) : mm_Ru mi pc ls (.int x :: q) h r := by
  by_cases hc : mm_cz c x
  · obtain ⟨n, k⟩ := k1 hc
    exact mm_of_act he (n := n) ⟨fun _ => k, fun z => absurd hc z⟩
  · obtain ⟨n, k⟩ := k2 hc
    exact mm_of_act he (n := n) ⟨fun z => absurd z hc, fun _ => k⟩
theorem mm_if2 {mi pc t np : Nat} {ls q : List Value} {h : mm_Hp} {r : mm_Res} {c : Jvm.ClassFile.Cond} {o : Int} {v : Value} {x y : Int32} (he : mm_code mi pc = some (.if_icmp c o, np, v, [t])) (k1 : mm_c2 c x y → mm_Ru mi t ls q h r) (k2 : ¬ mm_c2 c x y → mm_Ru mi np ls q h r) : mm_Ru mi pc ls (.int y :: .int x :: q) h r := by
  by_cases hc : mm_c2 c x y
  · obtain ⟨n, k⟩ := k1 hc
    exact mm_of_act he (n := n) ⟨fun _ => k, fun z => absurd hc z⟩
  · obtain ⟨n, k⟩ := k2 hc
    exact mm_of_act he (n := n) ⟨fun z => absurd z hc, fun _ => k⟩
theorem mm_tab {mi pc np d : Nat} {ts : List Nat} {ls q : List Value} {h : mm_Hp} {r : mm_Res} {a b c : Int} {o : Array Int} {v : Value} {x : Int32} (he : mm_code mi pc = some (.tableswitch a b c o, np, v, d :: ts)) (t : Nat) (ht : mm_tsw d ts x = t) (k : mm_Ru mi t ls q h r) : mm_Ru mi pc ls (.int x :: q) h r := by
  subst ht
  obtain ⟨n, k⟩ := k
  exact mm_of_act he (n := n) k
theorem mm_lok {mi pc np d : Nat} {ts : List Nat} {ls q : List Value} {h : mm_Hp} {r : mm_Res} {a : Int} {o : Array (Int × Int)} {v : Value} {x : Int32} (he : mm_code mi pc = some (.lookupswitch a o, np, v, d :: ts)) (t : Nat) (ht : mm_lsw d ts x = t) (k : mm_Ru mi t ls q h r) : mm_Ru mi pc ls (.int x :: q) h r := by
  subst ht
  obtain ⟨n, k⟩ := k
  exact mm_of_act he (n := n) k
theorem mm_reti {mi pc np : Nat} {ls : List Value} {h : mm_Hp} {v : Value} {x : Int32} (he : mm_code mi pc = some (.ireturn, np, v, [0])) : mm_Ru mi pc ls [.int x] h ((0, some (.int x)), h) := mm_of_act he (n := 0) rfl
theorem mm_retz {mi pc np : Nat} {ls : List Value} {h : mm_Hp} {v : Value} {x : Int32} (he : mm_code mi pc = some (.ireturn, np, v, [1])) (hx : x = 0 ∨ x = 1) : mm_Ru mi pc ls [.int x] h ((0, some (.int x)), h) := mm_of_act he (n := 0) ⟨rfl, hx⟩
theorem mm_retc {mi pc np : Nat} {ls : List Value} {h : mm_Hp} {v : Value} {x : Int32} (he : mm_code mi pc = some (.ireturn, np, v, [2])) (hx : vp_nar .char x = x) : mm_Ru mi pc ls [.int x] h ((0, some (.int x)), h) := mm_of_act he (n := 0) ⟨rfl, hx⟩
theorem mm_retl {mi pc np : Nat} {ls : List Value} {h : mm_Hp} {v : Value} {x : Int64} {a : List Nat} (he : mm_code mi pc = some (.lreturn, np, v, a)) : mm_Ru mi pc ls [.long x] h ((0, some (.long x)), h) := mm_of_act he (n := 0) rfl
theorem mm_retd {mi pc np : Nat} {ls : List Value} {h : mm_Hp} {v : Value} {x : UInt64} {a : List Nat} (he : mm_code mi pc = some (.dreturn, np, v, a)) : mm_Ru mi pc ls [.double x] h ((0, some (.double x)), h) := mm_of_act he (n := 0) rfl
theorem mm_retv {mi pc np : Nat} {ls : List Value} {h : mm_Hp} {v : Value} {a : List Nat} (he : mm_code mi pc = some (.return_, np, v, a)) : mm_Ru mi pc ls [] h ((0, none), h) := mm_of_act he (n := 0) rfl
theorem mm_thr {mi pc np E i : Nat} {ls st : List Value} {h : mm_Hp} {v : Value} {a : List Nat} (he : mm_code mi pc = some (.new i, np, v, 1 :: E :: a)) (hs : (st.map Value.category).sum ≤ 8) : mm_Ru mi pc ls st h ((E, none), mm_ex h) := mm_of_act he (n := 0) ⟨rfl, hs⟩
/-- a call whose method answers -/
theorem mm_cal_of {mi np ck mj na L : Nat} {aux : List Nat} {ls st : List Value} {h h1 : mm_Hp} {r : mm_Res} {vo : Option Value} {n : Nat}
    (hn : na ≤ st.length) (hcat : ((st.drop na).map Value.category).sum ≤ 8) (hr : mm_recv ck (aux.headD 99) (st.take na).reverse h) (hL : (mm_spread (st.take na).reverse).length ≤ L)
    (hc : mm_Rn n mj 0 (mm_ent L (st.take na).reverse) [] h ((0, vo), h1)) (ho : mm_n h1 = mm_n h ∨ ∀ v ∈ ls ++ st.drop na, mm_old (mm_n h) v)
    (k : mm_Rn n mi np ls (vo.toList ++ st.drop na) h1 r) : mm_call (mm_Rn n) mi np ck mj na L (aux.headD 99) ls st h r :=
  ⟨hn, hcat, hr, hL, _, hc, ho, Or.inl ⟨rfl, k⟩⟩
/-- what a call does, said of a method: with these arguments it comes to this answer -/
def mm_Me (mj L : Nat) (args : List Value) (h : mm_Hp) (r : mm_Res) : Prop := mm_Ru mj 0 (mm_ent L args) [] h r
def mm_isc (e : mm_En) (ck mj na L : Nat) (aux : List Nat) : Prop := e.2.2.2 = ck :: mj :: na :: L :: aux ∧ ck ≠ 0 ∧ ck ≠ 7 ∧ ck ≠ 8 ∧ ((∃ i, e.1 = .invokevirtual i) ∨ (∃ i, e.1 = .invokestatic i) ∨ (∃ i, e.1 = .invokespecial i))
theorem mm_act_call {k : mm_Kt} {mi ck mj na L : Nat} {aux : List Nat} {e : mm_En} {ls st : List Value} {h : mm_Hp} {r : mm_Res} (hi : mm_isc e ck mj na L aux) (x : mm_call k mi e.2.1 ck mj na L (aux.headD 99) ls st h r) : mm_act k mi e ls st h r := by
  obtain ⟨h1, h2, h3, h4, h5⟩ := hi
  have key : mm_cl9 k mi e ls st h r := by
    unfold mm_cl9
    rw [h1]
    dsimp only
    split
    · exact absurd rfl h2
    · exact absurd rfl h3
    · exact absurd rfl h4
    · exact x
  obtain ⟨ins, np, v, a⟩ := e
  rcases h5 with ⟨i, h5⟩ | ⟨i, h5⟩ | ⟨i, h5⟩ <;> (dsimp only at h5; subst h5; exact key)
theorem mm_cll {mi pc ck mj na L : Nat} {aux : List Nat} {e : mm_En} {ls st args : List Value} {h h1 : mm_Hp} {r : mm_Res} {vo : Option Value}
    (he : mm_code mi pc = some e) (hi : mm_isc e ck mj na L aux) (ha : (st.take na).reverse = args) (hc : mm_Me mj L args h ((0, vo), h1))
    (hn : na ≤ st.length) (hcat : ((st.drop na).map Value.category).sum ≤ 8) (hr : mm_recv ck (aux.headD 99) args h) (hL : (mm_spread args).length ≤ L)
    (ho : mm_n h1 = mm_n h ∨ ∀ v ∈ ls ++ st.drop na, mm_old (mm_n h) v)
    (k : mm_Ru mi e.2.1 ls (vo.toList ++ st.drop na) h1 r) : mm_Ru mi pc ls st h r := by
  subst ha
  obtain ⟨n1, hc⟩ := hc
  obtain ⟨n2, k⟩ := k
  refine mm_of_act he (n := n1 + n2) (mm_act_call hi (mm_cal_of hn hcat hr hL (mm_Rn_le (Nat.le_add_right n1 n2) _ _ _ _ _ _ hc) ho (mm_Rn_le (Nat.le_add_left n2 n1) _ _ _ _ _ _ k)))
/-- a call whose method throws, caught here -/
theorem mm_clx {mi pc ck mj na L E : Nat} {aux : List Nat} {e : mm_En} {ls st args : List Value} {h h1 : mm_Hp} {r : mm_Res} {q : Nat × Nat}
    (he : mm_code mi pc = some e) (hi : mm_isc e ck mj na L aux) (ha : (st.take na).reverse = args) (hc : mm_Me mj L args h ((E, none), h1))
    (hn : na ≤ st.length) (hcat : ((st.drop na).map Value.category).sum ≤ 8) (hr : mm_recv ck (aux.headD 99) args h) (hL : (mm_spread args).length ≤ L)
    (ho : mm_n h1 = mm_n h ∨ ∀ v ∈ ls ++ st.drop na, mm_old (mm_n h) v) (hE : E ≠ 0) (hq : mm_hand mi E = some q) (hpre : mm_pre ls q.2 = false)
    (k : mm_Ru mi q.1 (mm_lset ls q.2 .null) [] h1 r) : mm_Ru mi pc ls st h r := by
  subst ha
  obtain ⟨n1, hc⟩ := hc
  obtain ⟨n2, k⟩ := k
  exact mm_of_act he (n := n1 + n2) (mm_act_call hi ⟨hn, hcat, hr, hL, _, mm_Rn_le (Nat.le_add_right n1 n2) _ _ _ _ _ _ hc, ho, Or.inr ⟨q, hE, hq, hpre, mm_Rn_le (Nat.le_add_left n2 n1) _ _ _ _ _ _ k⟩⟩)
