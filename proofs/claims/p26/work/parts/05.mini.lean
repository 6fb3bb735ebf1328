/-! ===== the mini machine: the same bytecode over a plain heap (positions, kinds, reference slots, int slots, long slots) ===== -/
abbrev mm_Hp : Type := (Nat × Nat × Nat) × (Nat → Nat × Nat) × (Nat → Nat → Nat) × (Nat → Nat → Int32) × (Nat → Nat → Int64) × Nat × (Nat → Int32)
abbrev mm_Res : Type := (Nat × Option Value) × mm_Hp
abbrev mm_St : Type := Nat × List Value × List Value × mm_Hp × Prop
def mm_n (h : mm_Hp) : Nat := h.1.1
def mm_c (h : mm_Hp) : Nat := h.1.2.1
def mm_s (h : mm_Hp) : Nat := h.1.2.2
def mm_K (h : mm_Hp) : Nat → Nat × Nat := h.2.1
def mm_R (h : mm_Hp) : Nat → Nat → Nat := h.2.2.1
def mm_I (h : mm_Hp) : Nat → Nat → Int32 := h.2.2.2.1
def mm_J (h : mm_Hp) : Nat → Nat → Int64 := h.2.2.2.2.1
def mm_L (h : mm_Hp) : Nat := h.2.2.2.2.2.1
def mm_X (h : mm_Hp) : Nat → Int32 := h.2.2.2.2.2.2
def mm_sR (h : mm_Hp) (v : Nat → Nat → Nat) : mm_Hp := (h.1, h.2.1, v, h.2.2.2)
def mm_sI (h : mm_Hp) (v : Nat → Nat → Int32) : mm_Hp := (h.1, h.2.1, h.2.2.1, v, h.2.2.2.2)
def mm_sJ (h : mm_Hp) (v : Nat → Nat → Int64) : mm_Hp := (h.1, h.2.1, h.2.2.1, h.2.2.2.1, v, h.2.2.2.2.2)
/-- a new cell of kind k with len places, that costs w slots -/
def mm_al (h : mm_Hp) (k len w : Nat) : mm_Hp := ((mm_n h + 1, mm_c h + 1, mm_s h + w), va_up (mm_K h) (mm_n h) (k, len), va_up (mm_R h) (mm_n h) (fun _ => 0), va_up (mm_I h) (mm_n h) (fun _ => 0), va_up (mm_J h) (mm_n h) (fun _ => 0), mm_L h, mm_X h)
/-- the cost of an exception -/
def mm_ex (h : mm_Hp) : mm_Hp := ((mm_n h, mm_c h + 1, mm_s h + 6), h.2)
def mm_SHP : Nat → Int32 := fun j => ([31599, 11114, 27499, 11415, 9362, 5705, 29671, 25251, 29351, 29647, 25230, 29390, 23497, 19401, 6009, 31183, 31118, 31178, 31215, 14831, 10666, 29257, 29266, 29348, 31727, 10922, 31407, 31695, 31690, 10958] : List Int32).getD j 0
def mm_lget : List Value → Nat → Value
  | [], _ => .null
  | v :: _, 0 => v
  | _ :: t, n + 1 => mm_lget t n
def mm_lset : List Value → Nat → Value → List Value
  | [], _, _ => []
  | _ :: t, 0, v => v :: t
  | a :: t, n + 1, v => a :: mm_lset t n v
def mm_two : Value → Bool
  | .long _ => true
  | .double _ => true
  | _ => false
def mm_pre (ls : List Value) : Nat → Bool
  | 0 => false
  | i + 1 => mm_two (mm_lget ls i)
def mm_ob (h : mm_Hp) (i ci : Nat) : Prop := i < mm_n h ∧ (mm_K h i).1 = ci
def mm_ar (h : mm_Hp) (i k : Nat) (x : Int32) : Prop := i < mm_n h ∧ (mm_K h i).1 = k ∧ vp_in x (mm_K h i).2
def mm_nf (ci : Nat) : Nat := match ci with | 0 => 6 | 1 => 3 | 2 => 3 | 3 => 2 | 4 => 5 | _ => 14
def mm_vok (n : Nat) (v : Value) : Prop := ∀ j : Nat, v = .ref j → j ≠ n
def mm_old (n : Nat) (v : Value) : Prop := ∀ j : Nat, v = .ref j → j < n ∨ 1000 ≤ j
def mm_fresh (ls st : List Value) (h : mm_Hp) : Prop := mm_n h < 1000 ∧ (∀ v ∈ ls ++ st, mm_vok (mm_n h) v) ∧ ∀ i, i < mm_n h → ∀ k, mm_R h i k ≠ mm_n h
-- ways of single instructions
def mm_ldI (np : Nat) (aux : List Nat) (ls st : List Value) (h : mm_Hp) : Option mm_St := match aux with
  | [i] => (match mm_lget ls i with | .int x => some (np, ls, .int x :: st, h, True) | _ => none)
  | _ => none
def mm_ldL (np : Nat) (aux : List Nat) (ls st : List Value) (h : mm_Hp) : Option mm_St := match aux with
  | [i] => (match mm_lget ls i with | .long x => some (np, ls, .long x :: st, h, True) | _ => none)
  | _ => none
def mm_ldD (np : Nat) (aux : List Nat) (ls st : List Value) (h : mm_Hp) : Option mm_St := match aux with
  | [i] => (match mm_lget ls i with | .double x => some (np, ls, .double x :: st, h, True) | _ => none)
  | _ => none
def mm_ldA (np : Nat) (aux : List Nat) (ls st : List Value) (h : mm_Hp) : Option mm_St := match aux with
  | [i] => (match mm_lget ls i with | .ref x => some (np, ls, .ref x :: st, h, True) | _ => none)
  | _ => none
def mm_stI (np : Nat) (aux : List Nat) (ls st : List Value) (h : mm_Hp) : Option mm_St := match aux, st with
  | [i], .int x :: r => bif mm_pre ls i then none else some (np, mm_lset ls i (.int x), r, h, i < ls.length)
  | _, _ => none
def mm_stA (np : Nat) (aux : List Nat) (ls st : List Value) (h : mm_Hp) : Option mm_St := match aux, st with
  | [i], .ref x :: r => bif mm_pre ls i then none else some (np, mm_lset ls i (.ref x), r, h, i < ls.length)
  | _, _ => none
def mm_stL (np : Nat) (aux : List Nat) (ls st : List Value) (h : mm_Hp) : Option mm_St := match aux, st with
  | [i], .long x :: r => bif mm_pre ls i then none else some (np, mm_lset (mm_lset ls i (.long x)) (i + 1) .null, r, h, i + 1 < ls.length)
  | _, _ => none
def mm_stD (np : Nat) (aux : List Nat) (ls st : List Value) (h : mm_Hp) : Option mm_St := match aux, st with
  | [i], .double x :: r => bif mm_pre ls i then none else some (np, mm_lset (mm_lset ls i (.double x)) (i + 1) .null, r, h, i + 1 < ls.length)
  | _, _ => none
def mm_inc (np : Nat) (v : Value) (aux : List Nat) (ls st : List Value) (h : mm_Hp) : Option mm_St := match aux, v with
  | [i], .int k => (match mm_lget ls i with | .int x => bif mm_pre ls i then none else some (np, mm_lset ls i (.int (x + k)), st, h, i < ls.length) | _ => none)
  | _, _ => none
def mm_b2 (f : Int32 → Int32 → Int32) (np : Nat) (ls st : List Value) (h : mm_Hp) : Option mm_St := match st with
  | .int y :: .int x :: r => some (np, ls, .int (f x y) :: r, h, True)
  | _ => none
def mm_d2 (f : Int32 → Int32 → Int32) (np : Nat) (ls st : List Value) (h : mm_Hp) : Option mm_St := match st with
  | .int y :: .int x :: r => some (np, ls, .int (f x y) :: r, h, ¬ y = 0)
  | _ => none
def mm_l2 (f : Int64 → Int64 → Int64) (np : Nat) (ls st : List Value) (h : mm_Hp) : Option mm_St := match st with
  | .long y :: .long x :: r => some (np, ls, .long (f x y) :: r, h, True)
  | _ => none
def mm_f2 (f : UInt64 → UInt64 → UInt64) (np : Nat) (ls st : List Value) (h : mm_Hp) : Option mm_St := match st with
  | .double y :: .double x :: r => some (np, ls, .double (f x y) :: r, h, vf_n64 (f x y))
  | _ => none
def mm_lsh (np : Nat) (ls st : List Value) (h : mm_Hp) : Option mm_St := match st with
  | .int y :: .long x :: r => some (np, ls, .long (x <<< (y.toInt64 &&& 63)) :: r, h, True)
  | _ => none
def mm_lcm (np : Nat) (ls st : List Value) (h : mm_Hp) : Option mm_St := match st with
  | .long y :: .long x :: r => some (np, ls, .int (lg_cmp x y) :: r, h, True)
  | _ => none
def mm_dcm (op : CmpOp) (np : Nat) (ls st : List Value) (h : mm_Hp) : Option mm_St := match st with
  | .double y :: .double x :: r => some (np, ls, .int (Op.cmpValue (FP.dcmp x y) op) :: r, h, True)
  | _ => none
def mm_i2l (np : Nat) (ls st : List Value) (h : mm_Hp) : Option mm_St := match st with
  | .int x :: r => some (np, ls, .long x.toInt64 :: r, h, True)
  | _ => none
def mm_i2d (np : Nat) (ls st : List Value) (h : mm_Hp) : Option mm_St := match st with
  | .int x :: r => some (np, ls, .double (FP.i2d x) :: r, h, True)
  | _ => none
def mm_i2c (np : Nat) (ls st : List Value) (h : mm_Hp) : Option mm_St := match st with
  | .int x :: r => some (np, ls, .int (x.toUInt32 % 65536).toInt32 :: r, h, True)
  | _ => none
def mm_d2l (np : Nat) (ls st : List Value) (h : mm_Hp) : Option mm_St := match st with
  | .double x :: r => some (np, ls, .long (FP.d2l x) :: r, h, True)
  | _ => none
def mm_dup (np : Nat) (ls st : List Value) (h : mm_Hp) : Option mm_St := match st with
  | v :: r => bif mm_two v then none else some (np, ls, v :: v :: r, h, True)
  | _ => none
def mm_dup2 (np : Nat) (ls st : List Value) (h : mm_Hp) : Option mm_St := match st with
  | v :: w :: r => bif mm_two v || mm_two w then none else some (np, ls, v :: w :: v :: w :: r, h, True)
  | _ => none
def mm_pop (np : Nat) (ls st : List Value) (h : mm_Hp) : Option mm_St := match st with
  | v :: r => bif mm_two v then none else some (np, ls, r, h, True)
  | _ => none
def mm_gf (np : Nat) (aux : List Nat) (ls st : List Value) (h : mm_Hp) : Option mm_St := match aux, st with
  | ci :: k :: fl :: _, .ref i :: r => (match fl with
    | 1 => some (np, ls, .ref (mm_R h i k) :: r, h, mm_ob h i ci ∧ mm_R h i k ≠ 0)
    | _ => some (np, ls, .int (mm_I h i k) :: r, h, mm_ob h i ci))
  | _, _ => none
def mm_pf (np : Nat) (aux : List Nat) (ls st : List Value) (h : mm_Hp) : Option mm_St := match aux, st with
  | ci :: k :: fl :: _, v :: .ref i :: r => (match fl, v with
    | 1, .ref j => some (np, ls, r, mm_sR h (va_up (mm_R h) i (va_up (mm_R h i) k j)), mm_ob h i ci ∧ j ≠ 0)
    | 2, .int x => some (np, ls, r, mm_sI h (va_up (mm_I h) i (upd (mm_I h i) k x)), mm_ob h i ci ∧ (x = 0 ∨ x = 1))
    | 0, .int x => some (np, ls, r, mm_sI h (va_up (mm_I h) i (upd (mm_I h i) k x)), mm_ob h i ci)
    | _, _ => none)
  | _, _ => none
def mm_ial (np : Nat) (aux : List Nat) (ls st : List Value) (h : mm_Hp) : Option mm_St := match aux, st with
  | [0], .int x :: .ref i :: r => some (np, ls, .int (mm_I h i x.toNatClampNeg) :: r, h, mm_ar h i 10 x)
  | [1], .int x :: .ref i :: r => some (np, ls, .int (mm_X h x.toNatClampNeg) :: r, h, i = 1001 ∧ vp_in x (mm_L h))
  | [2], .int x :: .ref i :: r => some (np, ls, .int (mm_SHP x.toNatClampNeg) :: r, h, i = 1000 ∧ vp_in x 30)
  | _, _ => none
def mm_cal (np : Nat) (ls st : List Value) (h : mm_Hp) : Option mm_St := match st with
  | .int x :: .ref i :: r => some (np, ls, .int (mm_I h i x.toNatClampNeg) :: r, h, mm_ar h i 11 x)
  | _ => none
def mm_lal (np : Nat) (ls st : List Value) (h : mm_Hp) : Option mm_St := match st with
  | .int x :: .ref i :: r => some (np, ls, .long (mm_J h i x.toNatClampNeg) :: r, h, mm_ar h i 12 x)
  | _ => none
def mm_aal (np : Nat) (ls st : List Value) (h : mm_Hp) : Option mm_St := match st with
  | .int x :: .ref i :: r => some (np, ls, .ref (mm_R h i x.toNatClampNeg) :: r, h, (mm_ar h i 13 x ∨ mm_ar h i 14 x) ∧ mm_R h i x.toNatClampNeg ≠ 0)
  | _ => none
def mm_ias (np : Nat) (ls st : List Value) (h : mm_Hp) : Option mm_St := match st with
  | .int x :: .int j :: .ref i :: r => some (np, ls, r, mm_sI h (va_up (mm_I h) i (upd (mm_I h i) j.toNatClampNeg x)), mm_ar h i 10 j)
  | _ => none
def mm_cas (np : Nat) (ls st : List Value) (h : mm_Hp) : Option mm_St := match st with
  | .int x :: .int j :: .ref i :: r => some (np, ls, r, mm_sI h (va_up (mm_I h) i (upd (mm_I h i) j.toNatClampNeg x)), mm_ar h i 11 j ∧ vp_nar .char x = x)
  | _ => none
def mm_las (np : Nat) (ls st : List Value) (h : mm_Hp) : Option mm_St := match st with
  | .long x :: .int j :: .ref i :: r => some (np, ls, r, mm_sJ h (va_up (mm_J h) i (vp_updL (mm_J h i) j.toNatClampNeg x)), mm_ar h i 12 j)
  | _ => none
def mm_aas (np : Nat) (ls st : List Value) (h : mm_Hp) : Option mm_St := match st with
  | .ref q :: .int j :: .ref i :: r => some (np, ls, r, mm_sR h (va_up (mm_R h) i (va_up (mm_R h i) j.toNatClampNeg q)), (mm_ar h i 13 j ∧ mm_ob h q 2 ∨ mm_ar h i 14 j ∧ mm_ob h q 0) ∧ q ≠ 0)
  | _ => none
def mm_alen (np : Nat) (ls st : List Value) (h : mm_Hp) : Option mm_St := match st with
  | .ref i :: r => some (np, ls, .int (nI (mm_L h)) :: r, h, i = 1001)
  | _ => none
def mm_nar (np : Nat) (aux : List Nat) (ls st : List Value) (h : mm_Hp) : Option mm_St := match aux, st with
  | k :: _, .int x :: r => some (np, ls, .ref (mm_n h) :: r, mm_al h k x.toNatClampNeg x.toNatClampNeg, ¬ x < 0 ∧ x.toNatClampNeg ≤ 1000 ∧ mm_fresh ls r h)
  | _, _ => none
def mm_new (np : Nat) (aux : List Nat) (ls st : List Value) (h : mm_Hp) : Option mm_St := match aux with
  | 0 :: ci :: N :: _ => some (np, ls, .ref (mm_n h) :: st, mm_al h ci N N, mm_fresh ls st h)
  | _ => none
def mm_inv (np : Nat) (aux : List Nat) (ls st : List Value) (h : mm_Hp) : Option mm_St := match aux, st with
  | 0 :: _, .ref _ :: r => some (np, ls, r, h, (r.map Value.category).sum ≤ 8)
  | 7 :: _, .int n :: .int dp :: .ref b :: .int sp :: .ref a :: r => some (np, ls, r, mm_sI h (va_up (mm_I h) b (va_cpy (mm_I h a) (mm_I h b) sp.toNatClampNeg dp.toNatClampNeg n.toNatClampNeg)), mm_ob h a 10 ∧ mm_ob h b 10 ∧ ¬ sp < 0 ∧ ¬ dp < 0 ∧ ¬ n < 0 ∧ sp.toNatClampNeg + n.toNatClampNeg ≤ (mm_K h a).2 ∧ dp.toNatClampNeg + n.toNatClampNeg ≤ (mm_K h b).2 ∧ (r.map Value.category).sum ≤ 8)
  | 8 :: _, .double b :: r => some (np, ls, .long b.toInt64 :: r, h, (r.map Value.category).sum ≤ 8)
  | _, _ => none
/-- one step of an instruction that neither branches nor calls nor leaves: next place, locals, stack, heap; what must hold -/
def mm_stp (e : mm_En) (ls st : List Value) (h : mm_Hp) : Option mm_St := match e with
  | (ins, np, v, aux) => match ins with
    | .iconst _ => some (np, ls, v :: st, h, True)
    | .bipush _ => some (np, ls, v :: st, h, True)
    | .sipush _ => some (np, ls, v :: st, h, True)
    | .lconst _ => some (np, ls, v :: st, h, True)
    | .dconst _ => some (np, ls, v :: st, h, True)
    | .ldc _ => some (np, ls, v :: st, h, True)
    | .ldc_w _ => some (np, ls, v :: st, h, True)
    | .ldc2_w _ => some (np, ls, v :: st, h, True)
    | .iload _ => mm_ldI np aux ls st h
    | .iload_n _ => mm_ldI np aux ls st h
    | .lload _ => mm_ldL np aux ls st h
    | .lload_n _ => mm_ldL np aux ls st h
    | .dload _ => mm_ldD np aux ls st h
    | .dload_n _ => mm_ldD np aux ls st h
    | .aload _ => mm_ldA np aux ls st h
    | .aload_n _ => mm_ldA np aux ls st h
    | .istore _ => mm_stI np aux ls st h
    | .istore_n _ => mm_stI np aux ls st h
    | .lstore _ => mm_stL np aux ls st h
    | .lstore_n _ => mm_stL np aux ls st h
    | .dstore _ => mm_stD np aux ls st h
    | .dstore_n _ => mm_stD np aux ls st h
    | .astore _ => mm_stA np aux ls st h
    | .astore_n _ => mm_stA np aux ls st h
    | .iinc _ _ => mm_inc np v aux ls st h
    | .iadd => mm_b2 (fun x y => x + y) np ls st h
    | .isub => mm_b2 (fun x y => x - y) np ls st h
    | .imul => mm_b2 (fun x y => x * y) np ls st h
    | .iand => mm_b2 (fun x y => x &&& y) np ls st h
    | .ior => mm_b2 (fun x y => x ||| y) np ls st h
    | .ixor => mm_b2 (fun x y => x ^^^ y) np ls st h
    | .ishl => mm_b2 (fun x y => x <<< (y &&& 31)) np ls st h
    | .iushr => mm_b2 (fun x y => (x.toUInt32 >>> (y.toUInt32 &&& Int32.toUInt32 31)).toInt32) np ls st h
    | .ishr => mm_b2 (fun x y => x >>> (y &&& 31)) np ls st h
    | .idiv => mm_d2 (fun x y => x / y) np ls st h
    | .irem => mm_d2 (fun x y => x - x / y * y) np ls st h
    | .ladd => mm_l2 (fun x y => x + y) np ls st h
    | .lmul => mm_l2 (fun x y => x * y) np ls st h
    | .lshl => mm_lsh np ls st h
    | .lcmp => mm_lcm np ls st h
    | .i2l => mm_i2l np ls st h
    | .i2d => mm_i2d np ls st h
    | .i2c => mm_i2c np ls st h
    | .d2l => mm_d2l np ls st h
    | .dmul => mm_f2 FP.dmul np ls st h
    | .dsub => mm_f2 FP.dsub np ls st h
    | .ddiv => mm_f2 FP.ddiv np ls st h
    | .dcmp op => mm_dcm op np ls st h
    | .dup => mm_dup np ls st h
    | .dup2 => mm_dup2 np ls st h
    | .pop => mm_pop np ls st h
    | .goto _ => (match aux with | [t] => some (t, ls, st, h, True) | _ => none)
    | .getfield _ => mm_gf np aux ls st h
    | .putfield _ => mm_pf np aux ls st h
    | .getstatic _ => some (np, ls, .ref 1000 :: st, h, True)
    | .iaload => mm_ial np aux ls st h
    | .caload => mm_cal np ls st h
    | .laload => mm_lal np ls st h
    | .aaload => mm_aal np ls st h
    | .iastore => mm_ias np ls st h
    | .castore => mm_cas np ls st h
    | .lastore => mm_las np ls st h
    | .aastore => mm_aas np ls st h
    | .arraylength => mm_alen np ls st h
    | .newarray _ => mm_nar np aux ls st h
    | .anewarray _ => mm_nar np aux ls st h
    | .new _ => mm_new np aux ls st h
    | .invokespecial _ => mm_inv np aux ls st h
    | .invokestatic _ => mm_inv np aux ls st h
    | _ => none
def mm_cz (c : Jvm.ClassFile.Cond) (x : Int32) : Prop := match c with
  | .eq => x = 0 | .ne => ¬ x = 0 | .lt => x < 0 | .ge => 0 ≤ x | .gt => 0 < x | .le => x ≤ 0
def mm_c2 (c : Jvm.ClassFile.Cond) (x y : Int32) : Prop := match c with
  | .eq => x = y | .ne => ¬ x = y | .lt => x < y | .ge => y ≤ x | .gt => y < x | .le => x ≤ y
def mm_tsw (d : Nat) (ts : List Nat) (x : Int32) : Nat := if x.toInt < 0 then d else ts.getD x.toInt.toNat d
def mm_lsw (d : Nat) : List Nat → Int32 → Nat
  | a :: t :: r, x => if x.toInt = (a : Int) then t else mm_lsw d r x
  | _, _ => d
def mm_spread : List Value → List Value
  | [] => []
  | v :: t => (bif mm_two v then [v, .null] else [v]) ++ mm_spread t
def mm_ent (L : Nat) (args : List Value) : List Value := mm_spread args ++ List.replicate (L - (mm_spread args).length) .null
def mm_recv (ck ci : Nat) (args : List Value) (h : mm_Hp) : Prop := match ck with
  | 1 => (match args with | .ref a :: _ => mm_ob h a ci | _ => False)
  | 4 => (match args with | .ref a :: _ => mm_ob h a ci | _ => False)
  | 3 => (match args with | .ref _ :: _ => True | _ => False)
  | 6 => (match args with | .ref _ :: _ => True | _ => False)
  | _ => True
def mm_hand (mi E : Nat) : Option (Nat × Nat) := ((mm_hl mi).find? (fun q => Nat.beq q.1 E)).map (fun q => (q.2.2.2, q.2.2.1))
abbrev mm_Kt : Type := Nat → Nat → List Value → List Value → mm_Hp → mm_Res → Prop
def mm_call (k : mm_Kt) (mi np ck mj na L ci : Nat) (ls st : List Value) (h : mm_Hp) (r : mm_Res) : Prop :=
  na ≤ st.length ∧ ((st.drop na).map Value.category).sum ≤ 8 ∧ mm_recv ck ci (st.take na).reverse h ∧ (mm_spread (st.take na).reverse).length ≤ L ∧
  ∃ r' : mm_Res, k mj 0 (mm_ent L (st.take na).reverse) [] h r' ∧ (mm_n r'.2 = mm_n h ∨ ∀ v ∈ ls ++ st.drop na, mm_old (mm_n h) v) ∧
    ((r'.1.1 = 0 ∧ k mi np ls (r'.1.2.toList ++ st.drop na) r'.2 r) ∨ ∃ q : Nat × Nat, r'.1.1 ≠ 0 ∧ mm_hand mi r'.1.1 = some q ∧ mm_pre ls q.2 = false ∧ k mi q.1 (mm_lset ls q.2 .null) [] r'.2 r)
def mm_seq (k : mm_Kt) (mi : Nat) (e : mm_En) (ls st : List Value) (h : mm_Hp) (r : mm_Res) : Prop :=
  match mm_stp e ls st h with | some (pc', ls', st', h', P) => P ∧ k mi pc' ls' st' h' r | none => False
def mm_cl9 (k : mm_Kt) (mi : Nat) (e : mm_En) (ls st : List Value) (h : mm_Hp) (r : mm_Res) : Prop :=
  match e.2.2.2 with
  | ck :: mj :: na :: L :: aux => (match ck with
    | 0 => mm_seq k mi e ls st h r
    | 7 => mm_seq k mi e ls st h r
    | 8 => mm_seq k mi e ls st h r
    | _ => mm_call k mi e.2.1 ck mj na L (aux.headD 99) ls st h r)
  | _ => False
def mm_act (k : mm_Kt) (mi : Nat) (e : mm_En) (ls st : List Value) (h : mm_Hp) (r : mm_Res) : Prop :=
  match e.1 with
  | .ireturn => (match e.2.2.2, st with
    | [0], [.int v] => r = ((0, some (.int v)), h)
    | [1], [.int v] => r = ((0, some (.int v)), h) ∧ (v = 0 ∨ v = 1)
    | [2], [.int v] => r = ((0, some (.int v)), h) ∧ vp_nar .char v = v
    | _, _ => False)
  | .lreturn => (match st with | [.long v] => r = ((0, some (.long v)), h) | _ => False)
  | .dreturn => (match st with | [.double v] => r = ((0, some (.double v)), h) | _ => False)
  | .return_ => (match st with | [] => r = ((0, none), h) | _ => False)
  | .ifCond c _ => (match e.2.2.2, st with
    | [t], .int x :: q => (mm_cz c x → k mi t ls q h r) ∧ (¬ mm_cz c x → k mi e.2.1 ls q h r)
    | _, _ => False)
  | .if_icmp c _ => (match e.2.2.2, st with
    | [t], .int y :: .int x :: q => (mm_c2 c x y → k mi t ls q h r) ∧ (¬ mm_c2 c x y → k mi e.2.1 ls q h r)
    | _, _ => False)
  | .tableswitch _ _ _ _ => (match e.2.2.2, st with
    | d :: ts, .int x :: q => k mi (mm_tsw d ts x) ls q h r
    | _, _ => False)
  | .lookupswitch _ _ => (match e.2.2.2, st with
    | d :: ps, .int x :: q => k mi (mm_lsw d ps x) ls q h r
    | _, _ => False)
  | .new _ => (match e.2.2.2 with
    | 1 :: E :: _ => r = ((E, none), mm_ex h) ∧ (st.map Value.category).sum ≤ 8
    | _ => mm_seq k mi e ls st h r)
  | .invokevirtual _ => mm_cl9 k mi e ls st h r
  | .invokestatic _ => mm_cl9 k mi e ls st h r
  | .invokespecial _ => mm_cl9 k mi e ls st h r
  | _ => mm_seq k mi e ls st h r
/-- from the method mi at pc with locals, stack and heap the machine comes to the answer r, in at most so many steps (calls nested) -/
def mm_Rn : Nat → mm_Kt
  | 0 => fun _ _ _ _ _ _ => False
  | n + 1 => fun mi pc ls st h r => match mm_code mi pc with
    | none => False
    | some e => mm_act (mm_Rn n) mi e ls st h r
def mm_Ru (mi pc : Nat) (ls st : List Value) (h : mm_Hp) (r : mm_Res) : Prop := ∃ n, mm_Rn n mi pc ls st h r
def mm_le (k k' : mm_Kt) : Prop := ∀ mi pc ls st h r, k mi pc ls st h r → k' mi pc ls st h r
theorem mm_seq_mono {k k' : mm_Kt} (hk : mm_le k k') {mi : Nat} {e : mm_En} {ls st : List Value} {h : mm_Hp} {r : mm_Res} (x : mm_seq k mi e ls st h r) : mm_seq k' mi e ls st h r := by
  unfold mm_seq at x ⊢
  split at x
  · exact ⟨x.1, hk _ _ _ _ _ _ x.2⟩
  · exact x
theorem mm_call_mono {k k' : mm_Kt} (hk : mm_le k k') {mi np ck mj na L ci : Nat} {ls st : List Value} {h : mm_Hp} {r : mm_Res} (x : mm_call k mi np ck mj na L ci ls st h r) : mm_call k' mi np ck mj na L ci ls st h r := by
  obtain ⟨a1, a2, a3, a4, r', b1, b2, b3⟩ := x
  refine ⟨a1, a2, a3, a4, r', hk _ _ _ _ _ _ b1, b2, ?_⟩
  rcases b3 with ⟨c1, c2⟩ | ⟨q, c1, c2, c4, c3⟩
  · exact Or.inl ⟨c1, hk _ _ _ _ _ _ c2⟩
  · exact Or.inr ⟨q, c1, c2, c4, hk _ _ _ _ _ _ c3⟩
theorem mm_cl9_mono {k k' : mm_Kt} (hk : mm_le k k') {mi : Nat} {e : mm_En} {ls st : List Value} {h : mm_Hp} {r : mm_Res} (x : mm_cl9 k mi e ls st h r) : mm_cl9 k' mi e ls st h r := by
  unfold mm_cl9 at x ⊢
  split at x
  · split at x
    · exact mm_seq_mono hk x
    · exact mm_seq_mono hk x
    · exact mm_seq_mono hk x
    · exact mm_call_mono hk x
  · exact x
