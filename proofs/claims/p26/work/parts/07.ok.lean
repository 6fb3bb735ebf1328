/-! ===== what is checked of the program table, by computation ===== -/
def mm_row (mi : Nat) : mm_MI := mm_mt.getD mi (⟨"", "", ""⟩, ByteArray.empty, 0, none, (0, 0), 0, 0, [])
def mm_y (mi : Nat) : MethodName := (mm_row mi).1
def mm_b (mi : Nat) : ByteArray := (mm_row mi).2.1
def mm_ml (mi : Nat) : Nat := (mm_row mi).2.2.1
def mm_rt (mi : Nat) : Option FieldType := (mm_row mi).2.2.2.1
def mm_fr (mi : Nat) : Nat := (mm_row mi).2.2.2.2.1.1
def mm_lo (mi : Nat) : Nat := (mm_row mi).2.2.2.2.1.2
def mm_hh (mi : Nat) : List (Nat × Nat × Nat × Nat) := (mm_row mi).2.2.2.2.2.2.2
def mm_w (i : Nat) (w : Jvm.Cond) : Bool := decide (lw_tbl[i]? = some w)
/-- the kind of a field: 0 a whole number, 1 a reference, 2 a truth value -/
def mm_ft (ci k : Nat) : Nat := match ci, k with
  | 0, 4 => 0 | 0, 5 => 0 | 0, _ => 1
  | 1, 0 => 1 | 1, _ => 0
  | 2, _ => 1
  | 3, 0 => 1 | 3, _ => 0
  | 4, _ => 1
  | _, 3 => 0 | _, 5 => 0 | _, 6 => 0 | _, 7 => 0 | _, 8 => 2 | _, 10 => 0 | _, _ => 1
def mm_exn (E : Nat) : String := match E with | 1 => "java/lang/IndexOutOfBoundsException" | 2 => "java/lang/IllegalArgumentException" | _ => "java/lang/IllegalStateException"
def mm_exi (E : Nat) : Nat := match E with | 1 => 52 | 2 => 62 | _ => 70
def mm_okF (mi idx : Nat) (aux : List Nat) (put : Bool) : Bool := match aux with
  | [ci, k, fl, ne, wi, fin] => (match mm_cl[ci]? with
    | some (C, T, N) => decide (k < N) && decide (N = mm_nf ci) && decide (fl = mm_ft ci k) &&
        (match ne with
         | 0 => mm_w wi (.fieldLink (mm_y mi).cls idx (T k).1 (T k).2.1 (T k).2.2.1)
         | _ => mm_w wi (.fieldLinkNest (mm_y mi).cls idx (T k).1 (T k).2.1 (T k).2.2.1 "BulbShapes")) &&
        (!put || (match fin with
         | 0 => decide ((T k).2.2.2 = false)
         | _ => decide ((T k).2.2.2 = true) && decide ((mm_y mi).name = "<init>") && decide ((T k).1 = (mm_y mi).cls) && decide (ne = 0)))
    | none => false)
  | _ => false
def mm_okC (mi mj na L wl cw wt : Nat) (idx : Nat) (nest wt2 self : Bool) : Bool :=
  (if nest then mm_w wl (.methodLinkNest (mm_y mi).cls idx (mm_y mj) "BulbShapes") else mm_w wl (.methodLink (mm_y mi).cls idx (mm_y mj))) &&
  (if wt2 then mm_w cw (.codeWith (mm_y mj) (mm_b mj) L (mm_rt mj) (mm_hh mj)) && decide (mm_hh mj ≠ []) else mm_w cw (.code (mm_y mj) (mm_b mj) L (mm_rt mj)) && decide (mm_hh mj = [])) &&
  mm_w wt (.initialized (mm_y mj).cls) && decide (L = mm_ml mj) && decide (mj < 77) &&
  decide ((mm_y mj).cls ≠ "java/lang/invoke/MethodHandle" ∧ (mm_y mj).cls ≠ "java/lang/invoke/VarHandle") &&
  (if self then decide (0 < na) && decide ((parseMethodDescriptor (mm_y mj).desc).map (fun d => d.parameters.length) = some (na - 1)) else decide ((parseMethodDescriptor (mm_y mj).desc).map (fun d => d.parameters.length) = some na)) &&
  decide (mm_fr mj + 1 ≤ mm_fr mi) && decide (8 + (L + 11) + mm_lo mj ≤ mm_lo mi)
def mm_okV (mi idx : Nat) (aux : List Nat) : Bool := match aux with
  | [1, mj, na, L, ci, wl, cw, wt, wn, ws] => mm_okC mi mj na L wl cw wt idx false false true && mm_w wn (.instanceMethod (mm_y mj)) && mm_w ws (.selects (mm_y mj).cls (mm_y mj) (mm_y mj)) && decide ((mm_cl[ci]?).map (·.1) = some (mm_y mj).cls)
  | [4, mj, na, L, ci, wl, cw, wt, wn, ws] => mm_okC mi mj na L wl cw wt idx true false true && mm_w wn (.instanceMethod (mm_y mj)) && mm_w ws (.selects (mm_y mj).cls (mm_y mj) (mm_y mj)) && decide ((mm_cl[ci]?).map (·.1) = some (mm_y mj).cls)
  | _ => false
def mm_okS (mi idx : Nat) (aux : List Nat) : Bool := match aux with
  | [2, mj, na, L, _, wl, cw, wt, ws] => mm_okC mi mj na L wl cw wt idx false false false && mm_w ws (.static (mm_y mj))
  | [5, mj, na, L, _, wl, cw, wt, ws] => mm_okC mi mj na L wl cw wt idx true false false && mm_w ws (.static (mm_y mj))
  | [9, mj, na, L, _, wl, cw, wt, ws] => mm_okC mi mj na L wl cw wt idx false true false && mm_w ws (.static (mm_y mj))
  | [7, wl, wn, ws, wt] => mm_w wl (.methodLink (mm_y mi).cls idx arraycopyName) && mm_w wn (.native arraycopyName) && mm_w ws (.static arraycopyName) && mm_w wt (.initialized "java/lang/System") && decide (1 ≤ mm_fr mi) && decide (60 ≤ mm_lo mi)
  | [8, wl, wn, ws, wt] => mm_w wl (.methodLink (mm_y mi).cls idx ⟨"java/lang/Double", "doubleToRawLongBits", "(D)J"⟩) && mm_w wn (.native ⟨"java/lang/Double", "doubleToRawLongBits", "(D)J"⟩) && mm_w ws (.static ⟨"java/lang/Double", "doubleToRawLongBits", "(D)J"⟩) && mm_w wt (.initialized "java/lang/Double") && decide (1 ≤ mm_fr mi) && decide (60 ≤ mm_lo mi)
  | _ => false
def mm_okP (mi idx : Nat) (aux : List Nat) : Bool := match aux with
  | [0, wl, wn, wc] => mm_w wl (.methodLink (mm_y mi).cls idx Lib.objectInit) && mm_w wn (.instanceMethod Lib.objectInit) && mm_w wc (.code Lib.objectInit ⟨#[0xb1]⟩ 1 none) && decide (1 ≤ mm_fr mi) && decide (20 ≤ mm_lo mi)
  | [3, mj, na, L, _, wl, cw, wt, wn] => mm_okC mi mj na L wl cw wt idx false false true && mm_w wn (.instanceMethod (mm_y mj)) && decide ((mm_y mj).name = "<init>") && decide (mm_rt mj = none)
  | [6, mj, na, L, _, wl, cw, wt, wn] => mm_okC mi mj na L wl cw wt idx true false true && mm_w wn (.instanceMethod (mm_y mj)) && decide ((mm_y mj).name = "<init>") && decide (mm_rt mj = none)
  | _ => false
def mm_okN (mi pc idx : Nat) (aux : List Nat) : Bool := match aux with
  | [0, ci, N, wi, wn, wt] => (match mm_cl[ci]? with
    | some (C, _, N') => decide (N = N') && decide (N = mm_nf ci) && mm_w wi (.classLink (mm_y mi).cls idx C) && mm_w wn (.instantiable C N) && mm_w wt (.initialized C)
    | none => false)
  | [1, E, wi, is, ic, wt, ws] => decide (E = 1 ∨ E = 2 ∨ E = 3) && decide ((mm_y mi).cls = "BulbShapes") && mm_w wi (.classLink (mm_y mi).cls idx (mm_exn E)) && mm_w wt (.initialized (mm_exn E)) && decide (ic = mm_exi E) &&
      decide (decode (mm_b mi) (pc + 3) = .ok (.dup, 1)) && decide (decode (mm_b mi) (pc + 4) = .ok (.ldc is, 2)) && decide (decode (mm_b mi) (pc + 6) = .ok (.invokespecial ic, 3)) && decide (decode (mm_b mi) (pc + 9) = .ok (.athrow, 1)) &&
      (match lw_tbl[ws]? with | some (.stringRef o k _) => decide (o = (mm_y mi).cls) && decide (k = is) | _ => false) && decide (6 ≤ mm_fr mi) && decide (90 ≤ mm_lo mi) && decide (mm_hh mi = [])
  | _ => false
def mm_okNA (a : ArrayType) (aux : List Nat) : Bool := match a, aux with
  | .int, [10, wi] => mm_w wi (.arrayClass .int)
  | .char, [11, wi] => mm_w wi (.arrayClass .char)
  | .long, [12, wi] => mm_w wi (.arrayClass .long)
  | _, _ => false
def mm_okAA (mi i : Nat) (aux : List Nat) : Bool := match aux with
  | [13, wi, wo] => mm_w wi (.classLink (mm_y mi).cls i "BulbShapes$Table") && mm_w wo (.arrayOver (.object "BulbShapes$Table"))
  | [14, wi, wo] => mm_w wi (.classLink (mm_y mi).cls i "BulbShapes$Board") && mm_w wo (.arrayOver (.object "BulbShapes$Board"))
  | _ => false
def mm_ok2 (mi pc : Nat) (e : mm_En) : Bool := match e with
  | (ins, _, v, aux) => match ins with
    | .iconst n => decide (v = .int (Int32.ofInt n))
    | .bipush n => decide (v = .int (Int8.ofInt n).toInt32)
    | .sipush n => decide (v = .int (Int16.ofInt n).toInt32)
    | .lconst n => decide (v = .long (Int64.ofNat (n : Nat)))
    | .dconst n => (match n with | 0 => decide (v = .double FP.dconst0) | 1 => decide (v = .double FP.dconst1))
    | .ldc i => (match v, aux with | .int x, [wi] => mm_w wi (.constant (mm_y mi).cls i x) | _, _ => false)
    | .ldc_w i => (match v, aux with | .int x, [wi] => mm_w wi (.constant (mm_y mi).cls i x) | _, _ => false)
    | .ldc2_w i => (match v, aux with | .long x, [wi] => mm_w wi (.constantLong (mm_y mi).cls i x) | .double x, [wi] => mm_w wi (.constantDouble (mm_y mi).cls i x) | _, _ => false)
    | .iload i => decide (aux = [i])
    | .iload_n k => decide (aux = [(k : Nat)])
    | .lload i => decide (aux = [i])
    | .lload_n k => decide (aux = [(k : Nat)])
    | .dload i => decide (aux = [i])
    | .dload_n k => decide (aux = [(k : Nat)])
    | .aload i => decide (aux = [i])
    | .aload_n k => decide (aux = [(k : Nat)])
    | .istore i => decide (aux = [i])
    | .istore_n k => decide (aux = [(k : Nat)])
    | .lstore i => decide (aux = [i])
    | .lstore_n k => decide (aux = [(k : Nat)])
    | .dstore i => decide (aux = [i])
    | .dstore_n k => decide (aux = [(k : Nat)])
    | .astore i => decide (aux = [i])
    | .astore_n k => decide (aux = [(k : Nat)])
    | .iinc i n => decide (aux = [i]) && decide (v = .int (Int32.ofInt n))
    | .ifCond _ o => (match aux with | [t] => decide ((pc : Int) + o = (t : Int)) | _ => false)
    | .if_icmp _ o => (match aux with | [t] => decide ((pc : Int) + o = (t : Int)) | _ => false)
    | .goto o => (match aux with | [t] => decide ((pc : Int) + o = (t : Int)) | _ => false)
    | .tableswitch d lo hi offs => (match aux with | t :: ts => decide (lo = 0) && decide (hi + 1 = (ts.length : Int)) && decide ((pc : Int) + d = (t : Int)) && decide (ts.map (fun q => ((q : Nat) : Int)) = offs.toList.map (fun o => (pc : Int) + o)) | _ => false)
    | .lookupswitch d ps => (match aux with | t :: ts => decide ((ps.toList.zip (ps.toList.drop 1)).all (fun (a, next) => a.1 < next.1) = true) && decide ((pc : Int) + d = (t : Int)) && decide (ts.map (fun q => ((q : Nat) : Int)) = ps.toList.flatMap (fun o => [o.1, (pc : Int) + o.2])) | _ => false)
    | .getfield i => mm_okF mi i aux false
    | .putfield i => mm_okF mi i aux true
    | .getstatic i => (match aux with | [wi, 1] => mm_w wi (.fieldLinkNest (mm_y mi).cls i "BulbShapes" "SHAPES" "[I" "BulbShapes") | _ => false)
    | .newarray a => mm_okNA a aux
    | .anewarray i => mm_okAA mi i aux
    | .new i => mm_okN mi pc i aux
    | .invokevirtual i => mm_okV mi i aux
    | .invokestatic i => mm_okS mi i aux
    | .invokespecial i => mm_okP mi i aux
    | .ireturn => (match aux with | [0] => decide (mm_rt mi = some .int) | [1] => decide (mm_rt mi = some .boolean) | [2] => decide (mm_rt mi = some .char) | _ => false)
    | .lreturn => decide (mm_rt mi = some .long)
    | .dreturn => decide (mm_rt mi = some .double)
    | .return_ => decide (mm_rt mi = none)
    | _ => true
/-- how long an instruction is, but the switches -/
def mm_il : Instr → Nat
  | .bipush _ => 2 | .sipush _ => 3 | .ldc _ => 2 | .ldc_w _ => 3 | .ldc2_w _ => 3
  | .iload _ => 2 | .lload _ => 2 | .dload _ => 2 | .aload _ => 2 | .istore _ => 2 | .lstore _ => 2 | .dstore _ => 2 | .astore _ => 2
  | .iinc _ _ => 3 | .ifCond _ _ => 3 | .if_icmp _ _ => 3 | .goto _ => 3
  | .getfield _ => 3 | .putfield _ => 3 | .getstatic _ => 3 | .newarray _ => 2 | .anewarray _ => 3 | .new _ => 3
  | .invokevirtual _ => 3 | .invokestatic _ => 3 | .invokespecial _ => 3
  | _ => 1
def mm_isw : Instr → Bool
  | .tableswitch _ _ _ _ => true | .lookupswitch _ _ => true | _ => false
def mm_ok1 (mi pc : Nat) (e : mm_En) : Bool := decide (decode (mm_b mi) pc = .ok (e.1, bif mm_isw e.1 then e.2.1 - pc else mm_il e.1)) && decide (e.2.1 = pc + bif mm_isw e.1 then e.2.1 - pc else mm_il e.1)
def mm_okE (mi pc : Nat) : Bool := match mm_code mi pc with
  | none => true
  | some e => mm_ok1 mi pc e && mm_ok2 mi pc e
def mm_okA (mi : Nat) : Bool := (List.range (mm_lb mi)).all (mm_okE mi)
/-- the tables of handlers: each takes the reference into a local place -/
def mm_okH (b : ByteArray) : List (Nat × Nat × Nat × Nat) → List (Nat × Nat × Nat × Nat) → Bool
  | [], [] => true
  | (_, _, hp, ct) :: r, (E, hp', li, np) :: r' => decide (hp = hp') && decide (ct ≠ 0) && decide (E = 1 ∨ E = 2 ∨ E = 3) && decide (Cond.classLink "BulbShapesLaw" ct (mm_exn E) ∈ lw_tbl) &&
      ((decide (decode b hp = .ok (.astore li, 2)) && decide (np = hp + 2)) || (match li with | 1 => decide (decode b hp = .ok (.astore_n 1, 1)) | 2 => decide (decode b hp = .ok (.astore_n 2, 1)) | 3 => decide (decode b hp = .ok (.astore_n 3, 1)) | _ => false) && decide (np = hp + 1)) && mm_okH b r r'
  | _, _ => false
def mm_okX (mi : Nat) : Bool := mm_okH (mm_b mi) (mm_hh mi) (mm_hl mi) && (mm_hh mi = [] || decide ((mm_y mi).cls = "BulbShapesLaw")) && (mm_hl mi).all (fun q => decide (q.2.2.1 < mm_ml mi)) &&
  (mm_hh mi = [] || (List.range (mm_lb mi)).all fun pc => match mm_code mi pc with
  | some (.invokevirtual _, _, _, _) => (mm_hh mi).all (fun q => decide (q.1 ≤ pc) && decide (pc < q.2.1))
  | some (.invokestatic _, _, _, _) => false
  | some (.invokespecial _, _, _, _) => false
  | _ => true)
theorem mm_okXall : (List.range 78).all mm_okX = true := by decide +kernel
