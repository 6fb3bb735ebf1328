/-! ===== every single instruction of the mini machine is one of the real one ===== -/
section MM
variable {p : Program} {l : Launch} {e : Env} {R : Room} {s : State} {m : MethodId} {args : Array Value} {below : List Frame} {meth : Method} {c : Code} {Q : State → Prop} {D : va_G} {A : Nat → Prop} {tS b L : Nat} {xs : Nat → Int32} {ad0 : Nat → Nat} {n0 c0 s0 nL mi : Nat}
theorem mm_i_b2 {pc np : Nat} {f : Int32 → Int32 → Int32} {ls st : List Value} {h : mm_Hp} {z : mm_St} (hs : mm_b2 f np ls st h = some z)
    (row : ∀ (H : Heap) (locs : List Loc) (cells slots : Nat) (lsR : Array Slot) (rest : List Value) (x y : Int32), W p l e R s m args below meth c H locs cells slots Q (F0 m np lsR (.int (f x y) :: rest)) → W p l e R s m args below meth c H locs cells slots Q (F0 m pc lsR (.int y :: .int x :: rest)))
    (K : mm_Go p l e R s m args below meth c Q D A tS b L xs ad0 n0 c0 s0 nL z.1 z.2.1 z.2.2.1 z.2.2.2.1) : mm_Go p l e R s m args below meth c Q D A tS b L xs ad0 n0 c0 s0 nL pc ls st h := by
  unfold mm_b2 at hs
  split at hs
  · cases hs
    intro H locs cells slots lsR ad cA tys hI
    exact row _ _ _ _ _ _ _ _ (K _ _ _ _ _ _ _ _ hI)
  · cases hs
theorem mm_i_d2 {pc np : Nat} {f : Int32 → Int32 → Int32} {ls st : List Value} {h : mm_Hp} {z : mm_St} (hs : mm_d2 f np ls st h = some z) (hP : z.2.2.2.2)
    (row : ∀ (H : Heap) (locs : List Loc) (cells slots : Nat) (lsR : Array Slot) (rest : List Value) (x y : Int32), ¬ y = 0 → W p l e R s m args below meth c H locs cells slots Q (F0 m np lsR (.int (f x y) :: rest)) → W p l e R s m args below meth c H locs cells slots Q (F0 m pc lsR (.int y :: .int x :: rest)))
    (K : mm_Go p l e R s m args below meth c Q D A tS b L xs ad0 n0 c0 s0 nL z.1 z.2.1 z.2.2.1 z.2.2.2.1) : mm_Go p l e R s m args below meth c Q D A tS b L xs ad0 n0 c0 s0 nL pc ls st h := by
  unfold mm_d2 at hs
  split at hs
  · cases hs
    intro H locs cells slots lsR ad cA tys hI
    exact row _ _ _ _ _ _ _ _ hP (K _ _ _ _ _ _ _ _ hI)
  · cases hs
theorem mm_i_l2 {pc np : Nat} {f : Int64 → Int64 → Int64} {ls st : List Value} {h : mm_Hp} {z : mm_St} (hs : mm_l2 f np ls st h = some z)
    (row : ∀ (H : Heap) (locs : List Loc) (cells slots : Nat) (lsR : Array Slot) (rest : List Value) (x y : Int64), W p l e R s m args below meth c H locs cells slots Q (F0 m np lsR (.long (f x y) :: rest)) → W p l e R s m args below meth c H locs cells slots Q (F0 m pc lsR (.long y :: .long x :: rest)))
    (K : mm_Go p l e R s m args below meth c Q D A tS b L xs ad0 n0 c0 s0 nL z.1 z.2.1 z.2.2.1 z.2.2.2.1) : mm_Go p l e R s m args below meth c Q D A tS b L xs ad0 n0 c0 s0 nL pc ls st h := by
  unfold mm_l2 at hs
  split at hs
  · cases hs
    intro H locs cells slots lsR ad cA tys hI
    exact row _ _ _ _ _ _ _ _ (K _ _ _ _ _ _ _ _ hI)
  · cases hs
theorem mm_i_f2 {pc np : Nat} {f : UInt64 → UInt64 → UInt64} {ls st : List Value} {h : mm_Hp} {z : mm_St} (hs : mm_f2 f np ls st h = some z) (hP : z.2.2.2.2)
    (row : ∀ (H : Heap) (locs : List Loc) (cells slots : Nat) (lsR : Array Slot) (rest : List Value) (x y : UInt64), vf_n64 (f x y) → W p l e R s m args below meth c H locs cells slots Q (F0 m np lsR (.double (f x y) :: rest)) → W p l e R s m args below meth c H locs cells slots Q (F0 m pc lsR (.double y :: .double x :: rest)))
    (K : mm_Go p l e R s m args below meth c Q D A tS b L xs ad0 n0 c0 s0 nL z.1 z.2.1 z.2.2.1 z.2.2.2.1) : mm_Go p l e R s m args below meth c Q D A tS b L xs ad0 n0 c0 s0 nL pc ls st h := by
  unfold mm_f2 at hs
  split at hs
  · cases hs
    intro H locs cells slots lsR ad cA tys hI
    exact row _ _ _ _ _ _ _ _ hP (K _ _ _ _ _ _ _ _ hI)
  · cases hs
theorem mm_dups {v : Value} (ad : Nat → Nat) (h : mm_two v = false) : (mm_tr ad v).category = 1 := by
  cases v <;> first | rfl | cases h
set_option maxHeartbeats 8000000 in
theorem mm_sstp {pc : Nat} {z : mm_St} {e0 : mm_En} {ls st : List Value} {h : mm_Hp} (hs : mm_stp e0 ls st h = some z) (hP : z.2.2.2.2) (C : mm_Cx p l s m args meth c mi nL) (E : mm_ES A tS b L xs s) (hA : ∀ q, s.heap.size ≤ q → A q) (o1 : mm_ok1 mi pc e0 = true) (o2 : mm_ok2 mi pc e0 = true) (hF : mm_fr mi ≤ R.frames) (hL9 : mm_lo mi ≤ R.locals) (hB : mm_c z.2.2.2.1 ≤ c0 + R.cells ∧ mm_s z.2.2.2.1 ≤ s0 + R.slots)
    (K : mm_Go p l e R s m args below meth c Q D A tS b L xs ad0 n0 c0 s0 nL z.1 z.2.1 z.2.2.1 z.2.2.2.1) : mm_Go p l e R s m args below meth c Q D A tS b L xs ad0 n0 c0 s0 nL pc ls st h := by
  obtain ⟨ins, np, v, aux⟩ := e0
  have C9 := C
  obtain ⟨hx, hb, hr, hml, hnl, hown, hts, hlk, hin, hst⟩ := C9
  have hN : ∀ w ∈ mm_NW, va_Nw w s := E.2.2.2.2.2.1
  cases ins with
  | iconst n =>
    obtain ⟨hd, rfl⟩ := mm_dec o1 rfl
    have hv := of_decide_eq_true o2
    subst hv
    cases hs
    exact mm_i_const (fun _ _ _ _ _ _ k => lv_iconst hx hb hd rfl k) (fun _ => rfl) K
  | bipush n =>
    obtain ⟨hd, rfl⟩ := mm_dec o1 rfl
    have hv := of_decide_eq_true o2
    subst hv
    cases hs
    exact mm_i_const (fun _ _ _ _ _ _ k => lv_bipush hx hb hd rfl k) (fun _ => rfl) K
  | sipush n =>
    obtain ⟨hd, rfl⟩ := mm_dec o1 rfl
    have hv := of_decide_eq_true o2
    subst hv
    cases hs
    exact mm_i_const (fun _ _ _ _ _ _ k => lv_sipush hx hb hd rfl k) (fun _ => rfl) K
  | lconst n =>
    obtain ⟨hd, rfl⟩ := mm_dec o1 rfl
    have hv := of_decide_eq_true o2
    subst hv
    cases hs
    exact mm_i_const (fun _ _ _ _ _ _ k => lv_lconst hx hb hd rfl k) (fun _ => rfl) K
  | dconst n =>
    obtain ⟨hd, rfl⟩ := mm_dec o1 rfl
    cases hs
    match n, hd, o2 with
    | 0, hd, o2 =>
      have hv := of_decide_eq_true o2
      subst hv
      exact mm_i_const (fun _ _ _ _ _ _ k => lv_dconst0 hx hb hd k) (fun _ => rfl) K
    | 1, hd, o2 =>
      have hv := of_decide_eq_true o2
      subst hv
      exact mm_i_const (fun _ _ _ _ _ _ k => lv_dconst1 hx hb hd k) (fun _ => rfl) K
  | ldc i =>
    obtain ⟨hd, rfl⟩ := mm_dec o1 rfl
    cases hs
    simp only [mm_ok2] at o2
    split at o2
    · exact mm_i_const (fun _ _ _ _ _ _ k => lv_ldc hx hb hown (hts _ (mm_inG o2 rfl)) hd k) (fun _ => rfl) K
    · cases o2
  | ldc_w i =>
    obtain ⟨hd, rfl⟩ := mm_dec o1 rfl
    cases hs
    simp only [mm_ok2] at o2
    split at o2
    · exact mm_i_const (fun _ _ _ _ _ _ k => lv_ldcw hx hb hown (hts _ (mm_inG o2 rfl)) hd k) (fun _ => rfl) K
    · cases o2
  | ldc2_w i =>
    obtain ⟨hd, rfl⟩ := mm_dec o1 rfl
    cases hs
    simp only [mm_ok2] at o2
    split at o2
    · exact mm_i_const (fun _ _ _ _ _ _ k => lv_ldc2 hx hb hown (hts _ (mm_inG o2 rfl)) hd k) (fun _ => rfl) K
    · exact mm_i_const (fun _ _ _ _ _ _ k => lv_ldc2d hx hb hown (hts _ (mm_inG o2 rfl)) hd k) (fun _ => rfl) K
    · cases o2
  | iload i =>
    obtain ⟨hd, rfl⟩ := mm_dec o1 rfl
    exact mm_i_loadI hs (of_decide_eq_true o2) (fun _ _ _ _ _ _ _ hl k => lv_iload hx hb hd hl k) K
  | iload_n i =>
    obtain ⟨hd, rfl⟩ := mm_dec o1 rfl
    exact mm_i_loadI hs (of_decide_eq_true o2) (fun _ _ _ _ _ _ _ hl k => lv_iload_n hx hb hd rfl hl k) K
  | lload i =>
    obtain ⟨hd, rfl⟩ := mm_dec o1 rfl
    exact mm_i_loadL hs (of_decide_eq_true o2) (fun _ _ _ _ _ _ _ hl k => lv_lload hx hb hd hl k) K
  | lload_n i =>
    obtain ⟨hd, rfl⟩ := mm_dec o1 rfl
    exact mm_i_loadL hs (of_decide_eq_true o2) (fun _ _ _ _ _ _ _ hl k => lv_lload_n hx hb hd rfl hl k) K
  | dload i =>
    obtain ⟨hd, rfl⟩ := mm_dec o1 rfl
    exact mm_i_loadD hs (of_decide_eq_true o2) (fun _ _ _ _ _ _ _ hl k => lv_dload hx hb hd hl k) K
  | dload_n i =>
    obtain ⟨hd, rfl⟩ := mm_dec o1 rfl
    exact mm_i_loadD hs (of_decide_eq_true o2) (fun _ _ _ _ _ _ _ hl k => lv_dload_n hx hb hd rfl hl k) K
  | aload i =>
    obtain ⟨hd, rfl⟩ := mm_dec o1 rfl
    exact mm_i_loadA hs (of_decide_eq_true o2) (fun _ _ _ _ _ _ _ hl k => lv_aload hx hb hd hl k) K
  | aload_n i =>
    obtain ⟨hd, rfl⟩ := mm_dec o1 rfl
    exact mm_i_loadA hs (of_decide_eq_true o2) (fun _ _ _ _ _ _ _ hl k => lv_aload_n hx hb hd rfl hl k) K
  | istore i =>
    obtain ⟨hd, rfl⟩ := mm_dec o1 rfl
    exact mm_i_stoI hs hP (of_decide_eq_true o2) (fun _ _ _ _ _ _ _ _ hl hi k => lv_istore hx hb hd hl hi rfl (fun lsR' h' => k lsR' h')) K
  | istore_n i =>
    obtain ⟨hd, rfl⟩ := mm_dec o1 rfl
    exact mm_i_stoI hs hP (of_decide_eq_true o2) (fun _ _ _ _ _ _ _ _ hl hi k => lv_istore_n hx hb hd rfl hl hi rfl (fun lsR' h' => k lsR' h')) K
  | lstore i =>
    obtain ⟨hd, rfl⟩ := mm_dec o1 rfl
    exact mm_i_stoL hs hP (of_decide_eq_true o2) (fun _ _ _ _ _ _ _ _ hl hi k => lv_lstore hx hb hd hl hi rfl (fun lsR' h' => k lsR' h')) K
  | lstore_n i =>
    obtain ⟨hd, rfl⟩ := mm_dec o1 rfl
    exact mm_i_stoL hs hP (of_decide_eq_true o2) (fun _ _ _ _ _ _ _ _ hl hi k => lv_lstore_n hx hb hd rfl hl hi rfl (fun lsR' h' => k lsR' h')) K
  | dstore i =>
    obtain ⟨hd, rfl⟩ := mm_dec o1 rfl
    exact mm_i_stoD hs hP (of_decide_eq_true o2) (fun _ _ _ _ _ _ _ _ hl hi k => lv_dstore hx hb hd hl hi rfl (fun lsR' h' => k lsR' h')) K
  | dstore_n i =>
    obtain ⟨hd, rfl⟩ := mm_dec o1 rfl
    exact mm_i_stoD hs hP (of_decide_eq_true o2) (fun _ _ _ _ _ _ _ _ hl hi k => lv_dstore_n hx hb hd rfl hl hi rfl (fun lsR' h' => k lsR' h')) K
  | astore i =>
    obtain ⟨hd, rfl⟩ := mm_dec o1 rfl
    exact mm_i_stoA hs hP (of_decide_eq_true o2) (fun _ _ _ _ _ _ _ _ hl hi k => lv_astore hx hb hd hl hi rfl (fun lsR' h' => k lsR' h')) K
  | astore_n i =>
    obtain ⟨hd, rfl⟩ := mm_dec o1 rfl
    exact mm_i_stoA hs hP (of_decide_eq_true o2) (fun _ _ _ _ _ _ _ _ hl hi k => lv_astore_n hx hb hd rfl hl hi rfl (fun lsR' h' => k lsR' h')) K
  | iinc i n =>
    obtain ⟨hd, rfl⟩ := mm_dec o1 rfl
    simp only [mm_ok2, Bool.and_eq_true, decide_eq_true_eq] at o2
    exact mm_i_inc hs hP o2.1 o2.2 hx hb hd rfl K
  | iadd =>
    obtain ⟨hd, rfl⟩ := mm_dec o1 rfl
    exact mm_i_b2 (f := fun x y => x + y) hs (fun _ _ _ _ _ _ _ _ k => lv_iadd hx hb hd k) K
  | isub =>
    obtain ⟨hd, rfl⟩ := mm_dec o1 rfl
    exact mm_i_b2 (f := fun x y => x - y) hs (fun _ _ _ _ _ _ _ _ k => lv_isub hx hb hd k) K
  | imul =>
    obtain ⟨hd, rfl⟩ := mm_dec o1 rfl
    exact mm_i_b2 (f := fun x y => x * y) hs (fun _ _ _ _ _ _ _ _ k => lv_imul hx hb hd k) K
  | iand =>
    obtain ⟨hd, rfl⟩ := mm_dec o1 rfl
    exact mm_i_b2 (f := fun x y => x &&& y) hs (fun _ _ _ _ _ _ _ _ k => lv_iand hx hb hd k) K
  | ior =>
    obtain ⟨hd, rfl⟩ := mm_dec o1 rfl
    exact mm_i_b2 (f := fun x y => x ||| y) hs (fun _ _ _ _ _ _ _ _ k => lv_ior hx hb hd k) K
  | ixor =>
    obtain ⟨hd, rfl⟩ := mm_dec o1 rfl
    exact mm_i_b2 (f := fun x y => x ^^^ y) hs (fun _ _ _ _ _ _ _ _ k => lv_ixor hx hb hd k) K
  | ishl =>
    obtain ⟨hd, rfl⟩ := mm_dec o1 rfl
    exact mm_i_b2 (f := fun x y => x <<< (y &&& 31)) hs (fun _ _ _ _ _ _ _ _ k => lv_ishl hx hb hd k) K
  | iushr =>
    obtain ⟨hd, rfl⟩ := mm_dec o1 rfl
    exact mm_i_b2 (f := fun x y => (x.toUInt32 >>> (y.toUInt32 &&& Int32.toUInt32 31)).toInt32) hs (fun _ _ _ _ _ _ _ _ k => lv_iushr hx hb hd rfl k) K
  | ishr =>
    obtain ⟨hd, rfl⟩ := mm_dec o1 rfl
    exact mm_i_b2 (f := fun x y => x >>> (y &&& 31)) hs (fun _ _ _ _ _ _ _ _ k => lv_ishr hx hb hd k) K
  | idiv =>
    obtain ⟨hd, rfl⟩ := mm_dec o1 rfl
    exact mm_i_d2 (f := fun x y => x / y) hs hP (fun _ _ _ _ _ _ _ _ h0 k => lv_idiv hx hb hd h0 k) K
  | irem =>
    obtain ⟨hd, rfl⟩ := mm_dec o1 rfl
    exact mm_i_d2 (f := fun x y => x - x / y * y) hs hP (fun _ _ _ _ _ _ _ _ h0 k => lv_irem hx hb hd h0 k) K
  | ladd =>
    obtain ⟨hd, rfl⟩ := mm_dec o1 rfl
    exact mm_i_l2 (f := fun x y => x + y) hs (fun _ _ _ _ _ _ _ _ k => lv_ladd hx hb hd k) K
  | lmul =>
    obtain ⟨hd, rfl⟩ := mm_dec o1 rfl
    exact mm_i_l2 (f := fun x y => x * y) hs (fun _ _ _ _ _ _ _ _ k => lv_lmul hx hb hd k) K
  | dmul =>
    obtain ⟨hd, rfl⟩ := mm_dec o1 rfl
    exact mm_i_f2 (f := FP.dmul) hs hP (fun _ _ _ _ _ _ _ _ h0 k => lv_dmul hx hb hd h0 k) K
  | dsub =>
    obtain ⟨hd, rfl⟩ := mm_dec o1 rfl
    exact mm_i_f2 (f := FP.dsub) hs hP (fun _ _ _ _ _ _ _ _ h0 k => lv_dsub hx hb hd h0 k) K
  | ddiv =>
    obtain ⟨hd, rfl⟩ := mm_dec o1 rfl
    exact mm_i_f2 (f := FP.ddiv) hs hP (fun _ _ _ _ _ _ _ _ h0 k => lv_ddiv hx hb hd h0 k) K
  | lshl =>
    obtain ⟨hd, rfl⟩ := mm_dec o1 rfl
    simp only [mm_stp, mm_lsh] at hs
    split at hs
    · cases hs
      intro H locs cells slots lsR ad cA tys hI
      exact lv_lshl hx hb hd rfl (K _ _ _ _ _ _ _ _ hI)
    · cases hs
  | lcmp =>
    obtain ⟨hd, rfl⟩ := mm_dec o1 rfl
    simp only [mm_stp, mm_lcm] at hs
    split at hs
    · cases hs
      intro H locs cells slots lsR ad cA tys hI
      exact W.lcmp hx hb hd (K _ _ _ _ _ _ _ _ hI)
    · cases hs
  | dcmp op =>
    obtain ⟨hd, rfl⟩ := mm_dec o1 rfl
    simp only [mm_stp, mm_dcm] at hs
    split at hs
    · cases hs
      intro H locs cells slots lsR ad cA tys hI
      exact lv_dcmp hx hb hd (K _ _ _ _ _ _ _ _ hI)
    · cases hs
  | i2l =>
    obtain ⟨hd, rfl⟩ := mm_dec o1 rfl
    simp only [mm_stp, mm_i2l] at hs
    split at hs
    · cases hs
      intro H locs cells slots lsR ad cA tys hI
      exact lv_i2l hx hb hd rfl (K _ _ _ _ _ _ _ _ hI)
    · cases hs
  | i2d =>
    obtain ⟨hd, rfl⟩ := mm_dec o1 rfl
    simp only [mm_stp, mm_i2d] at hs
    split at hs
    · cases hs
      intro H locs cells slots lsR ad cA tys hI
      exact lv_i2d hx hb hd (K _ _ _ _ _ _ _ _ hI)
    · cases hs
  | i2c =>
    obtain ⟨hd, rfl⟩ := mm_dec o1 rfl
    simp only [mm_stp, mm_i2c] at hs
    split at hs
    · cases hs
      intro H locs cells slots lsR ad cA tys hI
      exact lv_i2c hx hb hd rfl (K _ _ _ _ _ _ _ _ hI)
    · cases hs
  | d2l =>
    obtain ⟨hd, rfl⟩ := mm_dec o1 rfl
    simp only [mm_stp, mm_d2l] at hs
    split at hs
    · cases hs
      intro H locs cells slots lsR ad cA tys hI
      exact lv_d2l hx hb hd (K _ _ _ _ _ _ _ _ hI)
    · cases hs
  | dup =>
    obtain ⟨hd, rfl⟩ := mm_dec o1 rfl
    simp only [mm_stp, mm_dup] at hs
    split at hs
    · rename_i v9 r9
      cases h2 : mm_two v9 with
      | true => rw [h2] at hs; cases hs
      | false =>
        rw [h2] at hs
        cases hs
        intro H locs cells slots lsR ad cA tys hI
        exact lv_dup hx hb hd (mm_dups ad h2) (K _ _ _ _ _ _ _ _ hI)
    · cases hs
  | dup2 =>
    obtain ⟨hd, rfl⟩ := mm_dec o1 rfl
    simp only [mm_stp, mm_dup2] at hs
    split at hs
    · rename_i v9 w9 r9
      cases h2 : mm_two v9 with
      | true => rw [h2] at hs; cases hs
      | false =>
        cases h3 : mm_two w9 with
        | true => rw [h2, h3] at hs; cases hs
        | false =>
          rw [h2, h3] at hs
          cases hs
          intro H locs cells slots lsR ad cA tys hI
          exact lv_dup2_11 hx hb hd (mm_dups ad h2) (mm_dups ad h3) (K _ _ _ _ _ _ _ _ hI)
    · cases hs
  | pop =>
    obtain ⟨hd, rfl⟩ := mm_dec o1 rfl
    simp only [mm_stp, mm_pop] at hs
    split at hs
    · rename_i v9 r9
      cases h2 : mm_two v9 with
      | true => rw [h2] at hs; cases hs
      | false =>
        rw [h2] at hs
        cases hs
        intro H locs cells slots lsR ad cA tys hI
        exact lv_pop hx hb hd (mm_dups ad h2) (K _ _ _ _ _ _ _ _ hI)
    · cases hs
  | goto o =>
    obtain ⟨hd, rfl⟩ := mm_dec o1 rfl
    simp only [mm_ok2] at o2
    simp only [mm_stp] at hs
    split at o2
    · cases hs
      intro H locs cells slots lsR ad cA tys hI
      exact lv_goto hx hb hd (of_decide_eq_true o2) (K _ _ _ _ _ _ _ _ hI)
    · cases o2
  | getfield i =>
    obtain ⟨hd, rfl⟩ := mm_dec o1 rfl
    exact mm_i_gf hs hP C hN o2 hd rfl K
  | putfield i =>
    obtain ⟨hd, rfl⟩ := mm_dec o1 rfl
    exact mm_i_pf hs hP C hN o2 hd rfl K
  | getstatic i =>
    obtain ⟨hd, rfl⟩ := mm_dec o1 rfl
    cases hs
    simp only [mm_ok2] at o2
    split at o2
    · exact mm_i_gs C E o2 hd rfl K
    · cases o2
  | iaload =>
    obtain ⟨hd, rfl⟩ := mm_dec o1 rfl
    exact mm_i_ial hs hP C E hd rfl K
  | caload =>
    obtain ⟨hd, rfl⟩ := mm_dec o1 rfl
    exact mm_i_cal hs hP C hd rfl K
  | laload =>
    obtain ⟨hd, rfl⟩ := mm_dec o1 rfl
    exact mm_i_lal hs hP C hd rfl K
  | aaload =>
    obtain ⟨hd, rfl⟩ := mm_dec o1 rfl
    exact mm_i_aal hs hP C hd rfl K
  | iastore =>
    obtain ⟨hd, rfl⟩ := mm_dec o1 rfl
    exact mm_i_ias hs hP C hd rfl K
  | castore =>
    obtain ⟨hd, rfl⟩ := mm_dec o1 rfl
    exact mm_i_cas hs hP C hd rfl K
  | lastore =>
    obtain ⟨hd, rfl⟩ := mm_dec o1 rfl
    exact mm_i_las hs hP C hd rfl K
  | aastore =>
    obtain ⟨hd, rfl⟩ := mm_dec o1 rfl
    exact mm_i_aas hs hP C hd rfl K
  | arraylength =>
    obtain ⟨hd, rfl⟩ := mm_dec o1 rfl
    exact mm_i_alen hs hP C E hd rfl K
  | newarray a =>
    obtain ⟨hd, rfl⟩ := mm_dec o1 rfl
    exact mm_i_nar hs hP C hA o2 hd rfl hB K
  | anewarray i =>
    obtain ⟨hd, rfl⟩ := mm_dec o1 rfl
    exact mm_i_ana hs hP C E hA o2 hd rfl hB K
  | new i =>
    obtain ⟨hd, rfl⟩ := mm_dec o1 rfl
    exact mm_i_new hs hP C hA o2 hd rfl hB K
  | invokespecial i =>
    obtain ⟨hd, rfl⟩ := mm_dec o1 rfl
    exact mm_i_obj hs hP C o2 hd rfl hF hL9 K
  | invokestatic i =>
    obtain ⟨hd, rfl⟩ := mm_dec o1 rfl
    exact mm_i_nat hs hP C o2 hd rfl hF hL9 K
  | _ => cases hs
end MM
