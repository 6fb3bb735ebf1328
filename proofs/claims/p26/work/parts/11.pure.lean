/-! ===== single instructions, 1: constants, locals, arithmetic ===== -/
section MM
variable {p : Program} {l : Launch} {e : Env} {R : Room} {s : State} {m : MethodId} {args : Array Value} {below : List Frame} {meth : Method} {c : Code} {Q : State → Prop} {D : va_G} {A : Nat → Prop} {tS b L : Nat} {xs : Nat → Int32} {ad0 : Nat → Nat} {n0 c0 s0 nL mi : Nat}
theorem mm_dec {mi pc np : Nat} {ins : Instr} {v : Value} {aux : List Nat} (h : mm_ok1 mi pc (ins, np, v, aux) = true) (hs : mm_isw ins = false) : decode (mm_b mi) pc = .ok (ins, mm_il ins) ∧ np = pc + mm_il ins := by
  unfold mm_ok1 at h
  simp only [hs, cond_false, Bool.and_eq_true, decide_eq_true_eq] at h
  exact h
theorem mm_i_const {pc pc' : Nat} {ls st : List Value} {h : mm_Hp} {v : Value}
    (row : ∀ (H : Heap) (locs : List Loc) (cells slots : Nat) (lsR : Array Slot) (rest : List Value), W p l e R s m args below meth c H locs cells slots Q (F0 m pc' lsR (v :: rest)) → W p l e R s m args below meth c H locs cells slots Q (F0 m pc lsR rest)) (hv : ∀ ad, mm_tr ad v = v)
    (K : mm_Go p l e R s m args below meth c Q D A tS b L xs ad0 n0 c0 s0 nL pc' ls (v :: st) h) : mm_Go p l e R s m args below meth c Q D A tS b L xs ad0 n0 c0 s0 nL pc ls st h := by
  intro H locs cells slots lsR ad cA tys hI
  refine row _ _ _ _ _ _ ?_
  have k := K _ _ _ _ _ _ _ _ hI
  rw [List.map_cons, hv] at k
  exact k
theorem mm_i_loadI {pc np : Nat} {aux : List Nat} {ls st : List Value} {h : mm_Hp} {z : mm_St} {i : Nat} (hs : mm_ldI np aux ls st h = some z) (ha : aux = [i])
    (row : ∀ (H : Heap) (locs : List Loc) (cells slots : Nat) (lsR : Array Slot) (rest : List Value) (x : Int32), lsR[i]? = some (.val (.int x)) → W p l e R s m args below meth c H locs cells slots Q (F0 m np lsR (.int x :: rest)) → W p l e R s m args below meth c H locs cells slots Q (F0 m pc lsR rest))
    (K : mm_Go p l e R s m args below meth c Q D A tS b L xs ad0 n0 c0 s0 nL z.1 z.2.1 z.2.2.1 z.2.2.2.1) : mm_Go p l e R s m args below meth c Q D A tS b L xs ad0 n0 c0 s0 nL pc ls st h := by
  subst ha
  simp only [mm_ldI] at hs
  split at hs
  case h_1 x hx =>
    cases hs
    intro H locs cells slots lsR ad cA tys hI
    exact row _ _ _ _ _ _ _ (hI.2.2.1.get hx (by simp)) (K _ _ _ _ _ _ _ _ hI)
  case h_2 => cases hs
theorem mm_i_loadL {pc np : Nat} {aux : List Nat} {ls st : List Value} {h : mm_Hp} {z : mm_St} {i : Nat} (hs : mm_ldL np aux ls st h = some z) (ha : aux = [i])
    (row : ∀ (H : Heap) (locs : List Loc) (cells slots : Nat) (lsR : Array Slot) (rest : List Value) (x : Int64), lsR[i]? = some (.val (.long x)) → W p l e R s m args below meth c H locs cells slots Q (F0 m np lsR (.long x :: rest)) → W p l e R s m args below meth c H locs cells slots Q (F0 m pc lsR rest))
    (K : mm_Go p l e R s m args below meth c Q D A tS b L xs ad0 n0 c0 s0 nL z.1 z.2.1 z.2.2.1 z.2.2.2.1) : mm_Go p l e R s m args below meth c Q D A tS b L xs ad0 n0 c0 s0 nL pc ls st h := by
  subst ha
  simp only [mm_ldL] at hs
  split at hs
  case h_1 x hx =>
    cases hs
    intro H locs cells slots lsR ad cA tys hI
    exact row _ _ _ _ _ _ _ (hI.2.2.1.get hx (by simp)) (K _ _ _ _ _ _ _ _ hI)
  case h_2 => cases hs
theorem mm_i_loadD {pc np : Nat} {aux : List Nat} {ls st : List Value} {h : mm_Hp} {z : mm_St} {i : Nat} (hs : mm_ldD np aux ls st h = some z) (ha : aux = [i])
    (row : ∀ (H : Heap) (locs : List Loc) (cells slots : Nat) (lsR : Array Slot) (rest : List Value) (x : UInt64), lsR[i]? = some (.val (.double x)) → W p l e R s m args below meth c H locs cells slots Q (F0 m np lsR (.double x :: rest)) → W p l e R s m args below meth c H locs cells slots Q (F0 m pc lsR rest))
    (K : mm_Go p l e R s m args below meth c Q D A tS b L xs ad0 n0 c0 s0 nL z.1 z.2.1 z.2.2.1 z.2.2.2.1) : mm_Go p l e R s m args below meth c Q D A tS b L xs ad0 n0 c0 s0 nL pc ls st h := by
  subst ha
  simp only [mm_ldD] at hs
  split at hs
  case h_1 x hx =>
    cases hs
    intro H locs cells slots lsR ad cA tys hI
    exact row _ _ _ _ _ _ _ (hI.2.2.1.get hx (by simp)) (K _ _ _ _ _ _ _ _ hI)
  case h_2 => cases hs
theorem mm_i_loadA {pc np : Nat} {aux : List Nat} {ls st : List Value} {h : mm_Hp} {z : mm_St} {i : Nat} (hs : mm_ldA np aux ls st h = some z) (ha : aux = [i])
    (row : ∀ (H : Heap) (locs : List Loc) (cells slots : Nat) (lsR : Array Slot) (rest : List Value) (x : Nat), lsR[i]? = some (.val (.ref x)) → W p l e R s m args below meth c H locs cells slots Q (F0 m np lsR (.ref x :: rest)) → W p l e R s m args below meth c H locs cells slots Q (F0 m pc lsR rest))
    (K : mm_Go p l e R s m args below meth c Q D A tS b L xs ad0 n0 c0 s0 nL z.1 z.2.1 z.2.2.1 z.2.2.2.1) : mm_Go p l e R s m args below meth c Q D A tS b L xs ad0 n0 c0 s0 nL pc ls st h := by
  subst ha
  simp only [mm_ldA] at hs
  split at hs
  case h_1 x hx =>
    cases hs
    intro H locs cells slots lsR ad cA tys hI
    exact row _ _ _ _ _ _ _ (hI.2.2.1.get hx (by simp)) (K _ _ _ _ _ _ _ _ hI)
  case h_2 => cases hs
abbrev mm_f1 (i : Nat) (lv : List (Nat × Value)) : List (Nat × Value) := lv.filter (fun q => !(q.1 == i) && !(q.1 + 1 == i && q.2.category == 2))
abbrev mm_f2' (i : Nat) (lv : List (Nat × Value)) : List (Nat × Value) := lv.filter (fun q => !(q.1 == i) && (!(q.1 == i + 1) && !(q.1 + 1 == i && q.2.category == 2)))
theorem mm_i_stoI {pc np : Nat} {aux : List Nat} {ls st : List Value} {h : mm_Hp} {z : mm_St} {i : Nat} (hs : mm_stI np aux ls st h = some z) (hP : z.2.2.2.2) (ha : aux = [i])
    (row : ∀ (H : Heap) (locs : List Loc) (cells slots : Nat) (lsR : Array Slot) (rest : List Value) (x : Int32) (lv : List (Nat × Value)), lv_has lsR nL lv → i < nL → (∀ lsR' : Array Slot, lv_has lsR' nL ((i, .int x) :: mm_f1 i lv) → W p l e R s m args below meth c H locs cells slots Q (F0 m np lsR' rest)) → W p l e R s m args below meth c H locs cells slots Q (F0 m pc lsR (.int x :: rest)))
    (K : mm_Go p l e R s m args below meth c Q D A tS b L xs ad0 n0 c0 s0 nL z.1 z.2.1 z.2.2.1 z.2.2.2.1) : mm_Go p l e R s m args below meth c Q D A tS b L xs ad0 n0 c0 s0 nL pc ls st h := by
  subst ha
  unfold mm_stI at hs
  split at hs
  case h_1 i' x r heq =>
    cases heq
    cases hp : mm_pre ls i with
    | true => rw [hp] at hs; cases hs
    | false =>
      rw [hp] at hs
      cases hs
      intro H locs cells slots lsR ad cA tys hI
      exact row _ _ _ _ _ _ _ _ hI.2.2.1.1 (by rw [← hI.2.2.1.2]; exact hP) (fun lsR' h' => K _ _ _ _ _ _ _ _ (hI.loc (hI.2.2.1.set1 hp hP h')))
  case h_2 => cases hs
theorem mm_i_stoA {pc np : Nat} {aux : List Nat} {ls st : List Value} {h : mm_Hp} {z : mm_St} {i : Nat} (hs : mm_stA np aux ls st h = some z) (hP : z.2.2.2.2) (ha : aux = [i])
    (row : ∀ (H : Heap) (locs : List Loc) (cells slots : Nat) (lsR : Array Slot) (rest : List Value) (x : Nat) (lv : List (Nat × Value)), lv_has lsR nL lv → i < nL → (∀ lsR' : Array Slot, lv_has lsR' nL ((i, .ref x) :: mm_f1 i lv) → W p l e R s m args below meth c H locs cells slots Q (F0 m np lsR' rest)) → W p l e R s m args below meth c H locs cells slots Q (F0 m pc lsR (.ref x :: rest)))
    (K : mm_Go p l e R s m args below meth c Q D A tS b L xs ad0 n0 c0 s0 nL z.1 z.2.1 z.2.2.1 z.2.2.2.1) : mm_Go p l e R s m args below meth c Q D A tS b L xs ad0 n0 c0 s0 nL pc ls st h := by
  subst ha
  unfold mm_stA at hs
  split at hs
  case h_1 i' x r heq =>
    cases heq
    cases hp : mm_pre ls i with
    | true => rw [hp] at hs; cases hs
    | false =>
      rw [hp] at hs
      cases hs
      intro H locs cells slots lsR ad cA tys hI
      exact row _ _ _ _ _ _ _ _ hI.2.2.1.1 (by rw [← hI.2.2.1.2]; exact hP) (fun lsR' h' => K _ _ _ _ _ _ _ _ (hI.loc (hI.2.2.1.set1 hp hP h')))
  case h_2 => cases hs
theorem mm_i_stoL {pc np : Nat} {aux : List Nat} {ls st : List Value} {h : mm_Hp} {z : mm_St} {i : Nat} (hs : mm_stL np aux ls st h = some z) (hP : z.2.2.2.2) (ha : aux = [i])
    (row : ∀ (H : Heap) (locs : List Loc) (cells slots : Nat) (lsR : Array Slot) (rest : List Value) (x : Int64) (lv : List (Nat × Value)), lv_has lsR nL lv → i + 1 < nL → (∀ lsR' : Array Slot, lv_has lsR' nL ((i, .long x) :: mm_f2' i lv) → W p l e R s m args below meth c H locs cells slots Q (F0 m np lsR' rest)) → W p l e R s m args below meth c H locs cells slots Q (F0 m pc lsR (.long x :: rest)))
    (K : mm_Go p l e R s m args below meth c Q D A tS b L xs ad0 n0 c0 s0 nL z.1 z.2.1 z.2.2.1 z.2.2.2.1) : mm_Go p l e R s m args below meth c Q D A tS b L xs ad0 n0 c0 s0 nL pc ls st h := by
  subst ha
  unfold mm_stL at hs
  split at hs
  case h_1 i' x r heq =>
    cases heq
    cases hp : mm_pre ls i with
    | true => rw [hp] at hs; cases hs
    | false =>
      rw [hp] at hs
      cases hs
      intro H locs cells slots lsR ad cA tys hI
      exact row _ _ _ _ _ _ _ _ hI.2.2.1.1 (by rw [← hI.2.2.1.2]; exact hP) (fun lsR' h' => K _ _ _ _ _ _ _ _ (hI.loc (hI.2.2.1.set2 hp hP h')))
  case h_2 => cases hs
theorem mm_i_stoD {pc np : Nat} {aux : List Nat} {ls st : List Value} {h : mm_Hp} {z : mm_St} {i : Nat} (hs : mm_stD np aux ls st h = some z) (hP : z.2.2.2.2) (ha : aux = [i])
    (row : ∀ (H : Heap) (locs : List Loc) (cells slots : Nat) (lsR : Array Slot) (rest : List Value) (x : UInt64) (lv : List (Nat × Value)), lv_has lsR nL lv → i + 1 < nL → (∀ lsR' : Array Slot, lv_has lsR' nL ((i, .double x) :: mm_f2' i lv) → W p l e R s m args below meth c H locs cells slots Q (F0 m np lsR' rest)) → W p l e R s m args below meth c H locs cells slots Q (F0 m pc lsR (.double x :: rest)))
    (K : mm_Go p l e R s m args below meth c Q D A tS b L xs ad0 n0 c0 s0 nL z.1 z.2.1 z.2.2.1 z.2.2.2.1) : mm_Go p l e R s m args below meth c Q D A tS b L xs ad0 n0 c0 s0 nL pc ls st h := by
  subst ha
  unfold mm_stD at hs
  split at hs
  case h_1 i' x r heq =>
    cases heq
    cases hp : mm_pre ls i with
    | true => rw [hp] at hs; cases hs
    | false =>
      rw [hp] at hs
      cases hs
      intro H locs cells slots lsR ad cA tys hI
      exact row _ _ _ _ _ _ _ _ hI.2.2.1.1 (by rw [← hI.2.2.1.2]; exact hP) (fun lsR' h' => K _ _ _ _ _ _ _ _ (hI.loc (hI.2.2.1.set2 hp hP h')))
  case h_2 => cases hs
theorem mm_i_inc {pc np : Nat} {aux : List Nat} {ls st : List Value} {h : mm_Hp} {z : mm_St} {i : Nat} {n : Int} {v : Value} (hs : mm_inc np v aux ls st h = some z) (hP : z.2.2.2.2) (ha : aux = [i]) (hv : v = .int (Int32.ofInt n)) (hx : p.tables.exec = Jvm.exec) (hb : c.code = mm_b mi) (hd : decode (mm_b mi) pc = .ok (.iinc i n, 3)) (hnp : np = pc + 3)
    (K : mm_Go p l e R s m args below meth c Q D A tS b L xs ad0 n0 c0 s0 nL z.1 z.2.1 z.2.2.1 z.2.2.2.1) : mm_Go p l e R s m args below meth c Q D A tS b L xs ad0 n0 c0 s0 nL pc ls st h := by
  subst ha
  subst hv
  simp only [mm_inc] at hs
  split at hs
  case h_1 x hg =>
    cases hp : mm_pre ls i with
    | true => rw [hp] at hs; cases hs
    | false =>
      rw [hp] at hs
      cases hs
      intro H locs cells slots lsR ad cA tys hI
      have hm : (i, Value.int x) ∈ mm_asc ad 0 ls := (mm_asc_mem ls 0 (i, .int x)).mpr ⟨i, by simp, by rw [hg]; simp, by rw [hg]; rfl⟩
      obtain ⟨k, hk, hk2⟩ := List.getElem_of_mem hm
      subst hnp
      exact lv_iinc hx hb hd hI.2.2.1.1 (k := k) (by rw [List.getElem?_eq_getElem hk, hk2]) rfl (by rw [← hI.2.2.1.2]; exact hP) rfl (fun lsR' h' => K _ _ _ _ _ _ _ _ (hI.loc (hI.2.2.1.set1 (v := .int (x + Int32.ofInt n)) hp hP h')))
  case h_2 => cases hs
end MM
