/-! ===== a walk, whole ===== -/
theorem mm_lsw_off {pc d : Nat} {dflt : Int} {x : Int32} (hd : (pc : Int) + dflt = (d : Int)) : ∀ (ps : List (Int × Int)) (ts : List Nat), ts.map (fun q => ((q : Nat) : Int)) = ps.flatMap (fun o => [o.1, (pc : Int) + o.2]) → (pc : Int) + Op.lookupswitch.offset ps dflt x.toInt = ((mm_lsw d ts x : Nat) : Int)
  | [], ts, h => by
    have : ts = [] := by simpa using h
    subst this
    rw [Op.lookupswitch.offset_nil]
    exact hd
  | (a, o) :: r, [], h => by simp at h
  | (a, o) :: r, [t], h => by simp at h
  | (a, o) :: r, t :: u :: ts, h => by
    simp only [List.map_cons, List.flatMap_cons, List.cons_append, List.nil_append, List.cons.injEq] at h
    obtain ⟨h1, h2, h3⟩ := h
    rw [Op.lookupswitch.offset_cons]
    show _ = (((if x.toInt = (t : Int) then u else mm_lsw d ts x) : Nat) : Int)
    by_cases hq : a = x.toInt
    · rw [if_pos hq, if_pos (by rw [h1, hq]), h2]
    · rw [if_neg hq, if_neg (by rw [h1]; exact fun q => hq q.symm)]
      exact mm_lsw_off hd r ts h3
section MM
variable {p : Program} {l : Launch} {e : Env} {R : Room} {s : State} {m : MethodId} {args : Array Value} {below : List Frame} {meth : Method} {c : Code} {Q : State → Prop} {D : va_G} {A : Nat → Prop} {tS b L : Nat} {xs : Nat → Int32} {ad0 : Nat → Nat} {n0 c0 s0 nL mi : Nat}
/-- what the end of the walk must give: a value handed back, or an exception thrown -/
def mm_Fin (p : Program) (l : Launch) (e : Env) (R : Room) (s : State) (m : MethodId) (args : Array Value) (below : List Frame) (meth : Method) (c : Code) (Q : State → Prop) (D : va_G) (A : Nat → Prop) (tS b L : Nat) (xs : Nat → Int32) (ad0 : Nat → Nat) (n0 c0 s0 nL mi : Nat) (r : mm_Res) : Prop :=
  (∀ pc ls x h ty, decode (mm_b mi) pc = .ok (.ireturn, 1) → mm_rt mi = some ty → narrow ty (.int x) = .int x → r = ((0, some (.int x)), h) → mm_Go p l e R s m args below meth c Q D A tS b L xs ad0 n0 c0 s0 nL pc ls [.int x] h) ∧
  (∀ pc ls x h, decode (mm_b mi) pc = .ok (.lreturn, 1) → mm_rt mi = some .long → r = ((0, some (.long x)), h) → mm_Go p l e R s m args below meth c Q D A tS b L xs ad0 n0 c0 s0 nL pc ls [.long x] h) ∧
  (∀ pc ls x h, decode (mm_b mi) pc = .ok (.dreturn, 1) → mm_rt mi = some .double → r = ((0, some (.double x)), h) → mm_Go p l e R s m args below meth c Q D A tS b L xs ad0 n0 c0 s0 nL pc ls [.double x] h) ∧
  (∀ pc ls h, decode (mm_b mi) pc = .ok (.return_, 1) → mm_rt mi = none → r = ((0, none), h) → mm_Go p l e R s m args below meth c Q D A tS b L xs ad0 n0 c0 s0 nL pc ls [] h) ∧
  (∀ pc ls st h i E aux, decode (mm_b mi) pc = .ok (.new i, 3) → mm_okN mi pc i (1 :: E :: aux) = true → (st.map Value.category).sum ≤ 8 → r = ((E, none), mm_ex h) → mm_Go p l e R s m args below meth c Q D A tS b L xs ad0 n0 c0 s0 nL pc ls st h)
set_option maxHeartbeats 4000000 in
theorem mm_walk {N : Nat} {r : mm_Res} (C : mm_Cx p l s m args meth c mi nL) (Es : mm_ES A tS b L xs s) (hA : ∀ q, s.heap.size ≤ q → A q) (hT : mm_hl mi ≠ [] → c.exceptionTable.toList = tableOf (mm_hh mi))
    (hF : mm_fr mi ≤ R.frames) (hL9 : mm_lo mi ≤ R.locals) (hB : mm_c r.2 ≤ c0 + R.cells ∧ mm_s r.2 ≤ s0 + R.slots)
    (IHc : ∀ n, n < N → ∀ mj av h r', mm_Rn n mj 0 (mm_ent (mm_ml mj) av) [] h r' → mj < 77 → (mm_spread av).length ≤ mm_ml mj → mm_Con l D tS b L xs mj av h r')
    (Fin : mm_Fin p l e R s m args below meth c Q D A tS b L xs ad0 n0 c0 s0 nL mi r) :
    ∀ n, n ≤ N → ∀ pc ls st h, mm_Rn n mi pc ls st h r → mm_Go p l e R s m args below meth c Q D A tS b L xs ad0 n0 c0 s0 nL pc ls st h := by
  intro n
  induction n with
  | zero => intro _ pc ls st h x; exact x.elim
  | succ n ih =>
    intro hN pc ls st h x
    have x' : (match mm_code mi pc with | none => False | some e => mm_act (mm_Rn n) mi e ls st h r) := x
    split at x'
    · exact x'.elim
    · rename_i e0 he
      obtain ⟨hmi, o1, o2⟩ := mm_ok he
      have IHk := ih (by omega)
      have hseq : mm_seq (mm_Rn n) mi e0 ls st h r → mm_Go p l e R s m args below meth c Q D A tS b L xs ad0 n0 c0 s0 nL pc ls st h := by
        intro y
        unfold mm_seq at y
        split at y
        · rename_i hz
          have hle := mm_Rn_le2 _ _ _ _ _ _ _ y.2
          exact mm_sstp hz y.1 C Es hA o1 o2 hF hL9 ⟨Nat.le_trans hle.1 hB.1, Nat.le_trans hle.2.1 hB.2⟩ (IHk _ _ _ _ y.2)
        · exact y.elim
      have hcl9 : ((∃ i, e0.1 = .invokevirtual i) ∨ (∃ i, e0.1 = .invokestatic i) ∨ (∃ i, e0.1 = .invokespecial i)) → mm_cl9 (mm_Rn n) mi e0 ls st h r → mm_Go p l e R s m args below meth c Q D A tS b L xs ad0 n0 c0 s0 nL pc ls st h := by
        intro hins y
        unfold mm_cl9 at y
        split at y
        · rename_i ck mj na L9 aux haux
          split at y
          · exact hseq y
          · exact hseq y
          · exact hseq y
          · rename_i q0 q7 q8
            exact mm_scall rfl hmi he C Es hA hT o1 o2 hF hL9 hB (IHc n (by omega)) (fun pc' ls' st' h' z => IHk pc' ls' st' h' z) _ mj na L9 aux haux ⟨fun q => q0 q, fun q => q7 q, fun q => q8 q⟩ hins y
        · exact y.elim
      have C9 := C
      obtain ⟨hx, hb, hr, hml, hnl, hown, hts, hlk, hin, hst⟩ := C9
      obtain ⟨f1, f2, f3, f4, f5⟩ := Fin
      obtain ⟨ins, np, v, aux⟩ := e0
      cases ins with
      | ireturn =>
        obtain ⟨hd, rfl⟩ := mm_dec o1 rfl
        simp only [mm_act] at x'
        simp only [mm_ok2] at o2
        split at x'
        · exact f1 _ _ _ _ _ hd (of_decide_eq_true o2) rfl x'
        · refine f1 _ _ _ _ _ hd (of_decide_eq_true o2) ?_ x'.1
          rcases x'.2 with rfl | rfl <;> rfl
        · rename_i v9
          refine f1 _ _ _ _ _ hd (of_decide_eq_true o2) ?_ x'.1
          have h9 : narrow .char (.int v9) = .int (vp_nar .char v9) := rfl
          rw [h9, x'.2]
        · exact x'.elim
      | lreturn =>
        obtain ⟨hd, rfl⟩ := mm_dec o1 rfl
        simp only [mm_act] at x'
        split at x'
        · exact f2 _ _ _ _ hd (of_decide_eq_true o2) x'
        · exact x'.elim
      | dreturn =>
        obtain ⟨hd, rfl⟩ := mm_dec o1 rfl
        simp only [mm_act] at x'
        split at x'
        · exact f3 _ _ _ _ hd (of_decide_eq_true o2) x'
        · exact x'.elim
      | return_ =>
        obtain ⟨hd, rfl⟩ := mm_dec o1 rfl
        simp only [mm_act] at x'
        split at x'
        · exact f4 _ _ _ hd (of_decide_eq_true o2) x'
        · exact x'.elim
      | ifCond c9 o =>
        obtain ⟨hd, rfl⟩ := mm_dec o1 rfl
        simp only [mm_act] at x'
        simp only [mm_ok2] at o2
        split at x'
        · have ht := of_decide_eq_true o2
          intro H locs cells slots lsR ad cA tys hI
          cases c9 with
          | eq => exact lv_if_eq hx hb hd ht (fun hc => IHk _ _ _ _ (x'.1 hc) _ _ _ _ _ _ _ _ hI) (fun hc => IHk _ _ _ _ (x'.2 hc) _ _ _ _ _ _ _ _ hI)
          | ne => exact lv_if_ne hx hb hd ht (fun hc => IHk _ _ _ _ (x'.1 hc) _ _ _ _ _ _ _ _ hI) (fun hc => IHk _ _ _ _ (x'.2 (fun q => q hc)) _ _ _ _ _ _ _ _ hI)
          | lt => exact lv_if_lt hx hb hd ht (fun hc => IHk _ _ _ _ (x'.1 hc) _ _ _ _ _ _ _ _ hI) (fun hc => IHk _ _ _ _ (x'.2 hc) _ _ _ _ _ _ _ _ hI)
          | ge => exact lv_if_ge hx hb hd ht (fun hc => IHk _ _ _ _ (x'.1 hc) _ _ _ _ _ _ _ _ hI) (fun hc => IHk _ _ _ _ (x'.2 hc) _ _ _ _ _ _ _ _ hI)
          | gt => exact lv_if_gt hx hb hd ht (fun hc => IHk _ _ _ _ (x'.1 hc) _ _ _ _ _ _ _ _ hI) (fun hc => IHk _ _ _ _ (x'.2 hc) _ _ _ _ _ _ _ _ hI)
          | le => exact lv_if_le hx hb hd ht (fun hc => IHk _ _ _ _ (x'.1 hc) _ _ _ _ _ _ _ _ hI) (fun hc => IHk _ _ _ _ (x'.2 hc) _ _ _ _ _ _ _ _ hI)
        · exact x'.elim
      | if_icmp c9 o =>
        obtain ⟨hd, rfl⟩ := mm_dec o1 rfl
        simp only [mm_act] at x'
        simp only [mm_ok2] at o2
        split at x'
        · have ht := of_decide_eq_true o2
          intro H locs cells slots lsR ad cA tys hI
          cases c9 with
          | eq => exact lv_icmp_eq hx hb hd ht (fun hc => IHk _ _ _ _ (x'.1 hc) _ _ _ _ _ _ _ _ hI) (fun hc => IHk _ _ _ _ (x'.2 hc) _ _ _ _ _ _ _ _ hI)
          | ne => exact lv_icmp_ne hx hb hd ht (fun hc => IHk _ _ _ _ (x'.1 hc) _ _ _ _ _ _ _ _ hI) (fun hc => IHk _ _ _ _ (x'.2 (fun q => q hc)) _ _ _ _ _ _ _ _ hI)
          | lt => exact lv_icmp_lt hx hb hd ht (fun hc => IHk _ _ _ _ (x'.1 hc) _ _ _ _ _ _ _ _ hI) (fun hc => IHk _ _ _ _ (x'.2 hc) _ _ _ _ _ _ _ _ hI)
          | ge => exact lv_icmp_ge hx hb hd ht (fun hc => IHk _ _ _ _ (x'.1 hc) _ _ _ _ _ _ _ _ hI) (fun hc => IHk _ _ _ _ (x'.2 hc) _ _ _ _ _ _ _ _ hI)
          | gt => exact lv_icmp_gt hx hb hd ht (fun hc => IHk _ _ _ _ (x'.1 hc) _ _ _ _ _ _ _ _ hI) (fun hc => IHk _ _ _ _ (x'.2 hc) _ _ _ _ _ _ _ _ hI)
          | le => exact lv_icmp_le hx hb hd ht (fun hc => IHk _ _ _ _ (x'.1 hc) _ _ _ _ _ _ _ _ hI) (fun hc => IHk _ _ _ _ (x'.2 hc) _ _ _ _ _ _ _ _ hI)
        · exact x'.elim
      | tableswitch d9 lo9 hi9 offs =>
        have hd : decode (mm_b mi) pc = .ok (.tableswitch d9 lo9 hi9 offs, np - pc) := by
          unfold mm_ok1 at o1
          simp only [mm_isw, cond_true, Bool.and_eq_true, decide_eq_true_eq] at o1
          exact of_decide_eq_true o1.1
        simp only [mm_act] at x'
        simp only [mm_ok2] at o2
        split at x'
        · rename_i dd ts x9 q9
          simp only [Bool.and_eq_true, decide_eq_true_eq] at o2
          obtain ⟨⟨⟨h1, h2⟩, h3⟩, h4⟩ := o2
          subst h1
          intro H locs cells slots lsR ad cA tys hI
          have k9 := IHk _ _ _ _ x' _ _ _ _ _ _ _ _ hI
          unfold mm_tsw at k9
          by_cases hx0 : x9.toInt < 0
          · rw [if_pos hx0] at k9
            exact lv_tableOut hx hb hd (Or.inl hx0) h3 k9
          · rw [if_neg hx0] at k9
            by_cases hx1 : hi9 < x9.toInt
            · rw [List.getD_eq_getElem?_getD, List.getElem?_eq_none (by omega)] at k9
              exact lv_tableOut hx hb hd (Or.inr hx1) h3 k9
            · have hlt : x9.toInt.toNat < ts.length := by omega
              have hlen : offs.toList.length = ts.length := by
                have := congrArg List.length h4
                simpa using this.symm
              have hof : x9.toInt.toNat < offs.toList.length := by omega
              have hel : ((ts[x9.toInt.toNat] : Nat) : Int) = (pc : Int) + offs.toList[x9.toInt.toNat] := by
                have h9 := congrArg (fun z => z[x9.toInt.toNat]?) h4
                simp only [List.getElem?_map, List.getElem?_eq_getElem hlt, List.getElem?_eq_getElem hof, Option.map_some] at h9
                exact Option.some.inj h9
              rw [List.getD_eq_getElem?_getD, List.getElem?_eq_getElem hlt] at k9
              refine lv_tableIn hx hb hd hx0 hx1 (off := offs.toList[x9.toInt.toNat]) ?_ hel.symm k9
              rw [Int.sub_zero, ← Array.getElem?_toList, List.getElem?_eq_getElem hof]
        · exact x'.elim
      | lookupswitch d9 ps =>
        have hd : decode (mm_b mi) pc = .ok (.lookupswitch d9 ps, np - pc) := by
          unfold mm_ok1 at o1
          simp only [mm_isw, cond_true, Bool.and_eq_true, decide_eq_true_eq] at o1
          exact of_decide_eq_true o1.1
        simp only [mm_act] at x'
        simp only [mm_ok2] at o2
        split at x'
        · rename_i dd ts x9 q9
          simp only [Bool.and_eq_true, decide_eq_true_eq] at o2
          obtain ⟨⟨h1, h2⟩, h3⟩ := o2
          intro H locs cells slots lsR ad cA tys hI
          have k9 := IHk _ _ _ _ x' _ _ _ _ _ _ _ _ hI
          exact lv_lookup hx hb hd h1 rfl (mm_lsw_off h2 _ _ h3) k9
        · exact x'.elim
      | new i =>
        obtain ⟨hd, rfl⟩ := mm_dec o1 rfl
        simp only [mm_act] at x'
        split at x'
        · exact f5 _ _ _ _ _ _ _ hd o2 x'.2 x'.1
        · exact hseq x'
      | invokevirtual i => exact hcl9 (Or.inl ⟨i, rfl⟩) x'
      | invokestatic i => exact hcl9 (Or.inr (Or.inl ⟨i, rfl⟩)) x'
      | invokespecial i => exact hcl9 (Or.inr (Or.inr ⟨i, rfl⟩)) x'
      | _ => simp only [mm_act] at x'; exact hseq x'
end MM
