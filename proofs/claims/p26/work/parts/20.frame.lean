/-! ===== a walk of the mini machine is one of the real machine ===== -/
section MM
variable {p : Program} {l : Launch} {e : Env} {R : Room} {s : State} {m : MethodId} {args : Array Value} {below : List Frame} {meth : Method} {c : Code} {Q : State → Prop} {D : va_G} {A : Nat → Prop} {tS b L : Nat} {xs : Nat → Int32} {ad0 : Nat → Nat} {n0 c0 s0 nL mi : Nat}
/-- what goes on behind a call of any kind, out of its run -/
theorem mm_after {k : mm_Kt} {mj n pc : Nat} {ls av : List Value} {h : mm_Hp} {r r' : mm_Res} {rest : List Value} (hmi : mi < 78) (C : mm_Cx p l s m args meth c mi nL) (Es : mm_ES A tS b L xs s) (hA : ∀ q, s.heap.size ≤ q → A q) (hT : mm_hl mi ≠ [] → c.exceptionTable.toList = tableOf (mm_hh mi))
    (hcov : ∀ x ∈ mm_hh mi, x.1 ≤ pc ∧ pc < x.2.1) (hk : mm_Rn n mj 0 (mm_ent (mm_ml mj) av) [] h r') (hle : mm_hle h r'.2) (hB : mm_c r'.2 ≤ c0 + R.cells ∧ mm_s r'.2 ≤ s0 + R.slots) (ho : mm_n r'.2 = mm_n h ∨ ∀ v ∈ ls ++ rest, mm_old (mm_n h) v)
    (hres : (r'.1.1 = 0 ∧ k mi (pc + 3) ls (r'.1.2.toList ++ rest) r'.2 r) ∨ ∃ q : Nat × Nat, r'.1.1 ≠ 0 ∧ mm_hand mi r'.1.1 = some q ∧ mm_pre ls q.2 = false ∧ k mi q.1 (mm_lset ls q.2 .null) [] r'.2 r)
    (IHk : ∀ pc' ls' st' h', k mi pc' ls' st' h' r → mm_Go p l e R s m args below meth c Q D A tS b L xs ad0 n0 c0 s0 nL pc' ls' st' h')
    {H : Heap} {locs : List Loc} {cells slots : Nat} {lsR : Array Slot} {ad cA : Nat → Nat} {tys : List (ClassId × FieldType)} (hI : mm_Iv D A tS b L xs s ad0 n0 c0 s0 nL ad cA tys lsR ls h H locs cells slots) {a : Array Value} {st0 : List Value}
    (run : vx_Run p l e R s m args below meth c H locs cells slots (mm_c r'.2 - mm_c h) (mm_s r'.2 - mm_s h) (F0 m pc lsR st0) (rest.map (mm_tr ad)) (mm_Qr D (va_A (mm_ws ad cA h) H.size) tS b L xs ad (mm_n h) r' a) (mm_Xr D (va_A (mm_ws ad cA h) H.size) tS b L xs ad (mm_n h) r') (va_A (mm_ws ad cA h) H.size)) :
    W p l e R s m args below meth c H locs cells slots Q (F0 m pc lsR st0) := by
  have hA1 := mm_A1 hI hA
  refine mm_run run hI.2.1 hA1 (fun ce q9 t H1 locs1 ht hv hE hBw hS hce hcv hcl => ?_) (fun t H1 locs1 ht hv hr0 hBw hS => ?_)
  · obtain ⟨ad', cA', tys', hI', -⟩ := hI.back hA1 ht hv hBw hS hle.1 hle.2.1 hle.2.2 ho
    rcases hres with ⟨h0, -⟩ | ⟨q, hne, hq, hp, hk3⟩
    · omega
    · have hT2 : mm_hl mi ≠ [] := by
        intro h9
        unfold mm_hand at hq
        rw [h9] at hq
        cases hq
      exact mm_catch hmi C Es (hT hT2) hq hp hcov hI' hce hcv hcl (IHk _ _ _ _ hk3)
  · obtain ⟨ad', cA', tys', hI', hrest⟩ := hI.back hA1 ht hv hBw hS hle.1 hle.2.1 hle.2.2 ho
    rcases hres with ⟨-, hk2⟩ | ⟨q, hne, -⟩
    · have k9 := IHk _ _ _ _ hk2 _ _ _ _ _ _ _ _ hI'
      rw [List.map_append, hrest] at k9
      have hv9 : (r'.1.2.toList).map (mm_tr ad') = r'.1.2.toList := by
        cases hz : r'.1.2 with
        | none => rfl
        | some v =>
          show [mm_tr ad' v] = [v]
          rw [mm_Rn_nr _ _ _ _ _ _ _ hk v hz ad']
      rw [hv9] at k9
      exact k9
    · exact absurd hr0 hne
/-- the callee's start -/
theorem mm_pre0 {h : mm_Hp} (Es : mm_ES A tS b L xs s) (hA : ∀ q, s.heap.size ≤ q → A q) {ls : List Value}
    {H : Heap} {locs : List Loc} {cells slots : Nat} {lsR : Array Slot} {ad cA : Nat → Nat} {tys : List (ClassId × FieldType)} (hI : mm_Iv D A tS b L xs s ad0 n0 c0 s0 nL ad cA tys lsR ls h H locs cells slots) (av : List Value) :
    ∀ U : State, U.heap = H → s.WarmedH U.vm → mm_Pr D tS b L xs av ad cA tys H.size h (av.map (mm_tr ad)).toArray U := by
  intro U hU hW
  have hA1 := mm_A1 hI hA
  refine ⟨rfl, by rw [hU], ?_, ?_⟩
  · rw [hU]
    obtain ⟨w1, w2, w3, w4⟩ := hI.1.moved hW.alike
    exact ⟨w1, w2, w3.weaken (fun _ _ _ _ => trivial), w4⟩
  · exact Es.go hW (fun q h1 h2 => by rw [hU]; exact hI.2.1.2.1 q h1 h2) (by rw [hU]; exact hI.2.1.1) hA1
theorem mm_split {na : Nat} {st : List Value} (hn : na ≤ st.length) : st = (st.take na).reverse.reverse ++ st.drop na ∧ (st.take na).reverse.length = na := by
  refine ⟨by rw [List.reverse_reverse, List.take_append_drop], by rw [List.length_reverse, List.length_take]; omega⟩
set_option maxHeartbeats 4000000 in
theorem mm_scall {n pc : Nat} {e0 : mm_En} {ls st : List Value} {h : mm_Hp} {r : mm_Res} {k : mm_Kt} (hkn : k = mm_Rn n) (hmi : mi < 78) (he : mm_code mi pc = some e0) (C : mm_Cx p l s m args meth c mi nL) (Es : mm_ES A tS b L xs s) (hA : ∀ q, s.heap.size ≤ q → A q) (hT : mm_hl mi ≠ [] → c.exceptionTable.toList = tableOf (mm_hh mi))
    (o1 : mm_ok1 mi pc e0 = true) (o2 : mm_ok2 mi pc e0 = true) (hF : mm_fr mi ≤ R.frames) (hL9 : mm_lo mi ≤ R.locals) (hB : mm_c r.2 ≤ c0 + R.cells ∧ mm_s r.2 ≤ s0 + R.slots)
    (IHc : ∀ mj av h r', mm_Rn n mj 0 (mm_ent (mm_ml mj) av) [] h r' → mj < 77 → (mm_spread av).length ≤ mm_ml mj → mm_Con l D tS b L xs mj av h r')
    (IHk : ∀ pc' ls' st' h', k mi pc' ls' st' h' r → mm_Go p l e R s m args below meth c Q D A tS b L xs ad0 n0 c0 s0 nL pc' ls' st' h')
    (ck mj na Lc : Nat) (aux : List Nat) (haux : e0.2.2.2 = ck :: mj :: na :: Lc :: aux) (hck : ck ≠ 0 ∧ ck ≠ 7 ∧ ck ≠ 8) (hins : (∃ i, e0.1 = .invokevirtual i) ∨ (∃ i, e0.1 = .invokestatic i) ∨ (∃ i, e0.1 = .invokespecial i))
    (x : mm_call k mi e0.2.1 ck mj na Lc (aux.headD 99) ls st h r) : mm_Go p l e R s m args below meth c Q D A tS b L xs ad0 n0 c0 s0 nL pc ls st h := by
  subst hkn
  obtain ⟨ins, np, v, aux9⟩ := e0
  dsimp only at haux hins x
  subst haux
  obtain ⟨hn, hcat, hrecv, hsp, r', hk, ho, hres⟩ := x
  have hle := mm_Rn_le2 _ _ _ _ _ _ _ hk
  have hle2 : mm_hle r'.2 r.2 := by
    rcases hres with ⟨-, c2⟩ | ⟨q, -, -, -, c3⟩
    · exact mm_Rn_le2 _ _ _ _ _ _ _ c2
    · exact mm_Rn_le2 _ _ _ _ _ _ _ c3
  have hB' : mm_c r'.2 ≤ c0 + R.cells ∧ mm_s r'.2 ≤ s0 + R.slots := ⟨Nat.le_trans hle2.1 hB.1, Nat.le_trans hle2.2.1 hB.2⟩
  have C9 := C
  obtain ⟨hx, hb, hr, hml, hnl, hown, hts, hlk, hin, hst⟩ := C9
  have hN := Es.2.2.2.2.2.1
  obtain ⟨hsplit, hlen⟩ := mm_split hn
  have hokX := List.all_eq_true.mp mm_okXall mi (List.mem_range.mpr hmi)
  unfold mm_okX at hokX
  simp only [Bool.and_eq_true] at hokX
  have hX4 := hokX.2
  have hplen : pc < mm_lb mi := by
    have h9 := he
    unfold mm_code at h9
    by_cases h2 : mm_lb mi ≤ pc
    · rw [show Nat.ble (mm_lb mi) pc = true from Nat.ble_eq_true_of_le h2] at h9
      cases hb9 : Nat.ble 78 mi <;> rw [hb9] at h9 <;> cases h9
    · omega
  have hcell : ∀ {H : Heap} {locs : List Loc} {cells slots : Nat} {lsR : Array Slot} {ad cA : Nat → Nat} {tys : List (ClassId × FieldType)}, mm_Iv D A tS b L xs s ad0 n0 c0 s0 nL ad cA tys lsR ls h H locs cells slots → cells + (mm_c r'.2 - mm_c h) ≤ R.cells ∧ slots + (mm_s r'.2 - mm_s h) ≤ R.slots := by
    intro H locs cells slots lsR ad cA tys hI
    have q4 := hI.2.2.2.1
    have q5 := hI.2.2.2.2.1
    have q1 := hle.1
    have q2 := hle.2.1
    have q3 := hB'.1
    have q6 := hB'.2
    exact ⟨by omega, by omega⟩
  have hroom : ∀ (ad : Nat → Nat) (lsR : Array Slot) (st9 : List Value), 2 * (F0 m pc lsR st9).monitorRoom + (((st.drop na).map (mm_tr ad)).map fun v => v.category).sum ≤ 8 := fun ad lsR st9 => lv_room (by rw [mm_trs_cat]; exact hcat)
  generalize hav : (st.take na).reverse = av at *
  generalize hrs : st.drop na = rest at *
  cases ins with
  | invokevirtual i =>
    obtain ⟨hd, rfl⟩ := mm_dec o1 rfl
    have hcov : ∀ x ∈ mm_hh mi, x.1 ≤ pc ∧ pc < x.2.1 := by
      rw [Bool.or_eq_true] at hX4
      rcases hX4 with h9 | h9
      · have : mm_hh mi = [] := by simpa using h9
        rw [this]
        intro x hx; cases hx
      · have h8 := List.all_eq_true.mp h9 pc (List.mem_range.mpr hplen)
        rw [he] at h8
        intro x hx
        have h7 := List.all_eq_true.mp h8 x hx
        simp only [Bool.and_eq_true, decide_eq_true_eq] at h7
        exact h7
    have o3 : mm_okV mi i (ck :: mj :: na :: Lc :: aux) = true := o2
    clear o2
    unfold mm_okV at o3
    split at o3
    case h_3 => cases o3
    case h_1 mj' na' Lc' ci' wl cw wt wn ws heq =>
      cases heq
      simp only [Bool.and_eq_true, decide_eq_true_eq] at o3
      obtain ⟨⟨⟨oC, oN⟩, oS⟩, oK⟩ := o3
      have oC2 := oC
      unfold mm_okC at oC2
      simp only [Bool.and_eq_true, decide_eq_true_eq, if_true] at oC2
      have h4 : Lc = mm_ml mj := oC2.1.1.1.1.1.2
      have h5 : mj < 77 := oC2.1.1.1.1.2
      have hpos : 0 < na := oC2.1.1.2.1
      subst h4
      have hM := IHc mj av h r' hk h5 hsp
      simp only [mm_recv] at hrecv
      split at hrecv
      case h_2 => exact hrecv.elim
      case h_1 a As =>
        obtain ⟨ha, hKa⟩ := hrecv
        intro H locs cells slots lsR ad cA tys hI
        have hW := hI.1
        cases hcl : mm_cl[ci']? with
        | none => rw [hcl] at oK; cases oK
        | some q9 =>
          rw [hcl] at oK
          have hCq : q9.1 = (mm_y mj).cls := Option.some.inj oK
          obtain ⟨C9, T9, N9⟩ := q9
          have hci6 := (mm_clf hcl).1
          have hea := mm_ws_get (ad := ad) (cA := cA) ha
          rw [mm_en_obj hKa hci6] at hea
          have hrec := va_recv hW.1 hW.2.1 hcl hea
          have cw9 : CallW R s args (mm_y mi).cls (mm_y mj).cls i (mm_y mj) (mm_b mj) (mm_ml mj) (mm_rt mj) (mm_wd mj) (mm_Rm mj h r') (mm_c r'.2 - mm_c h) (mm_s r'.2 - mm_s h) (na - 1) :=
            ⟨mm_callB hts oC rfl hF hL9, hts _ (mm_inG oN rfl), hts _ (mm_inG oS rfl)⟩
          have run := vx_runV (e := e) (below := below) (meth := meth) (locs := locs) (g := F0 m pc lsR (st.map (mm_tr ad))) (rest := rest.map (mm_tr ad)) (As := As.map (mm_tr ad)) (b := ad a) ⟨hx, hb, hml, hown, hts⟩ (hM ad cA tys H.size) cw9 ⟨mm_blind, by rw [← hCq]; exact hrec, mm_pre0 Es hA hI (.ref a :: As)⟩ rfl (by rw [List.length_map]; simp only [List.length_cons] at hlen; omega) hI.2.2.1.1.1
            (by show st.map (mm_tr ad) = _; rw [hsplit]; simp [mm_tr]) (hroom _ _ _) hd (hcell hI)
          exact mm_after hmi C Es hA hT hcov hk hle hB' ho hres IHk hI run
    case h_2 mj' na' Lc' ci' wl cw wt wn ws heq =>
      cases heq
      simp only [Bool.and_eq_true, decide_eq_true_eq] at o3
      obtain ⟨⟨⟨oC, oN⟩, oS⟩, oK⟩ := o3
      have oC2 := oC
      unfold mm_okC at oC2
      simp only [Bool.and_eq_true, decide_eq_true_eq, if_true] at oC2
      have h4 : Lc = mm_ml mj := oC2.1.1.1.1.1.2
      have h5 : mj < 77 := oC2.1.1.1.1.2
      have hpos : 0 < na := oC2.1.1.2.1
      subst h4
      have hM := IHc mj av h r' hk h5 hsp
      simp only [mm_recv] at hrecv
      split at hrecv
      case h_2 => exact hrecv.elim
      case h_1 a As =>
        obtain ⟨ha, hKa⟩ := hrecv
        intro H locs cells slots lsR ad cA tys hI
        have hW := hI.1
        cases hcl : mm_cl[ci']? with
        | none => rw [hcl] at oK; cases oK
        | some q9 =>
          rw [hcl] at oK
          have hCq : q9.1 = (mm_y mj).cls := Option.some.inj oK
          obtain ⟨C9, T9, N9⟩ := q9
          have hci6 := (mm_clf hcl).1
          have hea := mm_ws_get (ad := ad) (cA := cA) ha
          rw [mm_en_obj hKa hci6] at hea
          have hrec := va_recv hW.1 hW.2.1 hcl hea
          have run := vx_runVN (e := e) (below := below) (meth := meth) (locs := locs) (g := F0 m pc lsR (st.map (mm_tr ad))) (rest := rest.map (mm_tr ad)) (As := As.map (mm_tr ad)) (b := ad a) (C := (mm_y mj).cls) ⟨hx, hb, hml, hown, hts⟩ (hM ad cA tys H.size) ⟨mm_callN (self := true) (h := h) (r := r') hts hN oC hF hL9, hts _ (mm_inG oN rfl), hts _ (mm_inG oS rfl)⟩ ⟨mm_blind, by rw [← hCq]; exact hrec, mm_pre0 Es hA hI (.ref a :: As)⟩ rfl (by rw [List.length_map]; simp only [List.length_cons] at hlen; show As.length = na - 1; omega) hI.2.2.1.1.1
            (by show st.map (mm_tr ad) = _; rw [hsplit]; simp [mm_tr]) (hroom _ _ _) hd (hcell hI)
          exact mm_after hmi C Es hA hT hcov hk hle hB' ho hres IHk hI run
  | invokestatic i =>
    obtain ⟨hd, rfl⟩ := mm_dec o1 rfl
    have hcov : ∀ x ∈ mm_hh mi, x.1 ≤ pc ∧ pc < x.2.1 := by
      rw [Bool.or_eq_true] at hX4
      rcases hX4 with h9 | h9
      · have : mm_hh mi = [] := by simpa using h9
        rw [this]
        intro x hx; cases hx
      · have h8 := List.all_eq_true.mp h9 pc (List.mem_range.mpr hplen)
        rw [he] at h8
        cases h8
    have o3 : mm_okS mi i (ck :: mj :: na :: Lc :: aux) = true := o2
    clear o2
    unfold mm_okS at o3
    split at o3
    case h_6 => cases o3
    case h_4 heq => cases heq; exact absurd rfl hck.2.1
    case h_5 heq => cases heq; exact absurd rfl hck.2.2
    case h_1 heq =>
      cases heq
      simp only [Bool.and_eq_true, decide_eq_true_eq] at o3
      obtain ⟨oC, oS⟩ := o3
      have oC2 := oC
      unfold mm_okC at oC2
      simp only [Bool.and_eq_true, decide_eq_true_eq, if_true, Bool.false_eq_true, if_false] at oC2
      have h4 : Lc = mm_ml mj := oC2.1.1.1.1.1.2
      have h5 : mj < 77 := oC2.1.1.1.1.2
      subst h4
      have hM := IHc mj av h r' hk h5 hsp
      intro H locs cells slots lsR ad cA tys hI
      have run := vx_runS (e := e) (below := below) (meth := meth) (locs := locs) (g := F0 m pc lsR (st.map (mm_tr ad))) (rest := rest.map (mm_tr ad)) (As := av.map (mm_tr ad)) ⟨hx, hb, hml, hown, hts⟩ (hM ad cA tys H.size) ⟨mm_callB (self := false) (h := h) (r := r') hts oC rfl hF hL9, hts _ (mm_inG oS rfl)⟩ ⟨mm_blind, mm_pre0 Es hA hI av⟩ rfl (by rw [List.length_map]; exact hlen) hI.2.2.1.1.1
        (by show st.map (mm_tr ad) = _; rw [hsplit]; simp) (hroom _ _ _) hd (hcell hI)
      exact mm_after hmi C Es hA hT hcov hk hle hB' ho hres IHk hI run
    case h_2 heq =>
      cases heq
      simp only [Bool.and_eq_true, decide_eq_true_eq] at o3
      obtain ⟨oC, oS⟩ := o3
      have oC2 := oC
      unfold mm_okC at oC2
      simp only [Bool.and_eq_true, decide_eq_true_eq, if_true, Bool.false_eq_true, if_false] at oC2
      have h4 : Lc = mm_ml mj := oC2.1.1.1.1.1.2
      have h5 : mj < 77 := oC2.1.1.1.1.2
      subst h4
      have hM := IHc mj av h r' hk h5 hsp
      intro H locs cells slots lsR ad cA tys hI
      have run := vx_runSN (e := e) (below := below) (meth := meth) (locs := locs) (g := F0 m pc lsR (st.map (mm_tr ad))) (rest := rest.map (mm_tr ad)) (As := av.map (mm_tr ad)) ⟨hx, hb, hml, hown, hts⟩ (hM ad cA tys H.size) ⟨mm_callN (self := false) (h := h) (r := r') hts hN oC hF hL9, hts _ (mm_inG oS rfl), trivial⟩ ⟨mm_blind, mm_pre0 Es hA hI av⟩ rfl (by rw [List.length_map]; exact hlen) hI.2.2.1.1.1
        (by show st.map (mm_tr ad) = _; rw [hsplit]; simp) (hroom _ _ _) hd (hcell hI)
      exact mm_after hmi C Es hA hT hcov hk hle hB' ho hres IHk hI run
    case h_3 heq =>
      cases heq
      simp only [Bool.and_eq_true, decide_eq_true_eq] at o3
      obtain ⟨oC, oS⟩ := o3
      have oC2 := oC
      unfold mm_okC at oC2
      simp only [Bool.and_eq_true, decide_eq_true_eq, if_true, Bool.false_eq_true, if_false] at oC2
      have h4 : Lc = mm_ml mj := oC2.1.1.1.1.1.2
      have h5 : mj < 77 := oC2.1.1.1.1.2
      subst h4
      have hM := IHc mj av h r' hk h5 hsp
      intro H locs cells slots lsR ad cA tys hI
      have hh : mm_hh mj ≠ [] := oC2.1.1.1.1.1.1.1.2.2
      have run := vx_runSX (e := e) (below := below) (meth := meth) (locs := locs) (g := F0 m pc lsR (st.map (mm_tr ad))) (rest := rest.map (mm_tr ad)) (As := av.map (mm_tr ad)) ⟨hx, hb, hml, hown, hts⟩ (hM ad cA tys H.size) (mm_callW (h := h) (r := r') hts oC hh (hts _ (mm_inG oS rfl)) hF hL9) ⟨mm_blind, mm_pre0 Es hA hI av⟩ rfl (by rw [List.length_map]; exact hlen) hI.2.2.1.1.1
          (by show st.map (mm_tr ad) = _; rw [hsplit]; simp) (hroom _ _ _) hd (hcell hI)
      exact mm_after hmi C Es hA hT hcov hk hle hB' ho hres IHk hI run
  | invokespecial i =>
    obtain ⟨hd, rfl⟩ := mm_dec o1 rfl
    have hcov : ∀ x ∈ mm_hh mi, x.1 ≤ pc ∧ pc < x.2.1 := by
      rw [Bool.or_eq_true] at hX4
      rcases hX4 with h9 | h9
      · have : mm_hh mi = [] := by simpa using h9
        rw [this]
        intro x hx; cases hx
      · have h8 := List.all_eq_true.mp h9 pc (List.mem_range.mpr hplen)
        rw [he] at h8
        cases h8
    have o3 : mm_okP mi i (ck :: mj :: na :: Lc :: aux) = true := o2
    clear o2
    unfold mm_okP at o3
    split at o3
    case h_4 => cases o3
    case h_1 heq => cases heq; exact absurd rfl hck.1
    case h_2 heq =>
      cases heq
      simp only [Bool.and_eq_true, decide_eq_true_eq] at o3
      obtain ⟨⟨⟨oC, oN⟩, oI⟩, oR⟩ := o3
      have oC2 := oC
      unfold mm_okC at oC2
      simp only [Bool.and_eq_true, decide_eq_true_eq, if_true, Bool.false_eq_true, if_false] at oC2
      have h4 : Lc = mm_ml mj := oC2.1.1.1.1.1.2
      have h5 : mj < 77 := oC2.1.1.1.1.2
      have hpos : 0 < na := oC2.1.1.2.1
      subst h4
      have hM := IHc mj av h r' hk h5 hsp
      simp only [mm_recv] at hrecv
      split at hrecv
      case h_2 => exact hrecv.elim
      case h_1 a As =>
        intro H locs cells slots lsR ad cA tys hI
        have cb := mm_callB (R := R) (args := args) (s := s) (self := true) (h := h) (r := r') hts oC rfl hF hL9
        rw [oR] at cb
        have run := vx_runI (e := e) (below := below) (meth := meth) (locs := locs) (g := F0 m pc lsR (st.map (mm_tr ad))) (rest := rest.map (mm_tr ad)) (As := As.map (mm_tr ad)) (b := ad a) ⟨hx, hb, hml, hown, hts⟩ (hM ad cA tys H.size) ⟨cb, oI, hts _ (mm_inG oN rfl)⟩ ⟨mm_blind, mm_pre0 Es hA hI (.ref a :: As)⟩ rfl (by rw [List.length_map]; simp only [List.length_cons] at hlen; show As.length = na - 1; omega) hI.2.2.1.1.1
          (by show st.map (mm_tr ad) = _; rw [hsplit]; simp [mm_tr]) (hroom _ _ _) hd (hcell hI)
        exact mm_after hmi C Es hA hT hcov hk hle hB' ho hres IHk hI run
    case h_3 heq =>
      cases heq
      simp only [Bool.and_eq_true, decide_eq_true_eq] at o3
      obtain ⟨⟨⟨oC, oN⟩, oI⟩, oR⟩ := o3
      have oC2 := oC
      unfold mm_okC at oC2
      simp only [Bool.and_eq_true, decide_eq_true_eq, if_true, Bool.false_eq_true, if_false] at oC2
      have h4 : Lc = mm_ml mj := oC2.1.1.1.1.1.2
      have h5 : mj < 77 := oC2.1.1.1.1.2
      have hpos : 0 < na := oC2.1.1.2.1
      subst h4
      have hM := IHc mj av h r' hk h5 hsp
      simp only [mm_recv] at hrecv
      split at hrecv
      case h_2 => exact hrecv.elim
      case h_1 a As =>
        intro H locs cells slots lsR ad cA tys hI
        have cb := mm_callN (R := R) (args := args) (s := s) (self := true) (h := h) (r := r') hts hN oC hF hL9
        rw [oR] at cb
        have run := vx_runIN (e := e) (below := below) (meth := meth) (locs := locs) (g := F0 m pc lsR (st.map (mm_tr ad))) (rest := rest.map (mm_tr ad)) (As := As.map (mm_tr ad)) (b := ad a) ⟨hx, hb, hml, hown, hts⟩ (hM ad cA tys H.size) ⟨cb, oI, hts _ (mm_inG oN rfl)⟩ ⟨mm_blind, mm_pre0 Es hA hI (.ref a :: As)⟩ rfl (by rw [List.length_map]; simp only [List.length_cons] at hlen; show As.length = na - 1; omega) hI.2.2.1.1.1
          (by show st.map (mm_tr ad) = _; rw [hsplit]; simp [mm_tr]) (hroom _ _ _) hd (hcell hI)
        exact mm_after hmi C Es hA hT hcov hk hle hB' ho hres IHk hI run
  | _ => rcases hins with ⟨i, hi⟩ | ⟨i, hi⟩ | ⟨i, hi⟩ <;> cases hi
end MM
