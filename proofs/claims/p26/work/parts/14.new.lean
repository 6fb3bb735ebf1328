/-! ===== single instructions, 4: what is made; calls of the machine's own ===== -/
section MM
variable {p : Program} {l : Launch} {e : Env} {R : Room} {s : State} {m : MethodId} {args : Array Value} {below : List Frame} {meth : Method} {c : Code} {Q : State → Prop} {D : va_G} {A : Nat → Prop} {tS b L : Nat} {xs : Nat → Int32} {ad0 : Nat → Nat} {n0 c0 s0 nL mi : Nat}
theorem mm_fresh_ad {ad : Nat → Nat} {q : Nat} {ls st : List Value} {h : mm_Hp} (hf : mm_fresh ls st h) : (∀ v ∈ ls, ∀ j : Nat, v = .ref j → va_up ad (mm_n h) q j = ad j) ∧ (∀ v ∈ st, ∀ j : Nat, v = .ref j → va_up ad (mm_n h) q j = ad j) :=
  ⟨fun v hv j hj => mm_up_ne _ _ (hf.2.1 v (List.mem_append_left _ hv) j hj), fun v hv j hj => mm_up_ne _ _ (hf.2.1 v (List.mem_append_right _ hv) j hj)⟩
theorem mm_Iv.new {ad cA : Nat → Nat} {tys tys' : List (ClassId × FieldType)} {lsR : Array Slot} {ls st : List Value} {h : mm_Hp} {H H' : Heap} {locs : List Loc} {cells slots q cN k len w : Nat} {en : va_E} (hI : mm_Iv D A tS b L xs s ad0 n0 c0 s0 nL ad cA tys lsR ls h H locs cells slots) (hf : mm_fresh ls st h)
    (hK : va_K D mm_cl tys' s) (ht : ∀ (i : Nat) (z : ClassId × FieldType), tys[i]? = some z → tys'[i]? = some z) (ht2 : 10 ≤ k → ∃ t0 : Nat, tys'[t0]? = some (cN, mm_aty k)) (hen : mm_en (va_up ad (mm_n h) q) (va_up cA (mm_n h) cN) (mm_al h k len w) (mm_n h) = en)
    (hP : va_P D mm_cl (mm_ws ad cA h ++ [(q, en)]) H') (hD : va_D A (mm_ws ad cA h ++ [(q, en)])) (hS : va_S A s.heap H' locs) : mm_Iv D A tS b L xs s ad0 n0 c0 s0 nL (va_up ad (mm_n h) q) (va_up cA (mm_n h) cN) tys' lsR ls (mm_al h k len w) H' locs (cells + 1) (slots + w) := by
  obtain ⟨⟨a1, a2, a3, a4, a5, a6, a7, a8, a9⟩, b2, b3, b4, b5, b6, b7⟩ := hI
  have hws : mm_ws ad cA h ++ [(q, en)] = mm_ws (va_up ad (mm_n h) q) (va_up cA (mm_n h) cN) (mm_al h k len w) := by
    refine mm_ws_push rfl (mm_up_self _ _ _) hen (fun j hj => ⟨mm_up_ne _ _ (Nat.ne_of_lt hj), ?_⟩)
    have h1 : mm_en (va_up ad (mm_n h) q) (va_up cA (mm_n h) cN) (mm_al h k len w) j = mm_en (va_up ad (mm_n h) q) (va_up cA (mm_n h) cN) h j :=
      mm_en_congr (mm_up_ne _ _ (Nat.ne_of_lt hj)) (mm_up_ne _ _ (Nat.ne_of_lt hj)) (mm_up_ne _ _ (Nat.ne_of_lt hj)) (mm_up_ne _ _ (Nat.ne_of_lt hj))
    rw [h1]
    exact mm_en_ad (mm_up_ne _ _ (Nat.ne_of_lt hj)) (fun k' => mm_up_ne _ _ (hf.2.2 j hj k'))
  rw [hws] at hP hD
  refine ⟨⟨hK, hP, hD, fun i hi h10 => ?_, ?_, ?_, a7, a8, hf.1⟩, hS, b3.ad (mm_fresh_ad hf).1, ?_, ?_, Nat.le_succ_of_le b6, fun j hj => ?_⟩
  · have hi' : i < mm_n h + 1 := hi
    by_cases hin : i = mm_n h
    · subst hin
      have hk : (mm_K (mm_al h k len w) (mm_n h)).1 = k := by show (va_up (mm_K h) (mm_n h) (k, len) (mm_n h)).1 = k; rw [mm_up_self]
      rw [hk] at h10 ⊢
      rw [mm_up_self]
      exact ht2 h10
    · have hk : mm_K (mm_al h k len w) i = mm_K h i := mm_up_ne _ _ hin
      rw [hk] at h10 ⊢
      rw [mm_up_ne _ _ hin]
      obtain ⟨t0, h9⟩ := a4 i (by omega) h10
      exact ⟨t0, ht _ _ h9⟩
  · rw [mm_up_ne _ _ (by have := hf.1; omega)]; exact a5
  · rw [mm_up_ne _ _ (by have := hf.1; omega)]; exact a6
  · show cells + 1 + c0 = mm_c h + 1
    omega
  · show slots + w + s0 = mm_s h + w
    omega
  · have hj' : j < n0 ∨ mm_n h + 1 ≤ j := hj
    rw [mm_up_ne _ _ (by omega)]
    exact b7 j (by omega)
theorem mm_bytes {N : Nat} (ty : FieldType) (h : N ≤ 1000) : N * componentBytes ty ≤ 536870912 := by
  have h1 : componentBytes ty ≤ 8 := by cases ty <;> simp [componentBytes]
  calc N * componentBytes ty ≤ 1000 * 8 := Nat.mul_le_mul h h1
    _ ≤ 536870912 := by omega
theorem mm_okna {at_ : ArrayType} {aux : List Nat} (hok : mm_okNA at_ aux = true) :
    (at_ = .int ∧ ∃ wi, aux = [10, wi] ∧ mm_w wi (.arrayClass .int) = true) ∨ (at_ = .char ∧ ∃ wi, aux = [11, wi] ∧ mm_w wi (.arrayClass .char) = true) ∨ (at_ = .long ∧ ∃ wi, aux = [12, wi] ∧ mm_w wi (.arrayClass .long) = true) := by
  unfold mm_okNA at hok
  split at hok
  · exact Or.inl ⟨rfl, _, rfl, hok⟩
  · exact Or.inr (Or.inl ⟨rfl, _, rfl, hok⟩)
  · exact Or.inr (Or.inr ⟨rfl, _, rfl, hok⟩)
  · cases hok
theorem mm_okaa {mi idx : Nat} {aux : List Nat} (hok : mm_okAA mi idx aux = true) :
    (∃ wi wo, aux = [13, wi, wo] ∧ mm_w wi (.classLink (mm_y mi).cls idx "BulbShapes$Table") = true) ∨ (∃ wi wo, aux = [14, wi, wo] ∧ mm_w wi (.classLink (mm_y mi).cls idx "BulbShapes$Board") = true) := by
  unfold mm_okAA at hok
  split at hok
  · simp only [Bool.and_eq_true] at hok; exact Or.inl ⟨_, _, rfl, hok.1⟩
  · simp only [Bool.and_eq_true] at hok; exact Or.inr ⟨_, _, rfl, hok.1⟩
  · cases hok
theorem mm_i_nar {pc np : Nat} {at_ : ArrayType} {aux : List Nat} {ls st : List Value} {h : mm_Hp} {z : mm_St} (hs : mm_nar np aux ls st h = some z) (hP : z.2.2.2.2) (C : mm_Cx p l s m args meth c mi nL) (hA : ∀ q, s.heap.size ≤ q → A q)
    (hok : mm_okNA at_ aux = true) (hd : decode (mm_b mi) pc = .ok (.newarray at_, 2)) (hnp : np = pc + 2) (hB : mm_c z.2.2.2.1 ≤ c0 + R.cells ∧ mm_s z.2.2.2.1 ≤ s0 + R.slots)
    (K : mm_Go p l e R s m args below meth c Q D A tS b L xs ad0 n0 c0 s0 nL z.1 z.2.1 z.2.2.1 z.2.2.2.1) : mm_Go p l e R s m args below meth c Q D A tS b L xs ad0 n0 c0 s0 nL pc ls st h := by
  subst hnp
  obtain ⟨hx, hb, hr, hml, hnl, hown, hts, hlk, hin, hst⟩ := C
  unfold mm_nar at hs
  split at hs
  case h_2 => cases hs
  case h_1 k tl x r =>
    cases hs
    obtain ⟨h0, h1000, hf⟩ := hP
    obtain ⟨hB1, hB2⟩ := hB
    have hB1 : mm_c h + 1 ≤ c0 + R.cells := hB1
    have hB2 : mm_s h + x.toNatClampNeg ≤ s0 + R.slots := hB2
    have fin : ∀ {H : Heap} {locs : List Loc} {cells slots : Nat} {lsR : Array Slot} {ad cA : Nat → Nat} {tys : List (ClassId × FieldType)} (ty : FieldType) (q cN : Nat) (en : va_E) (H1 : Heap), mm_aty k = ty → mm_Iv D A tS b L xs s ad0 n0 c0 s0 nL ad cA tys lsR ls h H locs cells slots → mm_en (va_up ad (mm_n h) q) (va_up cA (mm_n h) cN) (mm_al h k x.toNatClampNeg x.toNatClampNeg) (mm_n h) = en → va_K D mm_cl (tys ++ [(cN, ty)]) s → va_P D mm_cl (mm_ws ad cA h ++ [(q, en)]) H1 → va_D A (mm_ws ad cA h ++ [(q, en)]) → va_S A s.heap H1 locs →
        W p l e R s m args below meth c H1 locs (cells + 1) (slots + x.toNatClampNeg) Q (F0 m (pc + 2) lsR (.ref q :: r.map (mm_tr ad))) := by
      intro H locs cells slots lsR ad cA tys ty q cN en H1 hty hI hen hK hP hD hS
      have hI' := hI.new (q := q) (cN := cN) (k := k) (len := x.toNatClampNeg) (w := x.toNatClampNeg) hf hK (fun i z hz => by rw [List.getElem?_append_left (List.getElem?_eq_some_iff.mp hz).1]; exact hz) (fun _ => ⟨tys.length, by rw [hty]; simp⟩) hen hP hD hS
      have k9 := K _ _ _ _ _ _ _ _ hI'
      have e1 : (Value.ref (mm_n h) :: r).map (mm_tr (va_up ad (mm_n h) q)) = .ref q :: r.map (mm_tr ad) := by
        rw [List.map_cons, mm_trs_ad (mm_fresh_ad hf).2]
        show Value.ref (va_up ad (mm_n h) q (mm_n h)) :: _ = _
        rw [mm_up_self]
      rw [e1] at k9
      exact k9
    intro H locs cells slots lsR ad cA tys hI
    have hW := hI.1
    have q4 := hI.2.2.2.1
    have q5 := hI.2.2.2.2.1
    have hke : (mm_K (mm_al h k x.toNatClampNeg x.toNatClampNeg) (mm_n h)) = (k, x.toNatClampNeg) := mm_up_self _ _ _
    rcases mm_okna hok with ⟨rfl, wi, heq, hok2⟩ | ⟨rfl, wi, heq, hok2⟩ | ⟨rfl, wi, heq, hok2⟩
    · injection heq with u1 u2
      subst u1
      refine va_newa (atype := .int) hx hb (hts _ (mm_inG hok2 rfl)) (ty := .int) rfl hW.1 hW.2.1 hW.2.2.1 hI.2.1 hA (N' := x.toNatClampNeg) (a0 := (x.toNatClampNeg, .inl (fun _ => 0))) (fun _ => rfl) h0 rfl (mm_bytes _ h1000) (by omega) (by omega) hd (fun q cN H1 hK hP hD hS => fin .int q cN _ H1 rfl hI ?_ hK hP hD hS)
      rw [mm_en_ia (k := 10) (by rw [hke]) (Or.inl rfl), hke]
      show Sum.inl (va_up cA (mm_n h) cN (mm_n h), x.toNatClampNeg, Sum.inl (va_up (mm_I h) (mm_n h) (fun _ => 0) (mm_n h))) = _
      rw [mm_up_self, mm_up_self]
    · injection heq with u1 u2
      subst u1
      refine va_newa (atype := .char) hx hb (hts _ (mm_inG hok2 rfl)) (ty := .char) rfl hW.1 hW.2.1 hW.2.2.1 hI.2.1 hA (N' := x.toNatClampNeg) (a0 := (x.toNatClampNeg, .inl (fun _ => 0))) (fun _ => rfl) h0 rfl (mm_bytes _ h1000) (by omega) (by omega) hd (fun q cN H1 hK hP hD hS => fin .char q cN _ H1 rfl hI ?_ hK hP hD hS)
      rw [mm_en_ia (k := 11) (by rw [hke]) (Or.inr rfl), hke]
      show Sum.inl (va_up cA (mm_n h) cN (mm_n h), x.toNatClampNeg, Sum.inl (va_up (mm_I h) (mm_n h) (fun _ => 0) (mm_n h))) = _
      rw [mm_up_self, mm_up_self]
    · injection heq with u1 u2
      subst u1
      refine va_newa (atype := .long) hx hb (hts _ (mm_inG hok2 rfl)) (ty := .long) rfl hW.1 hW.2.1 hW.2.2.1 hI.2.1 hA (N' := x.toNatClampNeg) (a0 := (x.toNatClampNeg, .inr (.inl (fun _ => 0)))) (fun _ => rfl) h0 rfl (mm_bytes _ h1000) (by omega) (by omega) hd (fun q cN H1 hK hP hD hS => fin .long q cN _ H1 rfl hI ?_ hK hP hD hS)
      rw [mm_en_la (by rw [hke]), hke]
      show Sum.inl (va_up cA (mm_n h) cN (mm_n h), x.toNatClampNeg, Sum.inr (Sum.inl (va_up (mm_J h) (mm_n h) (fun _ => 0) (mm_n h)))) = _
      rw [mm_up_self, mm_up_self]
theorem mm_i_ana {pc np idx : Nat} {aux : List Nat} {ls st : List Value} {h : mm_Hp} {z : mm_St} (hs : mm_nar np aux ls st h = some z) (hP : z.2.2.2.2) (C : mm_Cx p l s m args meth c mi nL) (E : mm_ES A tS b L xs s) (hA : ∀ q, s.heap.size ≤ q → A q)
    (hok : mm_okAA mi idx aux = true) (hd : decode (mm_b mi) pc = .ok (.anewarray idx, 3)) (hnp : np = pc + 3) (hB : mm_c z.2.2.2.1 ≤ c0 + R.cells ∧ mm_s z.2.2.2.1 ≤ s0 + R.slots)
    (K : mm_Go p l e R s m args below meth c Q D A tS b L xs ad0 n0 c0 s0 nL z.1 z.2.1 z.2.2.1 z.2.2.2.1) : mm_Go p l e R s m args below meth c Q D A tS b L xs ad0 n0 c0 s0 nL pc ls st h := by
  subst hnp
  obtain ⟨hx, hb, hr, hml, hnl, hown, hts, hlk, hin, hst⟩ := C
  obtain ⟨-, -, -, -, -, -, -, hAO1, hAO2, -⟩ := E
  unfold mm_nar at hs
  split at hs
  case h_2 => cases hs
  case h_1 k tl x r =>
    cases hs
    obtain ⟨h0, h1000, hf⟩ := hP
    obtain ⟨hB1, hB2⟩ := hB
    have hB1 : mm_c h + 1 ≤ c0 + R.cells := hB1
    have hB2 : mm_s h + x.toNatClampNeg ≤ s0 + R.slots := hB2
    intro H locs cells slots lsR ad cA tys hI
    have hW := hI.1
    have q4 := hI.2.2.2.1
    have q5 := hI.2.2.2.2.1
    have hke : (mm_K (mm_al h k x.toNatClampNeg x.toNatClampNeg) (mm_n h)) = (k, x.toNatClampNeg) := mm_up_self _ _ _
    have fin : ∀ (ty : FieldType) (q cN : Nat) (H1 : Heap), (k = 13 ∨ k = 14) → mm_aty k = ty → va_K D mm_cl (tys ++ [(cN, ty)]) s → va_P D mm_cl (mm_ws ad cA h ++ [(q, .inl (cN, x.toNatClampNeg, .inr (.inr (.inr (.inr (fun _ => none))))))]) H1 → va_D A (mm_ws ad cA h ++ [(q, .inl (cN, x.toNatClampNeg, .inr (.inr (.inr (.inr (fun _ => none))))))]) → va_S A s.heap H1 locs →
        W p l e R s m args below meth c H1 locs (cells + 1) (slots + x.toNatClampNeg) Q (F0 m (pc + 3) lsR (.ref q :: r.map (mm_tr ad))) := by
      intro ty q cN H1 hk hty hK hP hD hS
      have hen : mm_en (va_up ad (mm_n h) q) (va_up cA (mm_n h) cN) (mm_al h k x.toNatClampNeg x.toNatClampNeg) (mm_n h) = .inl (cN, x.toNatClampNeg, .inr (.inr (.inr (.inr (fun _ => none))))) := by
        rw [mm_en_ra (k := k) (by rw [hke]) hk, hke]
        have e2 : (fun j => mm_orf (va_up ad (mm_n h) q) (mm_R (mm_al h k x.toNatClampNeg x.toNatClampNeg) (mm_n h) j)) = fun _ => none := by
          funext j
          show mm_orf _ (va_up (mm_R h) (mm_n h) (fun _ => 0) (mm_n h) j) = none
          rw [mm_up_self]
          rfl
        rw [e2, mm_up_self]
      have hI' := hI.new (q := q) (cN := cN) (k := k) (len := x.toNatClampNeg) (w := x.toNatClampNeg) hf hK (fun i z hz => by rw [List.getElem?_append_left (List.getElem?_eq_some_iff.mp hz).1]; exact hz) (fun _ => ⟨tys.length, by rw [hty]; simp⟩) hen hP hD hS
      have k9 := K _ _ _ _ _ _ _ _ hI'
      have e1 : (Value.ref (mm_n h) :: r).map (mm_tr (va_up ad (mm_n h) q)) = .ref q :: r.map (mm_tr ad) := by
        rw [List.map_cons, mm_trs_ad (mm_fresh_ad hf).2]
        show Value.ref (va_up ad (mm_n h) q (mm_n h)) :: _ = _
        rw [mm_up_self]
      rw [e1] at k9
      exact k9
    rcases mm_okaa hok with ⟨wi, wo, heq, hok2⟩ | ⟨wi, wo, heq, hok2⟩
    · injection heq with u1 u2
      subst u1
      exact va_newq hx hb hown (hts _ (mm_inG hok2 rfl)) hAO1 hW.1 hW.2.1 hW.2.2.1 hI.2.1 hA (N' := x.toNatClampNeg) h0 rfl (by omega) (by omega) (by omega) hd (fun q cN H1 hK hP hD hS => fin _ q cN H1 (Or.inl rfl) rfl hK hP hD hS)
    · injection heq with u1 u2
      subst u1
      exact va_newq hx hb hown (hts _ (mm_inG hok2 rfl)) hAO2 hW.1 hW.2.1 hW.2.2.1 hI.2.1 hA (N' := x.toNatClampNeg) h0 rfl (by omega) (by omega) (by omega) hd (fun q cN H1 hK hP hD hS => fin _ q cN H1 (Or.inr rfl) rfl hK hP hD hS)
theorem mm_dflt {ci N : Nat} (h : mm_fok ci N = true) {ad : Nat → Nat} {h' : mm_Hp} {i : Nat} (hR : mm_R h' i = fun _ => 0) (hI : mm_I h' i = fun _ => 0) (hN : N = mm_nf ci) : ∀ j, j < N → defaultValue (mm_ty ci j) = vp_V (mm_flds ad h' i ci) j := by
  intro j hj
  have e1 : vp_V (mm_flds ad h' i ci) j = mm_fd ad h' i ci j := by
    unfold vp_V
    rw [List.getD_eq_getElem?_getD, mm_flds_get (by rw [← hN]; exact hj)]
    rfl
  rw [e1]
  unfold mm_fd
  rw [hR, hI]
  rcases mm_fok_at h hj with h1 | h1 | h1
  · rw [if_neg (by rw [h1.1]; decide), h1.2]; rfl
  · rw [if_neg (by rw [h1.1]; decide), h1.2]; rfl
  · rw [if_pos h1.1]
    have h2 := h1.2
    cases hty : mm_ty ci j <;> rw [hty] at h2 <;> first | rfl | cases h2
theorem mm_i_new {pc np idx : Nat} {aux : List Nat} {ls st : List Value} {h : mm_Hp} {z : mm_St} (hs : mm_new np aux ls st h = some z) (hP : z.2.2.2.2) (C : mm_Cx p l s m args meth c mi nL) (hA : ∀ q, s.heap.size ≤ q → A q) (hok : mm_okN mi pc idx aux = true) (hd : decode (mm_b mi) pc = .ok (.new idx, 3)) (hnp : np = pc + 3) (hB : mm_c z.2.2.2.1 ≤ c0 + R.cells ∧ mm_s z.2.2.2.1 ≤ s0 + R.slots)
    (K : mm_Go p l e R s m args below meth c Q D A tS b L xs ad0 n0 c0 s0 nL z.1 z.2.1 z.2.2.1 z.2.2.2.1) : mm_Go p l e R s m args below meth c Q D A tS b L xs ad0 n0 c0 s0 nL pc ls st h := by
  subst hnp
  obtain ⟨hx, hb, hr, hml, hnl, hown, hts, hlk, hin, hst⟩ := C
  unfold mm_okN at hok
  split at hok
  case h_3 => cases hok
  case h_2 => cases hs
  case h_1 ci N wi wn wt =>
    split at hok
    case h_2 => cases hok
    case h_1 C T N' hcl =>
      simp only [Bool.and_eq_true, decide_eq_true_eq] at hok
      obtain ⟨⟨⟨⟨rfl, hN⟩, hw1⟩, hw2⟩, hw3⟩ := hok
      obtain ⟨hci, hin', hty, hnm, hfk⟩ := mm_clf hcl
      cases hs
      have hf : mm_fresh ls st h := hP
      obtain ⟨hB1, hB2⟩ := hB
      have hB1 : mm_c h + 1 ≤ c0 + R.cells := hB1
      have hB2 : mm_s h + N ≤ s0 + R.slots := hB2
      intro H locs cells slots lsR ad cA tys hI
      have hW := hI.1
      have q4 := hI.2.2.2.1
      have q5 := hI.2.2.2.2.1
      have hR9 : mm_R (mm_al h ci N N) (mm_n h) = fun _ => 0 := mm_up_self _ _ _
      have hI9 : mm_I (mm_al h ci N N) (mm_n h) = fun _ => 0 := mm_up_self _ _ _
      have hke : (mm_K (mm_al h ci N N) (mm_n h)) = (ci, N) := mm_up_self _ _ _
      have hfl : ∀ ad', mm_flds ad' (mm_al h ci N N) (mm_n h) ci = mm_flds ad (mm_al h ci N N) (mm_n h) ci := by
        intro ad'
        unfold mm_flds
        congr 1
        funext k
        unfold mm_fd
        rw [hR9]
        rfl
      refine va_new hx hb hts hin' (mm_ty ci) hty hown (hts _ (mm_inG hw1 rfl)) (hts _ (mm_inG hw2 rfl)) (hts _ (mm_inG hw3 rfl)) hW.1 hW.2.1 hW.2.2.1 hI.2.1 hA hcl (fs := mm_flds ad (mm_al h ci N N) (mm_n h) ci) (mm_dflt hfk hR9 hI9 hN) (by omega) (by omega) hd (fun q H1 hP hD hS => ?_)
      have hI' := hI.new (q := q) (cN := 0) (k := ci) (len := N) (w := N) hf hW.1 (fun i z hz => hz) (fun h10 => by omega) (by rw [mm_en_obj (ci := ci) (by rw [hke]) hci, hfl]) hP hD hS
      have k9 := K _ _ _ _ _ _ _ _ hI'
      have e1 : (Value.ref (mm_n h) :: st).map (mm_tr (va_up ad (mm_n h) q)) = .ref q :: st.map (mm_tr ad) := by
        rw [List.map_cons, mm_trs_ad (mm_fresh_ad hf).2]
        show Value.ref (va_up ad (mm_n h) q (mm_n h)) :: _ = _
        rw [mm_up_self]
      rw [e1] at k9
      exact k9
end MM
