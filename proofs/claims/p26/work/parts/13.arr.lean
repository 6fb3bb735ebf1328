/-! ===== single instructions, 3: arrays, statics, what is new ===== -/
section MM
variable {p : Program} {l : Launch} {e : Env} {R : Room} {s : State} {m : MethodId} {args : Array Value} {below : List Frame} {meth : Method} {c : Code} {Q : State → Prop} {D : va_G} {A : Nat → Prop} {tS b L : Nat} {xs : Nat → Int32} {ad0 : Nat → Nat} {n0 c0 s0 nL mi : Nat}
theorem mm_i_ial {pc np : Nat} {aux : List Nat} {ls st : List Value} {h : mm_Hp} {z : mm_St} (hs : mm_ial np aux ls st h = some z) (hP : z.2.2.2.2) (C : mm_Cx p l s m args meth c mi nL) (E : mm_ES A tS b L xs s) (hd : decode (mm_b mi) pc = .ok (.iaload, 1)) (hnp : np = pc + 1)
    (K : mm_Go p l e R s m args below meth c Q D A tS b L xs ad0 n0 c0 s0 nL z.1 z.2.1 z.2.2.1 z.2.2.2.1) : mm_Go p l e R s m args below meth c Q D A tS b L xs ad0 n0 c0 s0 nL pc ls st h := by
  subst hnp
  obtain ⟨hx, hb, hr, hml, hnl, hown, hts, hlk, hin, hst⟩ := C
  obtain ⟨eS, eZ, ⟨eX1, eX2, eX3⟩, -⟩ := E
  unfold mm_ial at hs
  split at hs
  case h_1 x i r =>
    cases hs
    obtain ⟨hi, hk, hv⟩ := hP
    intro H locs cells slots lsR ad cA tys hI
    have hW := hI.1
    have he := mm_ws_get (ad := ad) (cA := cA) hi
    rw [mm_en_ia hk (Or.inl rfl)] at he
    obtain ⟨t0, ht⟩ := hW.2.2.2.1 i hi (by rw [hk]; decide)
    rw [hk] at ht
    exact va_iald hx hb hW.1 hW.2.1 i t0 he ht hv hd (K _ _ _ _ _ _ _ _ hI)
  case h_2 x i r =>
    cases hs
    obtain ⟨rfl, hv⟩ := hP
    intro H locs cells slots lsR ad cA tys hI
    have hW := hI.1
    have k := K _ _ _ _ _ _ _ _ hI
    have h6 : ad 1001 = b := hW.2.2.2.2.2.1
    have h7 : mm_L h = L := hW.2.2.2.2.2.2.1
    have h8 : mm_X h = xs := hW.2.2.2.2.2.2.2.1
    rw [h7] at hv
    have k2 : W p l e R s m args below meth c H locs cells slots Q (F0 m (pc + 1) lsR (.int (xs x.toNatClampNeg) :: r.map (mm_tr ad))) := by rw [← h8]; exact k
    show W p l e R s m args below meth c H locs cells slots Q (F0 m pc lsR (.int x :: .ref (ad 1001) :: r.map (mm_tr ad)))
    rw [h6]
    exact va_sld hx hb eX1 eX2 eX3 hI.2.1 hv hd k2
  case h_3 x i r =>
    cases hs
    obtain ⟨rfl, hv⟩ := hP
    intro H locs cells slots lsR ad cA tys hI
    have hW := hI.1
    have k := K _ _ _ _ _ _ _ _ hI
    have h5 : ad 1000 = tS := hW.2.2.2.2.1
    show W p l e R s m args below meth c H locs cells slots Q (F0 m pc lsR (.int x :: .ref (ad 1000) :: r.map (mm_tr ad)))
    rw [h5]
    exact va_ti hx hb eS hI.2.1 hv rfl hd k
  case h_4 => cases hs
theorem mm_i_alen {pc np : Nat} {ls st : List Value} {h : mm_Hp} {z : mm_St} (hs : mm_alen np ls st h = some z) (hP : z.2.2.2.2) (C : mm_Cx p l s m args meth c mi nL) (E : mm_ES A tS b L xs s) (hd : decode (mm_b mi) pc = .ok (.arraylength, 1)) (hnp : np = pc + 1)
    (K : mm_Go p l e R s m args below meth c Q D A tS b L xs ad0 n0 c0 s0 nL z.1 z.2.1 z.2.2.1 z.2.2.2.1) : mm_Go p l e R s m args below meth c Q D A tS b L xs ad0 n0 c0 s0 nL pc ls st h := by
  subst hnp
  obtain ⟨hx, hb, hr, hml, hnl, hown, hts, hlk, hin, hst⟩ := C
  obtain ⟨eS, eZ, ⟨eX1, eX2, eX3⟩, -⟩ := E
  unfold mm_alen at hs
  split at hs
  case h_1 i r =>
    cases hs
    have hP : i = 1001 := hP
    subst hP
    intro H locs cells slots lsR ad cA tys hI
    have hW := hI.1
    have k := K _ _ _ _ _ _ _ _ hI
    have h6 : ad 1001 = b := hW.2.2.2.2.2.1
    have h7 : mm_L h = L := hW.2.2.2.2.2.2.1
    have k2 : W p l e R s m args below meth c H locs cells slots Q (F0 m (pc + 1) lsR (.int (Int32.ofNat L) :: r.map (mm_tr ad))) := by rw [← h7]; exact k
    show W p l e R s m args below meth c H locs cells slots Q (F0 m pc lsR (.ref (ad 1001) :: r.map (mm_tr ad)))
    rw [h6]
    exact va_slen hx hb eX1 eX2 eX3 hI.2.1 hd k2
  case h_2 => cases hs
theorem mm_i_gs {pc np wi idx : Nat} {ls st : List Value} {h : mm_Hp} (C : mm_Cx p l s m args meth c mi nL) (E : mm_ES A tS b L xs s) (hw : mm_w wi (.fieldLinkNest (mm_y mi).cls idx "BulbShapes" "SHAPES" "[I" "BulbShapes") = true) (hd : decode (mm_b mi) pc = .ok (.getstatic idx, 3)) (hnp : np = pc + 3)
    (K : mm_Go p l e R s m args below meth c Q D A tS b L xs ad0 n0 c0 s0 nL np ls (.ref 1000 :: st) h) : mm_Go p l e R s m args below meth c Q D A tS b L xs ad0 n0 c0 s0 nL pc ls st h := by
  subst hnp
  obtain ⟨hx, hb, hr, hml, hnl, hown, hts, hlk, hin, hst⟩ := C
  obtain ⟨-, eZ, -, -, -, hN, -⟩ := E
  intro H locs cells slots lsR ad cA tys hI
  have hW := hI.1
  have k := K _ _ _ _ _ _ _ _ hI
  have h5 : ad 1000 = tS := hW.2.2.2.2.1
  have k2 : W p l e R s m args below meth c H locs cells slots Q (F0 m (pc + 3) lsR (.ref tS :: st.map (mm_tr ad))) := by rw [← h5]; exact k
  exact va_getsN hx hb eZ hI.2.1 hown (va_Nw.use rfl (hN _ (mm_inNW hw rfl))) (fun _ h9 => h9) hd k2
theorem mm_i_cal {pc np : Nat} {ls st : List Value} {h : mm_Hp} {z : mm_St} (hs : mm_cal np ls st h = some z) (hP : z.2.2.2.2) (C : mm_Cx p l s m args meth c mi nL) (hd : decode (mm_b mi) pc = .ok (.caload, 1)) (hnp : np = pc + 1)
    (K : mm_Go p l e R s m args below meth c Q D A tS b L xs ad0 n0 c0 s0 nL z.1 z.2.1 z.2.2.1 z.2.2.2.1) : mm_Go p l e R s m args below meth c Q D A tS b L xs ad0 n0 c0 s0 nL pc ls st h := by
  subst hnp
  obtain ⟨hx, hb, hr, hml, hnl, hown, hts, hlk, hin, hst⟩ := C
  unfold mm_cal at hs
  split at hs
  case h_1 x i r =>
    cases hs
    obtain ⟨hi, hk, hv⟩ := hP
    intro H locs cells slots lsR ad cA tys hI
    have hW := hI.1
    have he := mm_ws_get (ad := ad) (cA := cA) hi
    rw [mm_en_ia hk (Or.inr rfl)] at he
    obtain ⟨t0, ht⟩ := hW.2.2.2.1 i hi (by rw [hk]; decide)
    rw [hk] at ht
    exact va_cald hx hb hW.1 hW.2.1 i t0 he ht hv hd (K _ _ _ _ _ _ _ _ hI)
  case h_2 => cases hs
theorem mm_i_lal {pc np : Nat} {ls st : List Value} {h : mm_Hp} {z : mm_St} (hs : mm_lal np ls st h = some z) (hP : z.2.2.2.2) (C : mm_Cx p l s m args meth c mi nL) (hd : decode (mm_b mi) pc = .ok (.laload, 1)) (hnp : np = pc + 1)
    (K : mm_Go p l e R s m args below meth c Q D A tS b L xs ad0 n0 c0 s0 nL z.1 z.2.1 z.2.2.1 z.2.2.2.1) : mm_Go p l e R s m args below meth c Q D A tS b L xs ad0 n0 c0 s0 nL pc ls st h := by
  subst hnp
  obtain ⟨hx, hb, hr, hml, hnl, hown, hts, hlk, hin, hst⟩ := C
  unfold mm_lal at hs
  split at hs
  case h_1 x i r =>
    cases hs
    obtain ⟨hi, hk, hv⟩ := hP
    intro H locs cells slots lsR ad cA tys hI
    have hW := hI.1
    have he := mm_ws_get (ad := ad) (cA := cA) hi
    rw [mm_en_la hk] at he
    obtain ⟨t0, ht⟩ := hW.2.2.2.1 i hi (by rw [hk]; decide)
    rw [hk] at ht
    exact va_lald hx hb hW.1 hW.2.1 i t0 he ht hv hd (K _ _ _ _ _ _ _ _ hI)
  case h_2 => cases hs
theorem mm_i_aal {pc np : Nat} {ls st : List Value} {h : mm_Hp} {z : mm_St} (hs : mm_aal np ls st h = some z) (hP : z.2.2.2.2) (C : mm_Cx p l s m args meth c mi nL) (hd : decode (mm_b mi) pc = .ok (.aaload, 1)) (hnp : np = pc + 1)
    (K : mm_Go p l e R s m args below meth c Q D A tS b L xs ad0 n0 c0 s0 nL z.1 z.2.1 z.2.2.1 z.2.2.2.1) : mm_Go p l e R s m args below meth c Q D A tS b L xs ad0 n0 c0 s0 nL pc ls st h := by
  subst hnp
  obtain ⟨hx, hb, hr, hml, hnl, hown, hts, hlk, hin, hst⟩ := C
  unfold mm_aal at hs
  split at hs
  case h_1 x i r =>
    cases hs
    obtain ⟨har, h0⟩ := hP
    intro H locs cells slots lsR ad cA tys hI
    have hW := hI.1
    have k := K _ _ _ _ _ _ _ _ hI
    have k2 : W p l e R s m args below meth c H locs cells slots Q (F0 m (pc + 1) lsR (va_rf (mm_orf ad (mm_R h i x.toNatClampNeg)) :: r.map (mm_tr ad))) := by rw [mm_orf_ne h0]; exact k
    rcases har with ⟨hi, hk, hv⟩ | ⟨hi, hk, hv⟩
    · have he := mm_ws_get (ad := ad) (cA := cA) hi
      rw [mm_en_ra hk (Or.inl rfl)] at he
      obtain ⟨t0, ht⟩ := hW.2.2.2.1 i hi (by rw [hk]; decide)
      rw [hk] at ht
      exact va_aldq hx hb hW.1 hW.2.1 i t0 he ht hv hd k2
    · have he := mm_ws_get (ad := ad) (cA := cA) hi
      rw [mm_en_ra hk (Or.inr rfl)] at he
      obtain ⟨t0, ht⟩ := hW.2.2.2.1 i hi (by rw [hk]; decide)
      rw [hk] at ht
      exact va_aldq hx hb hW.1 hW.2.1 i t0 he ht hv hd k2
  case h_2 => cases hs
theorem mm_i_ias {pc np : Nat} {ls st : List Value} {h : mm_Hp} {z : mm_St} (hs : mm_ias np ls st h = some z) (hP : z.2.2.2.2) (C : mm_Cx p l s m args meth c mi nL) (hd : decode (mm_b mi) pc = .ok (.iastore, 1)) (hnp : np = pc + 1)
    (K : mm_Go p l e R s m args below meth c Q D A tS b L xs ad0 n0 c0 s0 nL z.1 z.2.1 z.2.2.1 z.2.2.2.1) : mm_Go p l e R s m args below meth c Q D A tS b L xs ad0 n0 c0 s0 nL pc ls st h := by
  subst hnp
  obtain ⟨hx, hb, hr, hml, hnl, hown, hts, hlk, hin, hst⟩ := C
  unfold mm_ias at hs
  split at hs
  case h_1 x j i r =>
    cases hs
    obtain ⟨hi, hk, hv⟩ := hP
    intro H locs cells slots lsR ad cA tys hI
    have hW := hI.1
    have he := mm_ws_get (ad := ad) (cA := cA) hi
    rw [mm_en_ia hk (Or.inl rfl)] at he
    obtain ⟨t0, ht⟩ := hW.2.2.2.1 i hi (by rw [hk]; decide)
    rw [hk] at ht
    refine va_iast hx hb hW.1 hW.2.1 hW.2.2.1 hI.2.1 i t0 he ht hv hd (fun H1 locs1 hP1 hD1 hS1 => K _ _ _ _ _ _ _ _ (hI.upd (h' := mm_sI h (va_up (mm_I h) i (upd (mm_I h i) j.toNatClampNeg x))) rfl rfl rfl ?_ (fun j' _ hj' => mm_en_congr rfl rfl (mm_up_ne _ _ hj') rfl) hP1 hD1 hS1))
    rw [mm_en_ia (h := mm_sI h (va_up (mm_I h) i (upd (mm_I h i) j.toNatClampNeg x))) (k := 10) hk (Or.inl rfl)]
    show Sum.inl (cA i, (mm_K h i).2, Sum.inl (va_up (mm_I h) i (upd (mm_I h i) j.toNatClampNeg x) i)) = _
    rw [mm_up_self]
  case h_2 => cases hs
theorem mm_i_cas {pc np : Nat} {ls st : List Value} {h : mm_Hp} {z : mm_St} (hs : mm_cas np ls st h = some z) (hP : z.2.2.2.2) (C : mm_Cx p l s m args meth c mi nL) (hd : decode (mm_b mi) pc = .ok (.castore, 1)) (hnp : np = pc + 1)
    (K : mm_Go p l e R s m args below meth c Q D A tS b L xs ad0 n0 c0 s0 nL z.1 z.2.1 z.2.2.1 z.2.2.2.1) : mm_Go p l e R s m args below meth c Q D A tS b L xs ad0 n0 c0 s0 nL pc ls st h := by
  subst hnp
  obtain ⟨hx, hb, hr, hml, hnl, hown, hts, hlk, hin, hst⟩ := C
  unfold mm_cas at hs
  split at hs
  case h_1 x j i r =>
    cases hs
    obtain ⟨⟨hi, hk, hv⟩, hnar⟩ := hP
    intro H locs cells slots lsR ad cA tys hI
    have hW := hI.1
    have he := mm_ws_get (ad := ad) (cA := cA) hi
    rw [mm_en_ia hk (Or.inr rfl)] at he
    obtain ⟨t0, ht⟩ := hW.2.2.2.1 i hi (by rw [hk]; decide)
    rw [hk] at ht
    refine va_cast hx hb hW.1 hW.2.1 hW.2.2.1 hI.2.1 i t0 he ht hv hd (fun H1 locs1 hP1 hD1 hS1 => K _ _ _ _ _ _ _ _ (hI.upd (h' := mm_sI h (va_up (mm_I h) i (upd (mm_I h i) j.toNatClampNeg x))) rfl rfl rfl ?_ (fun j' _ hj' => mm_en_congr rfl rfl (mm_up_ne _ _ hj') rfl) hP1 hD1 hS1))
    rw [mm_en_ia (h := mm_sI h (va_up (mm_I h) i (upd (mm_I h i) j.toNatClampNeg x))) (k := 11) hk (Or.inr rfl)]
    show Sum.inl (cA i, (mm_K h i).2, Sum.inl (va_up (mm_I h) i (upd (mm_I h i) j.toNatClampNeg x) i)) = _
    rw [mm_up_self, hnar]
  case h_2 => cases hs
theorem mm_i_las {pc np : Nat} {ls st : List Value} {h : mm_Hp} {z : mm_St} (hs : mm_las np ls st h = some z) (hP : z.2.2.2.2) (C : mm_Cx p l s m args meth c mi nL) (hd : decode (mm_b mi) pc = .ok (.lastore, 1)) (hnp : np = pc + 1)
    (K : mm_Go p l e R s m args below meth c Q D A tS b L xs ad0 n0 c0 s0 nL z.1 z.2.1 z.2.2.1 z.2.2.2.1) : mm_Go p l e R s m args below meth c Q D A tS b L xs ad0 n0 c0 s0 nL pc ls st h := by
  subst hnp
  obtain ⟨hx, hb, hr, hml, hnl, hown, hts, hlk, hin, hst⟩ := C
  unfold mm_las at hs
  split at hs
  case h_1 x j i r =>
    cases hs
    obtain ⟨hi, hk, hv⟩ := hP
    intro H locs cells slots lsR ad cA tys hI
    have hW := hI.1
    have he := mm_ws_get (ad := ad) (cA := cA) hi
    rw [mm_en_la hk] at he
    obtain ⟨t0, ht⟩ := hW.2.2.2.1 i hi (by rw [hk]; decide)
    rw [hk] at ht
    refine va_last hx hb hW.1 hW.2.1 hW.2.2.1 hI.2.1 i t0 he ht hv hd (fun H1 locs1 hP1 hD1 hS1 => K _ _ _ _ _ _ _ _ (hI.upd (h' := mm_sJ h (va_up (mm_J h) i (vp_updL (mm_J h i) j.toNatClampNeg x))) rfl rfl rfl ?_ (fun j' _ hj' => mm_en_congr rfl rfl rfl (mm_up_ne _ _ hj')) hP1 hD1 hS1))
    rw [mm_en_la (h := mm_sJ h (va_up (mm_J h) i (vp_updL (mm_J h i) j.toNatClampNeg x))) hk]
    show Sum.inl (cA i, (mm_K h i).2, Sum.inr (Sum.inl (va_up (mm_J h) i (vp_updL (mm_J h i) j.toNatClampNeg x) i))) = _
    rw [mm_up_self]
  case h_2 => cases hs
theorem mm_orf_up {ad : Nat → Nat} {f : Nat → Nat} {k q : Nat} (hq : q ≠ 0) : (fun j => mm_orf ad (va_up f k q j)) = va_up (fun j => mm_orf ad (f j)) k (some (ad q)) := by
  funext j
  by_cases h : j = k
  · subst h
    rw [mm_up_self, mm_up_self]
    unfold mm_orf
    rw [if_neg hq]
  · rw [mm_up_ne _ _ h, mm_up_ne _ _ h]
theorem mm_i_aas {pc np : Nat} {ls st : List Value} {h : mm_Hp} {z : mm_St} (hs : mm_aas np ls st h = some z) (hP : z.2.2.2.2) (C : mm_Cx p l s m args meth c mi nL) (hd : decode (mm_b mi) pc = .ok (.aastore, 1)) (hnp : np = pc + 1)
    (K : mm_Go p l e R s m args below meth c Q D A tS b L xs ad0 n0 c0 s0 nL z.1 z.2.1 z.2.2.1 z.2.2.2.1) : mm_Go p l e R s m args below meth c Q D A tS b L xs ad0 n0 c0 s0 nL pc ls st h := by
  subst hnp
  obtain ⟨hx, hb, hr, hml, hnl, hown, hts, hlk, hin, hst⟩ := C
  unfold mm_aas at hs
  split at hs
  case h_1 q j i r =>
    cases hs
    obtain ⟨hor, h0⟩ := hP
    have key : ∀ (k ci : Nat) (rr : vw_C), (k = 13 ∨ k = 14) → mm_ar h i k j → mm_ob h q ci → ci < 6 → mm_cl[ci]? = some rr → mm_aty k = .object rr.1 → mm_Go p l e R s m args below meth c Q D A tS b L xs ad0 n0 c0 s0 nL pc ls (.ref q :: .int j :: .ref i :: r) h := by
      intro k ci rr hk2 ⟨hi, hk, hv⟩ ⟨hq, hkq⟩ hc6 hcl hat H locs cells slots lsR ad cA tys hI
      have hW := hI.1
      have he := mm_ws_get (ad := ad) (cA := cA) hi
      rw [mm_en_ra hk hk2] at he
      have hq9 := mm_ws_get (ad := ad) (cA := cA) hq
      rw [mm_en_obj hkq hc6] at hq9
      obtain ⟨t0, ht⟩ := hW.2.2.2.1 i hi (by rw [hk]; omega)
      rw [hk, hat] at ht
      refine va_astq hx hb hW.1 hW.2.1 hW.2.2.1 hI.2.1 i t0 q ci he ht hq9 hcl hv hd (fun H1 locs1 hP1 hD1 hS1 => K _ _ _ _ _ _ _ _ (hI.upd (h' := mm_sR h (va_up (mm_R h) i (va_up (mm_R h i) j.toNatClampNeg q))) rfl rfl rfl ?_ (fun j' _ hj' => mm_en_congr rfl (mm_up_ne _ _ hj') rfl rfl) hP1 hD1 hS1))
      rw [mm_en_ra (h := mm_sR h (va_up (mm_R h) i (va_up (mm_R h i) j.toNatClampNeg q))) hk hk2]
      show Sum.inl (cA i, (mm_K h i).2, Sum.inr (Sum.inr (Sum.inr (Sum.inr (fun j' => mm_orf ad (va_up (mm_R h) i (va_up (mm_R h i) j.toNatClampNeg q) i j')))))) = _
      rw [mm_up_self, mm_orf_up h0]
    rcases hor with ⟨h1, h2⟩ | ⟨h1, h2⟩
    · exact key 13 2 (RX2, TX2, 3) (Or.inl rfl) h1 h2 (by decide) rfl rfl
    · exact key 14 0 (RX0, TX0, 6) (Or.inr rfl) h1 h2 (by decide) rfl rfl
  case h_2 => cases hs
end MM
