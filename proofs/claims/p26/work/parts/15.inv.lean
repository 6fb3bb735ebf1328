/-! ===== single instructions, 5: Object.<init>, arraycopy, the bits of a double; what the walk has at hand, kept ===== -/
theorem mm_nfw1 : nativeFrameWords "java/lang/System" "arraycopy" 5 ≤ 41 := by decide +kernel
theorem mm_ES.go {A A' : Nat → Prop} {tS b L : Nat} {xs : Nat → Int32} {U T : State} (h : mm_ES A tS b L xs U) (hW : U.WarmedH T.vm) (hk : ∀ q : Nat, q < U.heap.size → ¬ A q → T.heap[q]? = U.heap[q]?) (hz : U.heap.size ≤ T.heap.size) (hA : ∀ q, A' q → A q) : mm_ES A' tS b L xs T := by
  obtain ⟨a1, b1, ⟨c1, c2, c3⟩, d1, d2, e1, f1, g1, g2, h1⟩ := h
  have hv := hW.alike
  refine ⟨va_T.moved hv ((a1.kept hk).narrow hA), va_Z.moved hv ((b1.kept hk).narrow hA), ⟨(c1.kept (hk _ c2 c3)).moved hv, Nat.lt_of_lt_of_le c2 hz, fun q => c3 (hA _ q)⟩,
    vx_Zq.moved hv ((d1.kept hk).narrow hA), vx_Zq.moved hv ((d2.kept hk).narrow hA), ?_, ?_, g1.moved hv, g2.moved hv, fun E E' x y n => (h1 E E' x y n).moved hv⟩
  · intro w hw
    have hn := (List.mem_filter.mp hw).2
    have hu := e1 w hw
    cases w <;> first | cases hn; done | exact va_Nw.warmF hW hu | exact va_Nw.warmM hW hu | exact va_Nw.warmD hW hu | exact va_Nw.warmC hW hu
  · intro i k o tx hi
    obtain ⟨sa, hs⟩ := f1 i k o tx hi
    exact ⟨sa, hs.warm hW⟩
section MM
variable {p : Program} {l : Launch} {e : Env} {R : Room} {s : State} {m : MethodId} {args : Array Value} {below : List Frame} {meth : Method} {c : Code} {Q : State → Prop} {D : va_G} {A : Nat → Prop} {tS b L : Nat} {xs : Nat → Int32} {ad0 : Nat → Nat} {n0 c0 s0 nL mi : Nat}
theorem mm_sumcat {ad : Nat → Nat} {r : List Value} (h : (r.map Value.category).sum ≤ 8) : ((r.map (mm_tr ad)).map fun v => v.category).sum ≤ 8 := by
  rw [mm_trs_cat]; exact h
theorem mm_i_obj {pc np idx : Nat} {aux : List Nat} {ls st : List Value} {h : mm_Hp} {z : mm_St} (hs : mm_inv np aux ls st h = some z) (hP : z.2.2.2.2) (C : mm_Cx p l s m args meth c mi nL) (hok : mm_okP mi idx aux = true) (hd : decode (mm_b mi) pc = .ok (.invokespecial idx, 3)) (hnp : np = pc + 3) (hF : mm_fr mi ≤ R.frames) (hL9 : mm_lo mi ≤ R.locals)
    (K : mm_Go p l e R s m args below meth c Q D A tS b L xs ad0 n0 c0 s0 nL z.1 z.2.1 z.2.2.1 z.2.2.2.1) : mm_Go p l e R s m args below meth c Q D A tS b L xs ad0 n0 c0 s0 nL pc ls st h := by
  subst hnp
  obtain ⟨hx, hb, hr, hml, hnl, hown, hts, hlk, hin, hst⟩ := C
  unfold mm_okP at hok
  split at hok
  case h_1 wl wn wc =>
    simp only [Bool.and_eq_true, decide_eq_true_eq] at hok
    obtain ⟨⟨⟨⟨h1, h2⟩, h3⟩, h4⟩, h5⟩ := hok
    unfold mm_inv at hs
    split at hs
    case h_1 tl i r heq =>
      cases hs
      intro H locs cells slots lsR ad cA tys hI
      have hsum := mm_sumcat (ad := ad) (show (r.map Value.category).sum ≤ 8 from hP)
      refine W.objInit hx hb hown (hts _ (mm_inG h1 rfl)) (hts _ (mm_inG h2 rfl)) (hts _ (mm_inG h3 rfl)) rfl (by rw [hml]; exact hI.2.2.1.1.1) (a := ad i) (rest := r.map (mm_tr ad)) rfl hd (by omega) ?_ ?_
      · show 2 * 0 + _ + 12 ≤ R.locals
        omega
      · exact W.eq (g2 := F0 m (pc + 3) lsR (r.map (mm_tr ad))) rfl (K _ _ _ _ _ _ _ _ hI)
    case h_2 heq => cases heq
    case h_3 heq => cases heq
    case h_4 => cases hs
  case h_2 => unfold mm_inv at hs; split at hs <;> first | cases hs; done | (rename_i heq; cases heq)
  case h_3 => unfold mm_inv at hs; split at hs <;> first | cases hs; done | (rename_i heq; cases heq)
  case h_4 => cases hok
theorem mm_i_nat {pc np idx : Nat} {aux : List Nat} {ls st : List Value} {h : mm_Hp} {z : mm_St} (hs : mm_inv np aux ls st h = some z) (hP : z.2.2.2.2) (C : mm_Cx p l s m args meth c mi nL) (hok : mm_okS mi idx aux = true) (hd : decode (mm_b mi) pc = .ok (.invokestatic idx, 3)) (hnp : np = pc + 3) (hF : mm_fr mi ≤ R.frames) (hL9 : mm_lo mi ≤ R.locals)
    (K : mm_Go p l e R s m args below meth c Q D A tS b L xs ad0 n0 c0 s0 nL z.1 z.2.1 z.2.2.1 z.2.2.2.1) : mm_Go p l e R s m args below meth c Q D A tS b L xs ad0 n0 c0 s0 nL pc ls st h := by
  subst hnp
  obtain ⟨hx, hb, hr, hml, hnl, hown, hts, hlk, hin, hst⟩ := C
  unfold mm_okS at hok
  split at hok
  case h_4 wl wn ws wt =>
    simp only [Bool.and_eq_true, decide_eq_true_eq] at hok
    obtain ⟨⟨⟨⟨⟨h1, h2⟩, h3⟩, h4⟩, h5⟩, h6⟩ := hok
    unfold mm_inv at hs
    split at hs
    case h_2 tl n dp b1 sp a1 r heq =>
      cases hs
      obtain ⟨⟨ha, hka⟩, ⟨hb1, hkb⟩, q1, q2, q3, q4, q5, q6⟩ := hP
      intro H locs cells slots lsR ad cA tys hI
      have hW := hI.1
      have hsum := mm_sumcat (ad := ad) q6
      have hea := mm_ws_get (ad := ad) (cA := cA) ha
      rw [mm_en_ia hka (Or.inl rfl)] at hea
      have heb := mm_ws_get (ad := ad) (cA := cA) hb1
      rw [mm_en_ia hkb (Or.inl rfl)] at heb
      obtain ⟨ta, hta⟩ := hW.2.2.2.1 a1 ha (by rw [hka]; decide)
      obtain ⟨tb, htb⟩ := hW.2.2.2.1 b1 hb1 (by rw [hkb]; decide)
      rw [hka] at hta
      rw [hkb] at htb
      have hw9 := mm_nfw1
      refine va_copyi hx hb (by rw [hml]; exact hI.2.2.1.1.1.symm) hown (hts _ (mm_inG h1 rfl)) (hts _ (mm_inG h2 rfl)) (hts _ (mm_inG h3 rfl)) (hts _ (mm_inG h4 rfl)) hW.1 hW.2.1 hW.2.2.1 hI.2.1 a1 b1 ta tb hea heb hta htb rfl q1 q2 q3 q4 q5 (fun _ _ => rfl) (by omega) (by omega) hd (fun H1 locs1 hP1 hD1 hS1 => K _ _ _ _ _ _ _ _ (hI.upd (h' := mm_sI h (va_up (mm_I h) b1 (va_cpy (mm_I h a1) (mm_I h b1) sp.toNatClampNeg dp.toNatClampNeg n.toNatClampNeg))) rfl rfl rfl ?_ (fun j' _ hj' => mm_en_congr rfl rfl (mm_up_ne _ _ hj') rfl) hP1 hD1 hS1))
      rw [mm_en_ia (h := mm_sI h (va_up (mm_I h) b1 (va_cpy (mm_I h a1) (mm_I h b1) sp.toNatClampNeg dp.toNatClampNeg n.toNatClampNeg))) (k := 10) hkb (Or.inl rfl)]
      show Sum.inl (cA b1, (mm_K h b1).2, Sum.inl (va_up (mm_I h) b1 (va_cpy (mm_I h a1) (mm_I h b1) sp.toNatClampNeg dp.toNatClampNeg n.toNatClampNeg) b1)) = _
      rw [mm_up_self]
    case h_1 heq => cases heq
    case h_3 heq => cases heq
    case h_4 => cases hs
  case h_5 wl wn ws wt =>
    simp only [Bool.and_eq_true, decide_eq_true_eq] at hok
    obtain ⟨⟨⟨⟨⟨h1, h2⟩, h3⟩, h4⟩, h5⟩, h6⟩ := hok
    unfold mm_inv at hs
    split at hs
    case h_3 tl x r heq =>
      cases hs
      intro H locs cells slots lsR ad cA tys hI
      have hsum := mm_sumcat (ad := ad) (show (r.map Value.category).sum ≤ 8 from hP)
      exact vn_d2l hx hb (by rw [hml]; exact hI.2.2.1.1.1.symm) hown (hts _ (mm_inG h1 rfl)) (hts _ (mm_inG h2 rfl)) (hts _ (mm_inG h3 rfl)) (hts _ (mm_inG h4 rfl)) (by omega) (by omega) hd (K _ _ _ _ _ _ _ _ hI)
    case h_1 heq => cases heq
    case h_2 heq => cases heq
    case h_4 => cases hs
  all_goals first
    | (cases hok; done)
    | (unfold mm_inv at hs; split at hs <;> first | (cases hs; done) | (rename_i heq; cases heq; done))
end MM
