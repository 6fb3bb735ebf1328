/-! ===== every run of a method of the mini machine is its contract over the real one ===== -/
def mm_nms : List String := ["java/lang/RuntimeException", "java/lang/Exception"]
theorem mm_at1 : ∀ w ∈ (vx_atS "BulbShapes" 52 "java/lang/IndexOutOfBoundsException" mm_nms).filter goodWord, w ∈ lw_tbl := by decide +kernel
theorem mm_at2 : ∀ w ∈ (vx_atS "BulbShapes" 62 "java/lang/IllegalArgumentException" mm_nms).filter goodWord, w ∈ lw_tbl := by decide +kernel
theorem mm_at3 : ∀ w ∈ (vx_atS "BulbShapes" 70 "java/lang/IllegalStateException" mm_nms).filter goodWord, w ∈ lw_tbl := by decide +kernel
theorem mm_an1 : ∀ w ∈ (vx_atS "BulbShapes" 52 "java/lang/IndexOutOfBoundsException" mm_nms).filter (fun w => !goodWord w), w ∈ mm_NW := by decide +kernel
theorem mm_an2 : ∀ w ∈ (vx_atS "BulbShapes" 62 "java/lang/IllegalArgumentException" mm_nms).filter (fun w => !goodWord w), w ∈ mm_NW := by decide +kernel
theorem mm_an3 : ∀ w ∈ (vx_atS "BulbShapes" 70 "java/lang/IllegalStateException" mm_nms).filter (fun w => !goodWord w), w ∈ mm_NW := by decide +kernel
theorem mm_ao1 : ∀ w ∈ vx_atS "BulbShapes" 52 "java/lang/IndexOutOfBoundsException" mm_nms, vx_ot w = true := by decide +kernel
theorem mm_ao2 : ∀ w ∈ vx_atS "BulbShapes" 62 "java/lang/IllegalArgumentException" mm_nms, vx_ot w = true := by decide +kernel
theorem mm_ao3 : ∀ w ∈ vx_atS "BulbShapes" 70 "java/lang/IllegalStateException" mm_nms, vx_ot w = true := by decide +kernel
theorem mm_nwt {w : Jvm.Cond} (h : mm_nw w = true) : w.onTables = true := by cases w <;> first | rfl | cases h
theorem mm_atE {E : Nat} (hE : E = 1 ∨ E = 2 ∨ E = 3) {args : Array Value} {s : State} (hts : ∀ w ∈ mm_G, w.before args s = true) (hN : ∀ w ∈ mm_NW, va_Nw w s) :
    (∀ w ∈ vx_atS "BulbShapes" (mm_exi E) (mm_exn E) mm_nms, w.before args s = true) ∧ ∀ w ∈ vx_atS "BulbShapes" (mm_exi E) (mm_exn E) mm_nms, vx_ot w = true := by
  have hB : ∀ w ∈ mm_NW, w.before args s = true := fun w hw => va_Nw.use (mm_nwt (List.mem_filter.mp hw).2) (hN w hw)
  rcases hE with rfl | rfl | rfl
  · exact ⟨vx_hat (fun w hw => hts w (List.mem_filter.mpr ⟨mm_at1 w hw, (List.mem_filter.mp hw).2⟩)) mm_an1 hB, mm_ao1⟩
  · exact ⟨vx_hat (fun w hw => hts w (List.mem_filter.mpr ⟨mm_at2 w hw, (List.mem_filter.mp hw).2⟩)) mm_an2 hB, mm_ao2⟩
  · exact ⟨vx_hat (fun w hw => hts w (List.mem_filter.mpr ⟨mm_at3 w hw, (List.mem_filter.mp hw).2⟩)) mm_an3 hB, mm_ao3⟩
theorem mm_fitE {E : Nat} (hE : E = 1 ∨ E = 2 ∨ E = 3) : Bundle.fit (mm_exn E) = true := by
  rcases hE with rfl | rfl | rfl <;> decide +kernel
theorem mm_fitN : ∀ n ∈ mm_nms, Bundle.fit n = true := by decide +kernel
theorem mm_plain : (List.range 78).all (fun mj => plainName (mm_y mj).cls) = true := by decide +kernel
theorem mm_asc_ent {ad : Nat → Nat} (k : Nat) : ∀ (av : List Value) (i : Nat) (q : Nat × Value), q ∈ mm_asc ad i (mm_spread av ++ List.replicate k .null) → q ∈ lv_args i (av.map (mm_tr ad))
  | [], i, q, h => by
    exfalso
    simp only [mm_spread, List.nil_append] at h
    obtain ⟨j, -, h2, -⟩ := (mm_asc_mem _ _ _).mp h
    rcases mm_lget_mem (List.replicate k Value.null) j with h3 | h3
    · exact h2 h3
    · exact h2 (List.eq_of_mem_replicate h3)
  | v :: t, i, q, h => by
    have key : ∀ i', q ∈ mm_asc ad i' (mm_spread t ++ List.replicate k .null) → i' = (if (mm_tr ad v).category = 2 then i + 2 else i + 1) → q ∈ lv_args i ((v :: t).map (mm_tr ad)) := by
      intro i' h' hi'
      subst hi'
      exact List.mem_cons_of_mem _ (mm_asc_ent k t _ q h')
    have hd : ∀ q, q ∈ (bif decide (v = .null) then [] else [(i, mm_tr ad v)] : List (Nat × Value)) → q ∈ lv_args i ((v :: t).map (mm_tr ad)) := by
      intro q hq
      by_cases hv : v = .null
      · simp [hv] at hq
      · simp [hv] at hq
        rw [hq]
        exact List.mem_cons_self
    cases h2 : mm_two v with
    | true =>
      have hc : (mm_tr ad v).category = 2 := (mm_tr_two ad v).mpr h2
      simp only [mm_spread, h2, cond_true, List.cons_append, List.nil_append, mm_asc] at h
      rcases List.mem_append.mp h with h | h
      · exact hd q h
      · rcases List.mem_append.mp h with h | h
        · simp at h
        · exact key _ h (by rw [if_pos hc])
    | false =>
      have hc : ¬ (mm_tr ad v).category = 2 := fun q => by rw [(mm_tr_two ad v).mp q] at h2; cases h2
      simp only [mm_spread, h2, cond_false, List.cons_append, List.nil_append, mm_asc] at h
      rcases List.mem_append.mp h with h | h
      · exact hd q h
      · exact key _ h (by rw [if_neg hc])
theorem mm_spread_len (ad : Nat → Nat) : ∀ av : List Value, (lg_sl (av.map (mm_tr ad))).length = (mm_spread av).length
  | [] => rfl
  | v :: t => by
    have ih := mm_spread_len ad t
    unfold lg_sl at ih ⊢
    rw [List.map_cons, List.flatMap_cons, List.length_append, ih]
    cases h2 : mm_two v with
    | true =>
      rw [if_pos ((mm_tr_two ad v).mpr h2)]
      simp [mm_spread, h2]
      omega
    | false =>
      rw [if_neg (fun q => by rw [(mm_tr_two ad v).mp q] at h2; cases h2)]
      simp [mm_spread, h2]
      omega
theorem mm_Wd_ex {D : va_G} {A : Nat → Prop} {tS b L : Nat} {xs : Nat → Int32} {s : State} {ad cA : Nat → Nat} {tys : List (ClassId × FieldType)} {h : mm_Hp} {H : Heap} (hW : mm_Wd D A tS b L xs s ad cA tys h H) : mm_Wd D A tS b L xs s ad cA tys (mm_ex h) H := hW
set_option maxHeartbeats 4000000 in
theorem mm_body {n : Nat} {mj : Nat} {av : List Value} {h : mm_Hp} {r : mm_Res} {l : Launch} {D : va_G} {tS b L : Nat} {xs : Nat → Int32} (hl : l.stackTraces = false) (hmj : mj < 77) (hsp : (mm_spread av).length ≤ mm_ml mj) (hRn : mm_Rn n mj 0 (mm_ent (mm_ml mj) av) [] h r)
    (IHc : ∀ n', n' < n → ∀ mj av h r', mm_Rn n' mj 0 (mm_ent (mm_ml mj) av) [] h r' → mj < 77 → (mm_spread av).length ≤ mm_ml mj → mm_Con l D tS b L xs mj av h r')
    {ad cA : Nat → Nat} {tys : List (ClassId × FieldType)} {sz : Nat} {p : Program} {e : Env} {s : State} {m : MethodId} {args : Array Value} {below : List Frame} {meth : Method} {c : Code} {s₁ : State}
    (B : BodyLoose p l (mm_y mj) (headSpec (mm_wd mj) (mm_Rm mj h r)) (mm_b mj) (mm_ml mj) (mm_rt mj) e s m args below meth c s₁) (hml : c.maxLocals = mm_ml mj) (hT : c.exceptionTable.toList = tableOf (mm_hh mj)) (hv : mm_Pr D tS b L xs av ad cA tys sz h args s) :
    W p l e (headSpec (mm_wd mj) (mm_Rm mj h r)).room s m args below meth c s.heap [] 0 0 (vx_MQ below (mm_Qr D (va_A (mm_ws ad cA h) sz) tS b L xs ad (mm_n h) r) (mm_Xr D (va_A (mm_ws ad cA h) sz) tS b L xs ad (mm_n h) r) args s (mm_c r.2 - mm_c h) (mm_s r.2 - mm_s h) (va_A (mm_ws ad cA h) sz)) (entryFrame m args (mm_ml mj)) := by
  obtain ⟨rfl, hsz, hWd, hES⟩ := hv
  subst hsz
  have hts0 := atoms_spec (ws := mm_wd mj) B.pre
  have hts : ∀ w ∈ mm_G, w.before (av.map (mm_tr ad)).toArray s = true := fun w hw => hts0 w (List.mem_cons_of_mem _ hw)
  have hown : s.vm.findClass (mm_y mj).cls = some m.cls := findClass_of_methodNamed B.named
  have hnm : meth.name = (mm_y mj).name := (name_of_methodNamed B.named B.method).1
  have C : mm_Cx p l s m (av.map (mm_tr ad)).toArray meth c mj (mm_ml mj) := ⟨B.exec, B.bytes, B.returns, hml, rfl, hown, hts, B.notSynchronized, fun q => hnm.trans q, hl⟩
  have hle := mm_Rn_le2 _ _ _ _ _ _ _ hRn
  have hA : ∀ q : Nat, s.heap.size ≤ q → va_A (mm_ws ad cA h) s.heap.size q := fun q hq => Or.inr hq
  have hl9 := lv_entry (av.map (mm_tr ad)) (n := mm_ml mj) (by rw [mm_spread_len]; exact hsp)
  rw [lg_entry_eq]
  generalize (lg_sl (av.map (mm_tr ad)) ++ List.replicate (mm_ml mj - (lg_sl (av.map (mm_tr ad))).length) Slot.unset).toArray = lsR at hl9 ⊢
  have hLR : mm_LR ad lsR (mm_ml mj) (mm_ent (mm_ml mj) av) := by
    refine ⟨⟨hl9.1, hl9.2.1, fun q hq => hl9.2.2 q (mm_asc_ent _ _ _ _ hq)⟩, ?_⟩
    unfold mm_ent
    rw [List.length_append, List.length_replicate]
    omega
  have hWd2 : mm_Wd D (va_A (mm_ws ad cA h) s.heap.size) tS b L xs s ad cA tys h s.heap := by
    obtain ⟨w1, w2, w3, w4⟩ := hWd
    exact ⟨w1, w2, w3.self, w4⟩
  have hI : mm_Iv D (va_A (mm_ws ad cA h) s.heap.size) tS b L xs s ad (mm_n h) (mm_c h) (mm_s h) (mm_ml mj) ad cA tys lsR (mm_ent (mm_ml mj) av) h s.heap [] 0 0 :=
    ⟨hWd2, va_S.rf, hLR, by omega, by omega, Nat.le_refl _, fun _ _ => rfl⟩
  have post : ∀ {h' : mm_Hp} {H : Heap} {locs : List Loc} {cells slots : Nat} {lsR' : Array Slot} {ls' : List Value} {ad' cA' : Nat → Nat} {tys' : List (ClassId × FieldType)} {v : Option Value}, r = ((0, v), h') → mm_Iv D (va_A (mm_ws ad cA h) s.heap.size) tS b L xs s ad (mm_n h) (mm_c h) (mm_s h) (mm_ml mj) ad' cA' tys' lsR' ls' h' H locs cells slots →
      (∀ t : State, t.heap = H → s.WarmedH t.vm → mm_Qr D (va_A (mm_ws ad cA h) s.heap.size) tS b L xs ad (mm_n h) r (av.map (mm_tr ad)).toArray s (.returned v) t) ∧ (∀ q ∈ locs, va_A (mm_ws ad cA h) s.heap.size q.base) ∧ cells ≤ mm_c r.2 - mm_c h ∧ slots ≤ mm_s r.2 - mm_s h := by
    intro h' H locs cells slots lsR' ls' ad' cA' tys' v hr hI'
    obtain ⟨i1, i2, i3, i4, i5, i6, i7⟩ := hI'
    have e1 : r.2 = h' := by rw [hr]
    refine ⟨fun t ht hW => ⟨by rw [hr], by rw [hr], ⟨ad', cA', tys', ?_, ?_⟩, i2.F ht⟩, i2.2.2, by rw [e1]; omega, by rw [e1]; omega⟩
    · rw [e1, ht]; exact i1.moved hW.alike
    · rw [e1]; exact i7
  refine mm_walk (N := n) (r := r) C hES hA (fun _ => hT) (Nat.le_refl _) (Nat.le_refl _) ⟨?_, ?_⟩ IHc ⟨?_, ?_, ?_, ?_, ?_⟩ n (Nat.le_refl _) 0 _ _ _ hRn _ _ _ _ _ _ _ _ hI
  · show mm_c r.2 ≤ mm_c h + (mm_c r.2 - mm_c h)
    omega
  · show mm_s r.2 ≤ mm_s h + (mm_s r.2 - mm_s h)
    omega
  · intro pc ls x h' ty hd hrt hn hr H locs cells slots lsR' ad' cA' tys' hI'
    obtain ⟨p1, p2, p3, p4⟩ := post hr hI'
    refine vx_ret (W.widen p3 p4 ?_)
    exact W.zret B.exec B.bytes (B.returns.trans hrt) hn p1 p2 hd B.notSynchronized
  · intro pc ls x h' hd hrt hr H locs cells slots lsR' ad' cA' tys' hI'
    obtain ⟨p1, p2, p3, p4⟩ := post hr hI'
    refine vx_ret (W.widen p3 p4 ?_)
    exact W.lret B.exec B.bytes (B.returns.trans hrt) p1 p2 hd B.notSynchronized
  · intro pc ls x h' hd hrt hr H locs cells slots lsR' ad' cA' tys' hI'
    obtain ⟨p1, p2, p3, p4⟩ := post hr hI'
    refine vx_ret (W.widen p3 p4 ?_)
    exact W.dret B.exec B.bytes (B.returns.trans hrt) p1 p2 hd B.notSynchronized
  · intro pc ls h' hd hrt hr H locs cells slots lsR' ad' cA' tys' hI'
    obtain ⟨p1, p2, p3, p4⟩ := post hr hI'
    refine vx_ret (W.widen p3 p4 ?_)
    exact W.vret B.exec B.bytes (B.returns.trans hrt) p1 p2 hd B.notSynchronized
  · intro pc ls st h' i E aux hd hok hst hr H locs cells slots lsR' ad' cA' tys' hI'
    unfold mm_okN at hok
    split at hok
    case h_1 heq => cases heq
    case h_3 => cases hok
    case h_2 E9 wi is ic wt ws heq =>
      cases heq
      simp only [Bool.and_eq_true, decide_eq_true_eq] at hok
      obtain ⟨⟨⟨⟨⟨⟨⟨⟨⟨⟨⟨⟨q1, q2⟩, q3⟩, q4⟩, q5⟩, q6⟩, q7⟩, q8⟩, q9⟩, q10⟩, q11⟩, q12⟩, q13⟩ := hok
      split at q10
      case h_2 => cases q10
      case h_1 o k tx hws =>
        simp only [Bool.and_eq_true, decide_eq_true_eq] at q10
        obtain ⟨rfl, rfl⟩ := q10
        obtain ⟨sa, hstr⟩ := hES.2.2.2.2.2.2.1 _ _ _ _ hws
        obtain ⟨i1, i2, i3, i4, i5, i6, i7⟩ := hI'
        have e1 : r.2 = mm_ex h' := by rw [hr]
        have e2 : mm_c r.2 = mm_c h' + 1 := by rw [e1]; rfl
        have e3 : mm_s r.2 = mm_s h' + 6 := by rw [e1]; rfl
        have hat := mm_atE (args := (av.map (mm_tr ad)).toArray) q1 hts hES.2.2.2.2.2.1
        rw [← q5, ← q2] at hat
        have hsum := mm_sumcat (ad := ad') hst
        have hsz9 : lsR'.size = c.maxLocals := by rw [hml]; exact i3.1.1
        refine vx_throwS (names := mm_nms) B.exec B.bytes hl hown (mm_fitE q1) mm_fitN (hts _ (mm_inG q3 rfl)) (hts _ (mm_inG q4 rfl)) hstr hat.1 (fun w hw => ?_) hES.2.2.2.1 hES.2.2.2.2.1 i2 hsz9 hd q6 q7 q8 q9 (fun x hx => ?_) ?_ ?_ ?_ ?_ B.notSynchronized (fun t hv hz hk => ?_) i2.2.2 ?_ ?_
        · rcases List.mem_cons.mp hw with rfl | hw
          · rfl
          · rcases List.mem_cons.mp hw with rfl | hw
            · rfl
            · exact hat.2 w hw
        · rw [hT, q13] at hx
          cases hx
        · show 2 + 3 < mm_fr mj
          omega
        · show _ + (13 * (2 + 1) + 43) ≤ mm_lo mj
          omega
        · show cells + 1 ≤ mm_c r.2 - mm_c h
          omega
        · show slots + 6 ≤ mm_s r.2 - mm_s h
          omega
        · have hE : r.1.1 = E := by rw [hr]
          refine ⟨by rw [hE]; exact q1, by rw [hE], ⟨ad', cA', tys', ?_, ?_⟩, Nat.le_trans i2.1 hz, fun q h1 h2 => ?_⟩
          · rw [e1]
            obtain ⟨w1, w2, w3, w4⟩ := i1
            exact mm_Wd_ex ⟨va_K.moved hv w1, w2.kept (fun k' q' hk' => hk _ (w2 k' q' hk').lt), w3, w4⟩
          · rw [e1]; exact i7
          · rw [hk q (Nat.lt_of_lt_of_le h1 i2.1)]
            exact i2.2.1 q h1 h2
        · omega
        · omega
theorem mm_con {l : Launch} {D : va_G} {tS b L : Nat} {xs : Nat → Int32} (hl : l.stackTraces = false) : ∀ (n : Nat) (mj : Nat) (av : List Value) (h : mm_Hp) (r : mm_Res), mm_Rn n mj 0 (mm_ent (mm_ml mj) av) [] h r → mj < 77 → (mm_spread av).length ≤ mm_ml mj → mm_Con l D tS b L xs mj av h r := by
  intro n
  induction n using Nat.strongRecOn with
  | ind n ih =>
    intro mj av h r hRn hmj hsp ad cA tys sz
    have hpl : plainName (mm_y mj).cls = true := List.all_eq_true.mp mm_plain mj (List.mem_range.mpr (by omega))
    by_cases hh : mm_hh mj = []
    · have hw : mm_wd mj = Cond.code (mm_y mj) (mm_b mj) (mm_ml mj) (mm_rt mj) :: mm_G := by unfold mm_wd mm_cw; rw [if_pos hh]
      refine vx_ofW hpl hw ?_
      intro p e s m args below meth c s₁ B hml hout hv
      have hT : c.exceptionTable.toList = tableOf (mm_hh mj) := by
        rw [hh]
        cases hc : c.exceptionTable.toList with
        | nil => rfl
        | cons x t => exact (hout x (by rw [hc]; exact List.mem_cons_self)).elim
      exact mm_body hl hmj hsp hRn (fun n' hn' => ih n' hn') B hml hT hv
    · have hw : mm_wd mj = Cond.codeWith (mm_y mj) (mm_b mj) (mm_ml mj) (mm_rt mj) (mm_hh mj) :: mm_G := by unfold mm_wd mm_cw; rw [if_neg hh]
      refine vx_ofWH hpl hw ?_
      intro p e s m args below meth c s₁ B hml hv
      have hT : c.exceptionTable.toList = tableOf (mm_hh mj) := vx_table (x := mm_y mj) B (atoms_spec (ws := mm_wd mj) B.pre _ (by rw [hw]; exact List.mem_cons_self))
      exact mm_body hl hmj hsp hRn (fun n' hn' => ih n' hn') B hml hT hv
