/-! ===== a call, whole ===== -/
theorem mm_cs1 : Cond.castable (mm_exn 1) (mm_exn 1) ∈ mm_NW := by decide +kernel
theorem mm_cs2 : Cond.castable (mm_exn 2) (mm_exn 2) ∈ mm_NW := by decide +kernel
theorem mm_cs3 : Cond.castable (mm_exn 3) (mm_exn 3) ∈ mm_NW := by decide +kernel
theorem mm_cs {E : Nat} (h : E = 1 ∨ E = 2 ∨ E = 3) : Cond.castable (mm_exn E) (mm_exn E) ∈ mm_NW := by
  rcases h with rfl | rfl | rfl
  · exact mm_cs1
  · exact mm_cs2
  · exact mm_cs3
abbrev mm_H4 : Type := Nat × Nat × Nat × Nat
def mm_ast (b : ByteArray) (hp li np : Nat) : Prop := (decode b hp = .ok (.astore li, 2) ∧ np = hp + 2) ∨ ∃ k : Fin 4, (k : Nat) = li ∧ decode b hp = .ok (.astore_n k, 1) ∧ np = hp + 1
theorem mm_okH_find {b : ByteArray} {E : Nat} {q : mm_H4} : ∀ (hh hl : List mm_H4), mm_okH b hh hl = true → hl.find? (fun q => Nat.beq q.1 E) = some q →
    ∃ (pre : List mm_H4) (x : mm_H4) (suf : List mm_H4), hh = pre ++ x :: suf ∧ x.2.2.2 ≠ 0 ∧ (E = 1 ∨ E = 2 ∨ E = 3) ∧ Cond.classLink "BulbShapesLaw" x.2.2.2 (mm_exn E) ∈ lw_tbl ∧ mm_ast b x.2.2.1 q.2.2.1 q.2.2.2 ∧
      ∀ z ∈ pre, z.2.2.2 ≠ 0 ∧ ∃ E', (E' = 1 ∨ E' = 2 ∨ E' = 3) ∧ E ≠ E' ∧ Cond.classLink "BulbShapesLaw" z.2.2.2 (mm_exn E') ∈ lw_tbl
  | [], [], _, h => by cases h
  | [], _ :: _, h, _ => by cases h
  | _ :: _, [], h, _ => by cases h
  | (s1, e1, hp, ct) :: r, (E9, hp', li, np) :: r', h, hf => by
    simp only [mm_okH, Bool.and_eq_true, decide_eq_true_eq] at h
    obtain ⟨⟨⟨⟨⟨h1, h2⟩, h3⟩, h4⟩, h5⟩, h6⟩ := h
    rw [List.find?_cons] at hf
    cases hb : Nat.beq E9 E with
    | true =>
      rw [hb] at hf
      cases hf
      have hE : E9 = E := Nat.eq_of_beq_eq_true hb
      subst hE
      refine ⟨[], (s1, e1, hp, ct), r, rfl, h2, h3, h4, ?_, fun z hz => by cases hz⟩
      simp only [Bool.or_eq_true, Bool.and_eq_true, decide_eq_true_eq] at h5
      rcases h5 with h5 | ⟨h5, h7⟩
      · exact Or.inl h5
      · right
        split at h5
        · exact ⟨1, rfl, of_decide_eq_true h5, h7⟩
        · exact ⟨2, rfl, of_decide_eq_true h5, h7⟩
        · exact ⟨3, rfl, of_decide_eq_true h5, h7⟩
        · cases h5
    | false =>
      rw [hb] at hf
      obtain ⟨pre, x, suf, g1, g2, g3, g4, g5, g6⟩ := mm_okH_find r r' h6 hf
      refine ⟨(s1, e1, hp, ct) :: pre, x, suf, by rw [g1]; rfl, g2, g3, g4, g5, fun z hz => ?_⟩
      rcases List.mem_cons.mp hz with rfl | hz
      · exact ⟨h2, E9, h3, fun q => (by subst q; rw [Nat.beq_refl] at hb; cases hb), h4⟩
      · exact g6 z hz
theorem mm_hh1 : (List.range 78).all (fun mi => Nat.ble (mm_hh mi).length 1) = true := by decide +kernel
theorem mm_inG2 {w : Jvm.Cond} (h : w ∈ lw_tbl) (g : goodWord w = true) : w ∈ mm_G := List.mem_filter.mpr ⟨h, g⟩
section MM
variable {p : Program} {l : Launch} {e : Env} {R : Room} {s : State} {m : MethodId} {args : Array Value} {below : List Frame} {meth : Method} {c : Code} {Q : State → Prop} {D : va_G} {A : Nat → Prop} {tS b L : Nat} {xs : Nat → Int32} {ad0 : Nat → Nat} {n0 c0 s0 nL mi : Nat}
/-- a thrown exception, caught by this method's table -/
theorem mm_catch {pc li np E : Nat} {ls : List Value} {h : mm_Hp} {H : Heap} {locs : List Loc} {cells slots : Nat} {lsR : Array Slot} {ad cA : Nat → Nat} {tys : List (ClassId × FieldType)} {rest : List Value} {ce : Cell} {q9 : Addr} (hmi : mi < 78) (C : mm_Cx p l s m args meth c mi nL) (Es : mm_ES A tS b L xs s) (hT : c.exceptionTable.toList = tableOf (mm_hh mi)) (hq : mm_hand mi E = some (np, li)) (hpre : mm_pre ls li = false)
    (hcov : ∀ x ∈ mm_hh mi, x.1 ≤ pc ∧ pc < x.2.1) (hI : mm_Iv D A tS b L xs s ad0 n0 c0 s0 nL ad cA tys lsR ls h H locs cells slots) (hce : H[q9]? = some ce) (hcv : ce.vm = .none) (hcl : s.vm.findClass (mm_exn E) = some ce.cls)
    (K : mm_Go p l e R s m args below meth c Q D A tS b L xs ad0 n0 c0 s0 nL np (mm_lset ls li .null) [] h) : vx_W p l e R s m args below meth c H locs cells slots Q (F0 m pc lsR rest) q9 := by
  obtain ⟨hx, hb, hr, hml, hnl, hown, hts, hlk, hin, hst⟩ := C
  have hok := List.all_eq_true.mp mm_okXall mi (List.mem_range.mpr hmi)
  unfold mm_okX at hok
  simp only [Bool.and_eq_true] at hok
  obtain ⟨⟨⟨o1, o2⟩, o3⟩, -⟩ := hok
  unfold mm_hand at hq
  cases hf : (mm_hl mi).find? (fun q => Nat.beq q.1 E) with
  | none => rw [hf] at hq; cases hq
  | some q4 =>
    rw [hf] at hq
    have hq2 : (q4.2.2.2, q4.2.2.1) = (np, li) := Option.some.inj hq
    obtain ⟨pre, x, suf, g1, g2, g3, g4, g5, g6⟩ := mm_okH_find _ _ o1 hf
    have hnp : q4.2.2.2 = np := congrArg Prod.fst hq2
    have hli : q4.2.2.1 = li := congrArg Prod.snd hq2
    rw [hnp, hli] at g5
    have hli2 : li < nL := by
      rw [← hli, hnl]
      exact of_decide_eq_true (List.all_eq_true.mp o3 q4 (List.mem_of_find?_eq_some hf))
    have hcls : (mm_y mi).cls = "BulbShapesLaw" := by
      rw [Bool.or_eq_true] at o2
      rcases o2 with o2 | o2
      · have : mm_hh mi = [] := by simpa using o2
        rw [this] at g1
        cases pre <;> cases g1
      · exact of_decide_eq_true o2
    rw [hcls] at hown
    have hsplit : c.exceptionTable.toList = tableOf pre ++ ⟨x.1, x.2.1, x.2.2.1, x.2.2.2⟩ :: tableOf suf := by
      rw [hT, g1]
      simp [tableOf]
    have hcx : covers ⟨x.1, x.2.1, x.2.2.1, x.2.2.2⟩ pc = true := by
      have h9 := hcov x (by rw [g1]; simp)
      simp [covers, h9.1, h9.2]
    refine vx_catch hown (tableOf pre) ⟨x.1, x.2.1, x.2.2.1, x.2.2.2⟩ (tableOf suf) hsplit (fun z hz => ?_) hcx g2 (hts _ (mm_inG2 g4 rfl)) (va_Nw.use rfl (Es.2.2.2.2.2.1 _ (mm_cs g3))) hce hcv hcl ?_
    · exfalso
      have q := Nat.le_of_ble_eq_true (List.all_eq_true.mp mm_hh1 mi (List.mem_range.mpr hmi))
      rw [g1, List.length_append, List.length_cons] at q
      have hp : pre = [] := by
        cases pre with
        | nil => rfl
        | cons a b => simp only [List.length_cons] at q; omega
      rw [hp] at hz
      simp [tableOf] at hz
    · have fin : ∀ lsR' : Array Slot, lv_has lsR' nL ((li, .ref q9) :: mm_f1 li (mm_asc ad 0 ls)) → W p l e R s m args below meth c H locs cells slots Q (F0 m np lsR' []) := by
        intro lsR' h'
        have hLR : mm_LR ad lsR' nL (mm_lset ls li .null) := by
          refine ⟨⟨h'.1, h'.2.1, fun q hq => h'.2.2 q ?_⟩, by rw [mm_lset_len]; exact hI.2.2.1.2⟩
          obtain ⟨k, h1, h2, h3⟩ := (mm_asc_mem _ _ _).mp hq
          rw [mm_lget_lset] at h2 h3
          simp only [Nat.zero_add] at h1
          by_cases hk : k = li
          · rw [if_pos hk] at h2
            split at h2 <;> exact absurd rfl h2
          · rw [if_neg hk] at h2 h3
            refine List.mem_cons.mpr (Or.inr (List.mem_filter.mpr ⟨(mm_asc_mem _ _ _).mpr ⟨k, by omega, h2, h3⟩, ?_⟩))
            have hki : ¬ q.1 = li := by rw [h1]; exact hk
            simp only [Bool.and_eq_true, Bool.not_eq_true', beq_eq_false_iff_ne, ne_eq, hki, not_false_eq_true, true_and, Bool.and_eq_false_iff]
            by_cases hk1 : q.1 + 1 = li
            · right
              have hik : li = k + 1 := by omega
              subst hik
              intro hc
              rw [h3] at hc
              have := (mm_tr_two ad (mm_lget ls k)).mp hc
              rw [show mm_pre ls (k + 1) = mm_two (mm_lget ls k) from rfl, this] at hpre
              cases hpre
            · exact Or.inl hk1
        exact K _ _ _ _ _ _ _ _ (hI.loc hLR)
      rcases g5 with ⟨hd, rfl⟩ | ⟨k, rfl, hd, rfl⟩
      · exact lv_astore hx hb hd hI.2.2.1.1 hli2 rfl fin
      · exact lv_astore_n hx hb hd rfl hI.2.2.1.1 hli2 rfl fin
end MM
