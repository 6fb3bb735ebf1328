/-! ===== what stays true along a walk ===== -/
def mm_G : List Jvm.Cond := lw_tbl.filter goodWord
theorem mm_inG {i : Nat} {w : Jvm.Cond} (h : mm_w i w = true) (g : goodWord w = true) : w ∈ mm_G := List.mem_filter.mpr ⟨List.mem_of_getElem? (of_decide_eq_true h), g⟩
def mm_ty (ci : Nat) : Nat → FieldType := match ci with | 0 => tyX0 | 1 => tyX1 | 2 => tyX2 | 3 => tyX3 | _ => tyX4
theorem mm_u0 : ∀ w ∈ u_ws RX0 TX0 6, w ∈ mm_G := by decide +kernel
theorem mm_u1 : ∀ w ∈ u_ws RX1 TX1 3, w ∈ mm_G := by decide +kernel
theorem mm_u2 : ∀ w ∈ u_ws RX2 TX2 3, w ∈ mm_G := by decide +kernel
theorem mm_u3 : ∀ w ∈ u_ws RX3 TX3 2, w ∈ mm_G := by decide +kernel
theorem mm_u4 : ∀ w ∈ u_ws RX4 TX4 5, w ∈ mm_G := by decide +kernel
def mm_isr : FieldType → Bool
  | .object _ => true
  | .array _ => true
  | _ => false
def mm_fok (ci N : Nat) : Bool := (List.range N).all fun k => (decide (mm_ft ci k = 0) && decide (mm_ty ci k = .int)) || (decide (mm_ft ci k = 2) && decide (mm_ty ci k = .boolean)) || (decide (mm_ft ci k = 1) && mm_isr (mm_ty ci k))
theorem mm_fok0 : mm_fok 0 6 = true := by decide +kernel
theorem mm_fok1 : mm_fok 1 3 = true := by decide +kernel
theorem mm_fok2 : mm_fok 2 3 = true := by decide +kernel
theorem mm_fok3 : mm_fok 3 2 = true := by decide +kernel
theorem mm_fok4 : mm_fok 4 5 = true := by decide +kernel
theorem mm_clf {ci : Nat} {C : String} {T : u_T} {N : Nat} (h : mm_cl[ci]? = some (C, T, N)) : ci < 6 ∧ (∀ w ∈ u_ws C T N, w ∈ mm_G) ∧ (∀ k, k < N → parseFieldDescriptor (T k).2.2.1 = some (mm_ty ci k)) ∧ (∀ a, a < N → ∀ b, b < N → a ≠ b → (T a).2.1 ≠ (T b).2.1) ∧ mm_fok ci N = true := by
  match ci, h with
  | 0, h => cases h; exact ⟨by decide, mm_u0, tyX0_ok, nmX0, mm_fok0⟩
  | 1, h => cases h; exact ⟨by decide, mm_u1, tyX1_ok, nmX1, mm_fok1⟩
  | 2, h => cases h; exact ⟨by decide, mm_u2, tyX2_ok, nmX2, mm_fok2⟩
  | 3, h => cases h; exact ⟨by decide, mm_u3, tyX3_ok, nmX3, mm_fok3⟩
  | 4, h => cases h; exact ⟨by decide, mm_u4, tyX4_ok, nmX4, mm_fok4⟩
  | k + 5, h => simp [mm_cl] at h
theorem mm_fok_at {ci N k : Nat} (h : mm_fok ci N = true) (hk : k < N) : (mm_ft ci k = 0 ∧ mm_ty ci k = .int) ∨ (mm_ft ci k = 2 ∧ mm_ty ci k = .boolean) ∨ (mm_ft ci k = 1 ∧ mm_isr (mm_ty ci k) = true) := by
  have h1 := List.all_eq_true.mp h k (List.mem_range.mpr hk)
  simp only [Bool.or_eq_true, Bool.and_eq_true, decide_eq_true_eq] at h1
  rcases h1 with (h1 | h1) | h1
  · exact Or.inl h1
  · exact Or.inr (Or.inl h1)
  · exact Or.inr (Or.inr h1)
theorem mm_en_obj {ad cA : Nat → Nat} {h : mm_Hp} {i ci : Nat} (hk : (mm_K h i).1 = ci) (hc : ci < 6) : mm_en ad cA h i = .inr (ci, mm_flds ad h i ci) := by
  unfold mm_en
  rw [hk]
  match ci, hc with
  | 0, _ => rfl
  | 1, _ => rfl
  | 2, _ => rfl
  | 3, _ => rfl
  | 4, _ => rfl
  | 5, _ => rfl
theorem mm_flds_len (ad : Nat → Nat) (h : mm_Hp) (i ci : Nat) : (mm_flds ad h i ci).length = mm_nf ci := by simp [mm_flds]
theorem mm_flds_get {ad : Nat → Nat} {h : mm_Hp} {i ci k : Nat} (hk : k < mm_nf ci) : (mm_flds ad h i ci)[k]? = some (mm_fd ad h i ci k) := by
  unfold mm_flds
  rw [List.getElem?_map, List.getElem?_range hk]
  rfl
theorem mm_flds_set {ad : Nat → Nat} {h h' : mm_Hp} {i ci k : Nat} {v : Value} (hv : mm_fd ad h' i ci k = v) (ho : ∀ j, j ≠ k → mm_fd ad h' i ci j = mm_fd ad h i ci j) : (mm_flds ad h i ci).set k v = mm_flds ad h' i ci := by
  apply List.ext_getElem?
  intro j
  rw [List.getElem?_set]
  by_cases hj : j < mm_nf ci
  · rw [mm_flds_get hj, mm_flds_get hj]
    by_cases hjk : k = j
    · subst hjk
      rw [if_pos rfl, if_pos (by rw [mm_flds_len]; exact hj), hv]
    · rw [if_neg hjk, ho j (fun q => hjk q.symm)]
  · rw [List.getElem?_eq_none (l := mm_flds ad h i ci) (by rw [mm_flds_len]; omega), List.getElem?_eq_none (l := mm_flds ad h' i ci) (by rw [mm_flds_len]; omega)]
    by_cases hjk : k = j
    · rw [if_pos hjk, if_neg (by rw [mm_flds_len]; omega)]
    · rw [if_neg hjk]
theorem mm_up_self {α : Type} (f : Nat → α) (k : Nat) (v : α) : va_up f k v k = v := by simp [va_up]
theorem mm_up_ne {α : Type} (f : Nat → α) {k j : Nat} (v : α) (h : j ≠ k) : va_up f k v j = f j := by simp [va_up, h]
def mm_Wd (D : va_G) (A : Nat → Prop) (tS b L : Nat) (xs : Nat → Int32) (s : State) (ad cA : Nat → Nat) (tys : List (ClassId × FieldType)) (h : mm_Hp) (H : Heap) : Prop :=
  va_K D mm_cl tys s ∧ va_P D mm_cl (mm_ws ad cA h) H ∧ va_D A (mm_ws ad cA h) ∧ (∀ i, i < mm_n h → 10 ≤ (mm_K h i).1 → ∃ t0 : Nat, tys[t0]? = some (cA i, mm_aty (mm_K h i).1)) ∧ ad 1000 = tS ∧ ad 1001 = b ∧ mm_L h = L ∧ mm_X h = xs ∧ mm_n h ≤ 1000
def mm_Iv (D : va_G) (A : Nat → Prop) (tS b L : Nat) (xs : Nat → Int32) (s : State) (ad0 : Nat → Nat) (n0 c0 s0 nL : Nat) (ad cA : Nat → Nat) (tys : List (ClassId × FieldType)) (lsR : Array Slot) (ls : List Value) (h : mm_Hp) (H : Heap) (locs : List Loc) (cells slots : Nat) : Prop :=
  mm_Wd D A tS b L xs s ad cA tys h H ∧ va_S A s.heap H locs ∧ mm_LR ad lsR nL ls ∧ cells + c0 = mm_c h ∧ slots + s0 = mm_s h ∧ n0 ≤ mm_n h ∧ ∀ j, (j < n0 ∨ mm_n h ≤ j) → ad j = ad0 j
section MM
variable {p : Program} {l : Launch} {e : Env} {R : Room} {s : State} {m : MethodId} {args : Array Value} {below : List Frame} {meth : Method} {c : Code} {Q : State → Prop} {D : va_G} {A : Nat → Prop} {tS b L : Nat} {xs : Nat → Int32} {ad0 : Nat → Nat} {n0 c0 s0 nL mi : Nat}
/-- from here the machine comes to the end: for every real state that the mini one pictures -/
def mm_Go (p : Program) (l : Launch) (e : Env) (R : Room) (s : State) (m : MethodId) (args : Array Value) (below : List Frame) (meth : Method) (c : Code) (Q : State → Prop) (D : va_G) (A : Nat → Prop) (tS b L : Nat) (xs : Nat → Int32) (ad0 : Nat → Nat) (n0 c0 s0 nL : Nat) (pc : Nat) (ls st : List Value) (h : mm_Hp) : Prop :=
  ∀ (H : Heap) (locs : List Loc) (cells slots : Nat) (lsR : Array Slot) (ad cA : Nat → Nat) (tys : List (ClassId × FieldType)), mm_Iv D A tS b L xs s ad0 n0 c0 s0 nL ad cA tys lsR ls h H locs cells slots → W p l e R s m args below meth c H locs cells slots Q (F0 m pc lsR (st.map (mm_tr ad)))
theorem mm_Wd.upd {ad cA : Nat → Nat} {tys : List (ClassId × FieldType)} {h h' : mm_Hp} {H H' : Heap} {i : Nat} {v : va_E} (hW : mm_Wd D A tS b L xs s ad cA tys h H) (hn : h'.1 = h.1) (hK : mm_K h' = mm_K h) (hL : h'.2.2.2.2.2 = h.2.2.2.2.2)
    (hi : mm_en ad cA h' i = v) (ho : ∀ j, j < mm_n h → j ≠ i → mm_en ad cA h' j = mm_en ad cA h j) (hP : va_P D mm_cl ((mm_ws ad cA h).set i (ad i, v)) H') (hD : va_D A ((mm_ws ad cA h).set i (ad i, v))) : mm_Wd D A tS b L xs s ad cA tys h' H' := by
  obtain ⟨a1, a2, a3, a4, a5, a6, a7, a8, a9⟩ := hW
  have hn' : mm_n h' = mm_n h := by unfold mm_n; rw [hn]
  have hs := mm_ws_set (ad := ad) (cA := cA) hn' hi ho
  rw [hs] at hP hD
  refine ⟨a1, hP, hD, fun i hi h10 => ?_, a5, a6, ?_, ?_, by rw [hn']; exact a9⟩
  · rw [hK] at h10 ⊢
    exact a4 i (by rw [← hn']; exact hi) h10
  · rw [← a7]; unfold mm_L; rw [hL]
  · rw [← a8]; unfold mm_X; rw [hL]
theorem mm_Iv.upd {ad cA : Nat → Nat} {tys : List (ClassId × FieldType)} {lsR : Array Slot} {ls : List Value} {h h' : mm_Hp} {H H' : Heap} {locs locs' : List Loc} {cells slots : Nat} {i : Nat} {v : va_E} (hI : mm_Iv D A tS b L xs s ad0 n0 c0 s0 nL ad cA tys lsR ls h H locs cells slots) (hn : h'.1 = h.1) (hK : mm_K h' = mm_K h) (hL : h'.2.2.2.2.2 = h.2.2.2.2.2)
    (hi : mm_en ad cA h' i = v) (ho : ∀ j, j < mm_n h → j ≠ i → mm_en ad cA h' j = mm_en ad cA h j) (hP : va_P D mm_cl ((mm_ws ad cA h).set i (ad i, v)) H') (hD : va_D A ((mm_ws ad cA h).set i (ad i, v))) (hS : va_S A s.heap H' locs') : mm_Iv D A tS b L xs s ad0 n0 c0 s0 nL ad cA tys lsR ls h' H' locs' cells slots := by
  obtain ⟨a1, a2, a3, a4, a5, a6, a7⟩ := hI
  have hn9 : mm_n h' = mm_n h := by unfold mm_n; rw [hn]
  refine ⟨a1.upd hn hK hL hi ho hP hD, hS, a3, ?_, ?_, ?_, fun j hj => a7 j (by rw [hn9] at hj; exact hj)⟩
  · rw [a4]; unfold mm_c; rw [hn]
  · rw [a5]; unfold mm_s; rw [hn]
  · rw [hn9]; exact a6
/-- other locals -/
theorem mm_Iv.loc {ad cA : Nat → Nat} {tys : List (ClassId × FieldType)} {lsR lsR' : Array Slot} {ls ls' : List Value} {h : mm_Hp} {H : Heap} {locs : List Loc} {cells slots : Nat} (hI : mm_Iv D A tS b L xs s ad0 n0 c0 s0 nL ad cA tys lsR ls h H locs cells slots) (hl : mm_LR ad lsR' nL ls') : mm_Iv D A tS b L xs s ad0 n0 c0 s0 nL ad cA tys lsR' ls' h H locs cells slots :=
  ⟨hI.1, hI.2.1, hl, hI.2.2.2⟩
/-- what a walk of the method mi has at hand of the machine -/
def mm_Cx (p : Program) (l : Launch) (s : State) (m : MethodId) (args : Array Value) (meth : Method) (c : Code) (mi nL : Nat) : Prop :=
  p.tables.exec = Jvm.exec ∧ c.code = mm_b mi ∧ meth.sig.returnType = mm_rt mi ∧ c.maxLocals = nL ∧ nL = mm_ml mi ∧ s.vm.findClass (mm_y mi).cls = some m.cls ∧ (∀ w ∈ mm_G, w.before args s = true) ∧ meth.locks = false ∧ ((mm_y mi).name = "<init>" → meth.name = "<init>") ∧ l.stackTraces = false
end MM
