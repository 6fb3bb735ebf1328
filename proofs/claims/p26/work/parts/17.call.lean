/-! ===== contracts of the mini machine's methods over the real one; calls ===== -/
def mm_cw (mj : Nat) : Jvm.Cond := if mm_hh mj = [] then .code (mm_y mj) (mm_b mj) (mm_ml mj) (mm_rt mj) else .codeWith (mm_y mj) (mm_b mj) (mm_ml mj) (mm_rt mj) (mm_hh mj)
def mm_wd (mj : Nat) : List Jvm.Cond := mm_cw mj :: mm_G
def mm_Rm (mj : Nat) (h : mm_Hp) (r : mm_Res) : Room := { frames := mm_fr mj, cells := mm_c r.2 - mm_c h, slots := mm_s r.2 - mm_s h, locals := mm_lo mj }
def mm_Pr (D : va_G) (tS b L : Nat) (xs : Nat → Int32) (av : List Value) (ad cA : Nat → Nat) (tys : List (ClassId × FieldType)) (sz : Nat) (h : mm_Hp) : Array Value → State → Prop :=
  va_Pc (av.map (mm_tr ad)) (fun U => U.heap.size = sz ∧ mm_Wd D (fun _ => True) tS b L xs U ad cA tys h U.heap ∧ mm_ES (va_A (mm_ws ad cA h) sz) tS b L xs U)
def mm_Bw (D : va_G) (A : Nat → Prop) (tS b L : Nat) (xs : Nat → Int32) (ad : Nat → Nat) (n : Nat) (h' : mm_Hp) (t : State) : Prop :=
  ∃ (ad' cA' : Nat → Nat) (tys' : List (ClassId × FieldType)), mm_Wd D A tS b L xs t ad' cA' tys' h' t.heap ∧ ∀ j, (j < n ∨ mm_n h' ≤ j) → ad' j = ad j
def mm_Qr (D : va_G) (A : Nat → Prop) (tS b L : Nat) (xs : Nat → Int32) (ad : Nat → Nat) (n : Nat) (r : mm_Res) : Array Value → State → Outcome → State → Prop :=
  fun _ st oc t => r.1.1 = 0 ∧ oc = .returned r.1.2 ∧ mm_Bw D A tS b L xs ad n r.2 t ∧ va_F A st t
def mm_Xr (D : va_G) (A : Nat → Prop) (tS b L : Nat) (xs : Nat → Int32) (ad : Nat → Nat) (n : Nat) (r : mm_Res) : String → State → State → Prop :=
  fun E st t => (r.1.1 = 1 ∨ r.1.1 = 2 ∨ r.1.1 = 3) ∧ E = mm_exn r.1.1 ∧ mm_Bw D A tS b L xs ad n r.2 t ∧ va_F A st t
def mm_Con (l : Launch) (D : va_G) (tS b L : Nat) (xs : Nat → Int32) (mj : Nat) (av : List Value) (h : mm_Hp) (r : mm_Res) : Prop :=
  ∀ (ad cA : Nat → Nat) (tys : List (ClassId × FieldType)) (sz : Nat), vx_Met l (mm_y mj) (mm_wd mj) (mm_Rm mj h r) (mm_Pr D tS b L xs av ad cA tys sz h) (mm_Qr D (va_A (mm_ws ad cA h) sz) tS b L xs ad (mm_n h) r) (mm_Xr D (va_A (mm_ws ad cA h) sz) tS b L xs ad (mm_n h) r) (mm_c r.2 - mm_c h) (mm_s r.2 - mm_s h) (va_A (mm_ws ad cA h) sz)
theorem mm_G_good {w : Jvm.Cond} (h : w ∈ mm_G) : goodWord w = true := (List.mem_filter.mp h).2
theorem mm_goodIn {mj : Nat} (h : mm_cw mj ∈ mm_G) : GoodIn mm_G (mm_wd mj) := by
  intro w hw
  rcases List.mem_cons.mp hw with rfl | hw
  · exact ⟨h, good_of_word (mm_G_good h)⟩
  · exact ⟨hw, good_of_word (mm_G_good hw)⟩
theorem mm_Wd.moved {D : va_G} {A : Nat → Prop} {tS b L : Nat} {xs : Nat → Int32} {s U : State} {ad cA : Nat → Nat} {tys : List (ClassId × FieldType)} {h : mm_Hp} {H : Heap} (hv : s.vm.Alike U.vm) (hW : mm_Wd D A tS b L xs s ad cA tys h H) : mm_Wd D A tS b L xs U ad cA tys h H :=
  ⟨va_K.moved hv hW.1, hW.2⟩
theorem mm_blind {D : va_G} {tS b L : Nat} {xs : Nat → Int32} {av : List Value} {ad cA : Nat → Nat} {tys : List (ClassId × FieldType)} {sz : Nat} {h : mm_Hp} : FrameBlind (mm_Pr D tS b L xs av ad cA tys sz h) := by
  intro a U g mk q
  obtain ⟨q0, q1, q2, q3⟩ := q
  refine ⟨q0, q1, q2.moved (U := U.calling g mk a) (Vm.Alike.refl U.vm), q3.go (T := U.calling g mk a) (State.WarmedH.refl U) (fun _ _ _ => rfl) (Nat.le_refl _) (fun _ h => h)⟩
section MM
variable {p : Program} {l : Launch} {e : Env} {R : Room} {s : State} {m : MethodId} {args : Array Value} {below : List Frame} {meth : Method} {c : Code} {Q : State → Prop} {D : va_G} {A : Nat → Prop} {tS b L : Nat} {xs : Nat → Int32} {ad0 : Nat → Nat} {n0 c0 s0 nL mi : Nat}
theorem mm_A1 {ad cA : Nat → Nat} {tys : List (ClassId × FieldType)} {lsR : Array Slot} {ls : List Value} {h : mm_Hp} {H : Heap} {locs : List Loc} {cells slots : Nat} (hI : mm_Iv D A tS b L xs s ad0 n0 c0 s0 nL ad cA tys lsR ls h H locs cells slots) (hA : ∀ q, s.heap.size ≤ q → A q) : ∀ q, va_A (mm_ws ad cA h) H.size q → A q := by
  intro q hq
  rcases hq with ⟨k, en, hk⟩ | hq
  · exact hI.1.2.2.1.2 k _ hk
  · exact hA q (Nat.le_trans hI.2.1.1 hq)
/-- a call, run: what comes behind it -/
theorem mm_run {H : Heap} {locs : List Loc} {cells slots mc ms pc n : Nat} {lsR : Array Slot} {st0 rest : List Value} {a : Array Value} {A1 : Nat → Prop} {ad : Nat → Nat} {r : mm_Res}
    (hr : vx_Run p l e R s m args below meth c H locs cells slots mc ms (F0 m pc lsR st0) rest (mm_Qr D A1 tS b L xs ad n r a) (mm_Xr D A1 tS b L xs ad n r) A1) (hS : va_S A s.heap H locs) (hA1 : ∀ q, A1 q → A q)
    (kx : ∀ (ce : Cell) (q9 : Addr) (t : State) (H1 : Heap) (locs1 : List Loc), t.heap = H1 → s.vm.Alike t.vm → (r.1.1 = 1 ∨ r.1.1 = 2 ∨ r.1.1 = 3) → mm_Bw D A1 tS b L xs ad n r.2 t → va_S A s.heap H1 locs1 → H1[q9]? = some ce → ce.vm = .none → s.vm.findClass (mm_exn r.1.1) = some ce.cls → vx_W p l e R s m args below meth c H1 locs1 (cells + mc) (slots + ms) Q (F0 m pc lsR rest) q9)
    (kk : ∀ (t : State) (H1 : Heap) (locs1 : List Loc), t.heap = H1 → s.vm.Alike t.vm → r.1.1 = 0 → mm_Bw D A1 tS b L xs ad n r.2 t → va_S A s.heap H1 locs1 → W p l e R s m args below meth c H1 locs1 (cells + mc) (slots + ms) Q (F0 m (pc + 3) lsR (r.1.2.toList ++ rest))) : W p l e R s m args below meth c H locs cells slots Q (F0 m pc lsR st0) := by
  intro T hT X
  rcases hr T hT X with ⟨v, st₀, t, T', L9, h0, X', hL, e1, e2, ⟨hr0, hv, hb, hF⟩, st⟩ | ⟨q, st₀, t, T', L9, E, ce, h0, X', hL, e1, e2, ⟨hr0, hE, hb, hF⟩, hce, hcv, hcl, st⟩
  · cases hv
    obtain ⟨k1, k2, k3⟩ := vx_keep h0 e1 hS (fun q _ h => hA1 q h) hA1 hL hF
    obtain ⟨t2, a1, b1⟩ := kk t T'.heap (locs ++ L9) e1.symm (by rw [← e2]; exact X'.warmed.alike) hr0 hb k3 T' rfl X'
    exact ⟨t2, st t2 a1, b1⟩
  · subst hE
    obtain ⟨k1, k2, k3⟩ := vx_keep h0 e1 hS (fun q _ h => hA1 q h) hA1 hL hF
    obtain ⟨t2, a1, b1⟩ := kx ce q t T'.heap (locs ++ L9) e1.symm (by rw [← e2]; exact X'.warmed.alike) hr0 hb k3 (by rw [e1]; exact hce) hcv hcl T' rfl X'
    exact ⟨t2, st.trans a1, b1⟩
/-- behind a call the invariant holds again -/
theorem mm_Iv.back {ad cA : Nat → Nat} {tys : List (ClassId × FieldType)} {lsR : Array Slot} {ls rest : List Value} {h h' : mm_Hp} {H H1 : Heap} {locs locs1 : List Loc} {cells slots : Nat} {t : State} (hI : mm_Iv D A tS b L xs s ad0 n0 c0 s0 nL ad cA tys lsR ls h H locs cells slots) (hA1 : ∀ q, va_A (mm_ws ad cA h) H.size q → A q) (ht : t.heap = H1) (hv : s.vm.Alike t.vm)
    (hB : mm_Bw D (va_A (mm_ws ad cA h) H.size) tS b L xs ad (mm_n h) h' t) (hS : va_S A s.heap H1 locs1) (hc : mm_c h ≤ mm_c h') (hs : mm_s h ≤ mm_s h') (hn : mm_n h ≤ mm_n h') (ho : mm_n h' = mm_n h ∨ ∀ v ∈ ls ++ rest, mm_old (mm_n h) v) :
    ∃ (ad' cA' : Nat → Nat) (tys' : List (ClassId × FieldType)), mm_Iv D A tS b L xs s ad0 n0 c0 s0 nL ad' cA' tys' lsR ls h' H1 locs1 (cells + (mm_c h' - mm_c h)) (slots + (mm_s h' - mm_s h)) ∧ rest.map (mm_tr ad') = rest.map (mm_tr ad) := by
  obtain ⟨ad', cA', tys', hW', hag⟩ := hB
  have hag2 : ∀ v ∈ ls ++ rest, ∀ j : Nat, v = .ref j → ad' j = ad j := by
    intro v hv9 j hj
    rcases ho with h9 | h9
    · exact hag j (by omega)
    · have h8 : j < mm_n h ∨ 1000 ≤ j := h9 v hv9 j hj
      have h7 : mm_n h' ≤ 1000 := hW'.2.2.2.2.2.2.2.2
      exact hag j (by omega)
  obtain ⟨a1, a2, a3, a4, a5, a6, a7⟩ := hI
  rw [ht] at hW'
  have hW2 : mm_Wd D A tS b L xs s ad' cA' tys' h' H1 := by
    obtain ⟨w1, w2, w3, w4⟩ := hW'.moved hv.symm
    exact ⟨w1, w2, w3.weaken (fun _ _ _ h => hA1 _ h), w4⟩
  refine ⟨ad', cA', tys', ⟨hW2, hS, a3.ad (fun v hv9 => hag2 v (List.mem_append_left _ hv9)), by omega, by omega, by omega, fun j hj => ?_⟩, mm_trs_ad (fun v hv9 => hag2 v (List.mem_append_right _ hv9))⟩
  rw [hag j (by omega)]
  exact a7 j (by omega)
theorem mm_callB {mj wl cw wt na Lc idx : Nat} {wt2 self : Bool} {h : mm_Hp} {r : mm_Res} (hts : ∀ w ∈ mm_G, w.before args s = true) (hok : mm_okC mi mj na Lc wl cw wt idx false wt2 self = true) (hw2 : wt2 = false) (hF : mm_fr mi ≤ R.frames) (hL9 : mm_lo mi ≤ R.locals) :
    CallB R s args (mm_y mi).cls idx (mm_y mj) (mm_b mj) (mm_ml mj) (mm_rt mj) (mm_wd mj) (mm_Rm mj h r) (mm_c r.2 - mm_c h) (mm_s r.2 - mm_s h) (if self then na - 1 else na) := by
  subst hw2
  unfold mm_okC at hok
  simp only [Bool.and_eq_true, decide_eq_true_eq, if_false, Bool.false_eq_true] at hok
  obtain ⟨⟨⟨⟨⟨⟨⟨⟨h1, h2, h2'⟩, h3⟩, h4⟩, h5⟩, h6⟩, h7⟩, h8⟩, h9⟩ := hok
  have hcw : mm_cw mj = .code (mm_y mj) (mm_b mj) (mm_ml mj) (mm_rt mj) := by unfold mm_cw; rw [if_pos h2']
  have hin : mm_cw mj ∈ mm_G := by rw [hcw, ← h4]; exact mm_inG h2 rfl
  have hce : Cond.code (mm_y mj) (mm_b mj) (mm_ml mj) (mm_rt mj) ∈ mm_wd mj := by rw [← hcw]; exact List.mem_cons_self
  refine ⟨rfl, rfl, Nat.le_trans h8 hF, by rw [← h4]; exact Nat.le_trans h9 hL9, pay_in hts (mm_goodIn hin), hce, hts _ (by rw [← hcw]; exact hin), hts _ (mm_inG h3 rfl), h6, fun sig hsig => ?_, hts _ (mm_inG h1 rfl)⟩
  cases self with
  | true =>
    simp only [if_true, Bool.and_eq_true, decide_eq_true_eq] at h7 ⊢
    have := h7.2
    rw [hsig] at this
    exact (Option.some.inj this).symm
  | false =>
    simp only [Bool.false_eq_true, if_false, decide_eq_true_eq] at h7 ⊢
    rw [hsig] at h7
    exact (Option.some.inj h7).symm
theorem mm_callN {mj wl cw wt na Lc idx : Nat} {self : Bool} {h : mm_Hp} {r : mm_Res} (hts : ∀ w ∈ mm_G, w.before args s = true) (hN : ∀ w ∈ mm_NW, va_Nw w s) (hok : mm_okC mi mj na Lc wl cw wt idx true false self = true) (hF : mm_fr mi ≤ R.frames) (hL9 : mm_lo mi ≤ R.locals) :
    va_CN R s args (mm_y mi).cls idx (mm_y mj) "BulbShapes" (mm_b mj) (mm_ml mj) (mm_rt mj) (mm_wd mj) (mm_Rm mj h r) (mm_c r.2 - mm_c h) (mm_s r.2 - mm_s h) (if self then na - 1 else na) := by
  unfold mm_okC at hok
  simp only [Bool.and_eq_true, decide_eq_true_eq, if_true, if_false, Bool.false_eq_true] at hok
  obtain ⟨⟨⟨⟨⟨⟨⟨⟨h1, h2, h2'⟩, h3⟩, h4⟩, h5⟩, h6⟩, h7⟩, h8⟩, h9⟩ := hok
  have hcw : mm_cw mj = .code (mm_y mj) (mm_b mj) (mm_ml mj) (mm_rt mj) := by unfold mm_cw; rw [if_pos h2']
  have hin : mm_cw mj ∈ mm_G := by rw [hcw, ← h4]; exact mm_inG h2 rfl
  have hce : Cond.code (mm_y mj) (mm_b mj) (mm_ml mj) (mm_rt mj) ∈ mm_wd mj := by rw [← hcw]; exact List.mem_cons_self
  refine ⟨⟨rfl, rfl, Nat.le_trans h8 hF, by rw [← h4]; exact Nat.le_trans h9 hL9, pay_in hts (mm_goodIn hin), hce⟩, hts _ (by rw [← hcw]; exact hin), hts _ (mm_inG h3 rfl), h6, fun sig hsig => ?_, va_Nw.use rfl (hN _ (mm_inNW h1 rfl))⟩
  cases self with
  | true =>
    simp only [if_true, Bool.and_eq_true, decide_eq_true_eq] at h7 ⊢
    have := h7.2
    rw [hsig] at this
    exact (Option.some.inj this).symm
  | false =>
    simp only [Bool.false_eq_true, if_false, decide_eq_true_eq] at h7 ⊢
    rw [hsig] at h7
    exact (Option.some.inj h7).symm
theorem mm_callW {mj wl cw wt na Lc idx : Nat} {h : mm_Hp} {r : mm_Res} (hts : ∀ w ∈ mm_G, w.before args s = true) (hok : mm_okC mi mj na Lc wl cw wt idx false true false = true) (hh : mm_hh mj ≠ []) (hst : (Cond.static (mm_y mj)).before args s = true) (hF : mm_fr mi ≤ R.frames) (hL9 : mm_lo mi ≤ R.locals) :
    vx_CSW R s args (mm_y mi).cls idx (mm_y mj) (mm_b mj) (mm_ml mj) (mm_rt mj) (mm_hh mj) (mm_wd mj) (mm_Rm mj h r) (mm_c r.2 - mm_c h) (mm_s r.2 - mm_s h) na := by
  unfold mm_okC at hok
  simp only [Bool.and_eq_true, decide_eq_true_eq, if_true, if_false, Bool.false_eq_true] at hok
  obtain ⟨⟨⟨⟨⟨⟨⟨⟨h1, h2, h2'⟩, h3⟩, h4⟩, h5⟩, h6⟩, h7⟩, h8⟩, h9⟩ := hok
  have hcw : mm_cw mj = .codeWith (mm_y mj) (mm_b mj) (mm_ml mj) (mm_rt mj) (mm_hh mj) := by unfold mm_cw; rw [if_neg hh]
  have hin : mm_cw mj ∈ mm_G := by rw [hcw, ← h4]; exact mm_inG h2 rfl
  have hce : Cond.codeWith (mm_y mj) (mm_b mj) (mm_ml mj) (mm_rt mj) (mm_hh mj) ∈ mm_wd mj := by rw [← hcw]; exact List.mem_cons_self
  refine ⟨⟨rfl, rfl, Nat.le_trans h8 hF, by rw [← h4]; exact Nat.le_trans h9 hL9, pay_in hts (mm_goodIn hin), hce⟩, hts _ (by rw [← hcw]; exact hin), hts _ (mm_inG h3 rfl), h6, fun sig hsig => ?_, hts _ (mm_inG h1 rfl), hst⟩
  rw [hsig] at h7
  exact (Option.some.inj h7).symm
end MM
