section
-- ===== PART A: goes FIRST, ahead of the names: the tables' words, and 'selects' of the private methods out of them =====
/-- a private method of a class that the tables say can be made, by its rows of tables_1 -/
def lw_okq (q : MethodName × Nat) : Prop := (q.1.cls ≠ "java/lang/invoke/MethodHandle" ∧ q.1.cls ≠ "java/lang/invoke/VarHandle") ∧ Cond.instantiable q.1.cls q.2 ∈ tables_1 ∧ Cond.privateMethod q.1 ∈ tables_1 ∧ Cond.instanceMethod q.1 ∈ tables_1
theorem lw_p0 : lw_okq (⟨"BulbShapes", "chooseAllTables", "()V"⟩, 5) := ⟨⟨by decide +kernel, by decide +kernel⟩, List.mem_of_getElem? (i := 15) (by decide +kernel), List.mem_of_getElem? (i := 105) (by decide +kernel), List.mem_of_getElem? (i := 106) (by decide +kernel)⟩
theorem lw_p1 : lw_okq (⟨"BulbShapes", "chooseTable", "(I)V"⟩, 5) := ⟨⟨by decide +kernel, by decide +kernel⟩, List.mem_of_getElem? (i := 15) (by decide +kernel), List.mem_of_getElem? (i := 109) (by decide +kernel), List.mem_of_getElem? (i := 110) (by decide +kernel)⟩
theorem lw_p2 : lw_okq (⟨"BulbShapes$Table", "chooseShape", "(III)V"⟩, 3) := ⟨⟨by decide +kernel, by decide +kernel⟩, List.mem_of_getElem? (i := 55) (by decide +kernel), List.mem_of_getElem? (i := 117) (by decide +kernel), List.mem_of_getElem? (i := 118) (by decide +kernel)⟩
theorem lw_p3 : lw_okq (⟨"BulbShapes$Table", "isApart", "(III)Z"⟩, 3) := ⟨⟨by decide +kernel, by decide +kernel⟩, List.mem_of_getElem? (i := 55) (by decide +kernel), List.mem_of_getElem? (i := 132) (by decide +kernel), List.mem_of_getElem? (i := 133) (by decide +kernel)⟩
theorem lw_p4 : lw_okq (⟨"java/lang/Throwable", "fillInStackTrace", "(I)Ljava/lang/Throwable;"⟩, 6) := ⟨⟨by decide +kernel, by decide +kernel⟩, List.mem_of_getElem? (i := 194) (by decide +kernel), List.mem_of_getElem? (i := 192) (by decide +kernel), List.mem_of_getElem? (i := 193) (by decide +kernel)⟩
theorem lw_p5 : lw_okq (⟨"BulbShapes", "burntLamps", "()I"⟩, 5) := ⟨⟨by decide +kernel, by decide +kernel⟩, List.mem_of_getElem? (i := 15) (by decide +kernel), List.mem_of_getElem? (i := 224) (by decide +kernel), List.mem_of_getElem? (i := 225) (by decide +kernel)⟩
theorem lw_p6 : lw_okq (⟨"BulbShapes", "fieldsWithDigit", "()I"⟩, 5) := ⟨⟨by decide +kernel, by decide +kernel⟩, List.mem_of_getElem? (i := 15) (by decide +kernel), List.mem_of_getElem? (i := 229) (by decide +kernel), List.mem_of_getElem? (i := 230) (by decide +kernel)⟩
theorem lw_p7 : lw_okq (⟨"BulbShapes", "fieldsShown", "()I"⟩, 5) := ⟨⟨by decide +kernel, by decide +kernel⟩, List.mem_of_getElem? (i := 15) (by decide +kernel), List.mem_of_getElem? (i := 233) (by decide +kernel), List.mem_of_getElem? (i := 234) (by decide +kernel)⟩
theorem lw_p8 : lw_okq (⟨"BulbShapes", "isShown", "(I)Z"⟩, 5) := ⟨⟨by decide +kernel, by decide +kernel⟩, List.mem_of_getElem? (i := 15) (by decide +kernel), List.mem_of_getElem? (i := 237) (by decide +kernel), List.mem_of_getElem? (i := 238) (by decide +kernel)⟩
theorem lw_p9 : lw_okq (⟨"BulbShapes", "litLamps", "()I"⟩, 5) := ⟨⟨by decide +kernel, by decide +kernel⟩, List.mem_of_getElem? (i := 15) (by decide +kernel), List.mem_of_getElem? (i := 248) (by decide +kernel), List.mem_of_getElem? (i := 249) (by decide +kernel)⟩
theorem lw_p10 : lw_okq (⟨"BulbShapes", "litOf", "(I)I"⟩, 5) := ⟨⟨by decide +kernel, by decide +kernel⟩, List.mem_of_getElem? (i := 15) (by decide +kernel), List.mem_of_getElem? (i := 252) (by decide +kernel), List.mem_of_getElem? (i := 253) (by decide +kernel)⟩
theorem lw_p11 : lw_okq (⟨"BulbShapes", "numberShown", "()I"⟩, 5) := ⟨⟨by decide +kernel, by decide +kernel⟩, List.mem_of_getElem? (i := 15) (by decide +kernel), List.mem_of_getElem? (i := 261) (by decide +kernel), List.mem_of_getElem? (i := 262) (by decide +kernel)⟩
theorem lw_p12 : lw_okq (⟨"BulbShapes", "hoursUntilBurning", "(II)I"⟩, 5) := ⟨⟨by decide +kernel, by decide +kernel⟩, List.mem_of_getElem? (i := 15) (by decide +kernel), List.mem_of_getElem? (i := 269) (by decide +kernel), List.mem_of_getElem? (i := 270) (by decide +kernel)⟩
theorem lw_p13 : lw_okq (⟨"BulbShapes", "isWorn", "(II)Z"⟩, 5) := ⟨⟨by decide +kernel, by decide +kernel⟩, List.mem_of_getElem? (i := 15) (by decide +kernel), List.mem_of_getElem? (i := 279) (by decide +kernel), List.mem_of_getElem? (i := 280) (by decide +kernel)⟩
theorem lw_p14 : lw_okq (⟨"BulbShapes", "tryBurning", "(II)V"⟩, 5) := ⟨⟨by decide +kernel, by decide +kernel⟩, List.mem_of_getElem? (i := 15) (by decide +kernel), List.mem_of_getElem? (i := 397) (by decide +kernel), List.mem_of_getElem? (i := 398) (by decide +kernel)⟩
theorem lw_p15 : lw_okq (⟨"BulbShapes$History", "slot", "(I)I"⟩, 3) := ⟨⟨by decide +kernel, by decide +kernel⟩, List.mem_of_getElem? (i := 85) (by decide +kernel), List.mem_of_getElem? (i := 422) (by decide +kernel), List.mem_of_getElem? (i := 423) (by decide +kernel)⟩
def lw_privs_1 : List (MethodName × Nat) := [(⟨"BulbShapes", "chooseAllTables", "()V"⟩, 5), (⟨"BulbShapes", "chooseTable", "(I)V"⟩, 5), (⟨"BulbShapes$Table", "chooseShape", "(III)V"⟩, 3), (⟨"BulbShapes$Table", "isApart", "(III)Z"⟩, 3), (⟨"java/lang/Throwable", "fillInStackTrace", "(I)Ljava/lang/Throwable;"⟩, 6), (⟨"BulbShapes", "burntLamps", "()I"⟩, 5), (⟨"BulbShapes", "fieldsWithDigit", "()I"⟩, 5), (⟨"BulbShapes", "fieldsShown", "()I"⟩, 5), (⟨"BulbShapes", "isShown", "(I)Z"⟩, 5), (⟨"BulbShapes", "litLamps", "()I"⟩, 5), (⟨"BulbShapes", "litOf", "(I)I"⟩, 5), (⟨"BulbShapes", "numberShown", "()I"⟩, 5), (⟨"BulbShapes", "hoursUntilBurning", "(II)I"⟩, 5), (⟨"BulbShapes", "isWorn", "(II)Z"⟩, 5), (⟨"BulbShapes", "tryBurning", "(II)V"⟩, 5), (⟨"BulbShapes$History", "slot", "(I)I"⟩, 3)]
theorem lw_r1 : ∀ q ∈ lw_privs_1, lw_okq q := List.forall_mem_cons.mpr ⟨lw_p0, List.forall_mem_cons.mpr ⟨lw_p1, List.forall_mem_cons.mpr ⟨lw_p2, List.forall_mem_cons.mpr ⟨lw_p3, List.forall_mem_cons.mpr ⟨lw_p4, List.forall_mem_cons.mpr ⟨lw_p5, List.forall_mem_cons.mpr ⟨lw_p6, List.forall_mem_cons.mpr ⟨lw_p7, List.forall_mem_cons.mpr ⟨lw_p8, List.forall_mem_cons.mpr ⟨lw_p9, List.forall_mem_cons.mpr ⟨lw_p10, List.forall_mem_cons.mpr ⟨lw_p11, List.forall_mem_cons.mpr ⟨lw_p12, List.forall_mem_cons.mpr ⟨lw_p13, List.forall_mem_cons.mpr ⟨lw_p14, List.forall_mem_cons.mpr ⟨lw_p15, fun _ h => absurd h List.not_mem_nil⟩⟩⟩⟩⟩⟩⟩⟩⟩⟩⟩⟩⟩⟩⟩⟩
theorem lw_p16 : lw_okq (⟨"BulbShapes", "canShowNumber", "(I)Z"⟩, 5) := ⟨⟨by decide +kernel, by decide +kernel⟩, List.mem_of_getElem? (i := 15) (by decide +kernel), List.mem_of_getElem? (i := 475) (by decide +kernel), List.mem_of_getElem? (i := 476) (by decide +kernel)⟩
theorem lw_p17 : lw_okq (⟨"BulbShapes", "light", "(I)V"⟩, 5) := ⟨⟨by decide +kernel, by decide +kernel⟩, List.mem_of_getElem? (i := 15) (by decide +kernel), List.mem_of_getElem? (i := 511) (by decide +kernel), List.mem_of_getElem? (i := 512) (by decide +kernel)⟩
theorem lw_p18 : lw_okq (⟨"BulbShapes", "burnWorn", "()I"⟩, 5) := ⟨⟨by decide +kernel, by decide +kernel⟩, List.mem_of_getElem? (i := 15) (by decide +kernel), List.mem_of_getElem? (i := 519) (by decide +kernel), List.mem_of_getElem? (i := 520) (by decide +kernel)⟩
def lw_privs_2 : List (MethodName × Nat) := [(⟨"BulbShapes", "canShowNumber", "(I)Z"⟩, 5), (⟨"BulbShapes", "light", "(I)V"⟩, 5), (⟨"BulbShapes", "burnWorn", "()I"⟩, 5)]
theorem lw_r2 : ∀ q ∈ lw_privs_2, lw_okq q := List.forall_mem_cons.mpr ⟨lw_p16, List.forall_mem_cons.mpr ⟨lw_p17, List.forall_mem_cons.mpr ⟨lw_p18, fun _ h => absurd h List.not_mem_nil⟩⟩⟩
def lw_privs : List (MethodName × Nat) := lw_privs_1 ++ (lw_privs_2)
def lw_tbl : List Cond := k2_sels lw_privs ++ tables_1
theorem lw_privs_ok : ∀ q ∈ lw_privs, lw_okq q := by
  show ∀ q ∈ lw_privs_1 ++ (lw_privs_2), lw_okq q
  exact List.forall_mem_append.mpr ⟨lw_r1, lw_r2⟩
/-- the streams that the claim lets the run draw from -/
abbrev lw_cs : List Choice := [Jvm.Choice.named "NaN.bits"]
theorem lw_bits : nanBits ∈ lw_cs := by first | decide | exact List.mem_cons_self | simp [lw_cs, nanBits]
end
section
/-! ===== BEGIN words of one list among another's, by their places ===== -/
theorem goodIn_r {big : List Cond} (ws : List Cond) (ps : List Nat) (hp : ws = ps.filterMap (fun i => big[i]?)) (h : ws.all goodWord = true) : GoodIn big ws := by
  intro w hw
  have h1 := List.all_eq_true.mp h w hw
  rw [hp] at hw
  obtain ⟨i, -, hi⟩ := List.mem_filterMap.mp hw
  have hm : w ∈ big := by first | exact List.mem_of_getElem? hi | exact List.getElem?_mem hi
  exact ⟨hm, good_of_word h1⟩
theorem goodIn_app {big a b : List Cond} (ha : GoodIn big a) (hb : GoodIn big b) : GoodIn big (a ++ b) := fun w h => (List.mem_append.mp h).elim (ha w) (hb w)
theorem goodIn_ca {big a b : List Cond} {c : Cond} (ha : GoodIn big (c :: a)) (hb : GoodIn big b) : GoodIn big (c :: (a ++ b)) := fun w h => (List.mem_cons.mp h).elim (fun e => ha w (List.mem_cons.mpr (Or.inl e))) (fun h => (List.mem_append.mp h).elim (fun h => ha w (List.mem_cons.mpr (Or.inr h))) (hb w))
theorem goodIn_sub {big ws : List Cond} (hm : ∀ w ∈ ws, w ∈ big) (h : ws.all goodWord = true) : GoodIn big ws := fun w hw => ⟨hm w hw, good_of_word (List.all_eq_true.mp h w hw)⟩
/-! ===== END ===== -/

/-! ===== BEGIN exceptions that leave a method, and their catching by the caller (launches without stack traces) ===== -/
section VXA
/-! The laws vx_back, vx_callV, vx_callS, vx_callSW, vx_throw0, vx_throwS follow proofs of the library, with one case more: JvmDerived/Free/Laws.lean (Back.of_free), Shelf42/LK1.lean (callV, callS), Shelf/KitTraced.lean (throwNew0V, throwNewS). -/
/-- where a method has thrown q: the class by its name, the cell, what was written, the world -/
def vx_T (XC : String → State → State → Prop) (st : State) (q : Addr) (t : State) (mc ms : Nat) (free : Addr → Prop) : Prop :=
  ∃ (E : String) (ce : Cell) (L : List Loc), XC E st t ∧ t.heap[q]? = some ce ∧ ce.vm = .none ∧ st.vm.findClass E = some ce.cls ∧ st.WarmedH t.vm ∧ st.sameButNew ({ t with vm := st.vm } : State) L mc ms ∧ ∀ z ∈ L, free z.base
def vx_Q (Qc : Array Value → State → Outcome → State → Prop) (XC : String → State → State → Prop) (mc ms : Nat) (free : Addr → Prop) : Array Value → State → Outcome → State → Prop := fun a st o t =>
  (Qc a st o t ∧ ∃ L, FrameEnd st o t L mc ms ∧ ∀ q ∈ L, free q.base) ∨ ∃ q, o = .threw q ∧ vx_T XC st q t mc ms free
/-- a callee that returns or throws -/
def vx_Met (l : Launch) (y : MethodName) (ws : List Cond) (rm : Room) (Pc : Array Value → State → Prop) (Qc : Array Value → State → Outcome → State → Prop) (XC : String → State → State → Prop) (mc ms : Nat) (free : Addr → Prop) : Prop :=
  MetFree l y (headSpec ws rm) Pc (fun _ _ _ _ _ => True) (vx_Q Qc XC mc ms free)
def vx_Post (XC : String → State → State → Prop) (mc ms : Nat) (free : Addr → Prop) : Pt → Array Value → Addr → Pt → Prop := fun A a q B =>
  ∃ (g : JFrame) (mk : MethodId) (t : State) (L : List Loc) (E : String) (ce : Cell), B.U.heap = t.heap ∧ B.U.vm = t.vm ∧ XC E (A.U.calling g mk a) t ∧ t.heap[q]? = some ce ∧ ce.vm = .none ∧ A.U.vm.findClass E = some ce.cls ∧ B.locs = A.locs ++ L ∧ (∀ z ∈ L, free z.base) ∧ B.cells = A.cells + mc ∧ B.slots = A.slots + ms
def vx_Back (l : Launch) (R : Room) (p : Program) (e : Env) (below : List Frame) (s : State) (sargs : Array Value) (y : MethodName) (len W9 : Nat)
    (Pre : Pt → Array Value → Prop) (Post : Pt → Array Value → Option Value → Pt → Prop) (PostX : Pt → Array Value → Addr → Pt → Prop) : Prop :=
  ∀ (m : MethodId) (meth : Method) (c : Code) (A : Pt) (g : JFrame) (ig : Instr) (mk : MethodId) (a : Array Value),
    Stand p l e R s m sargs below meth c A.U A.locs A.cells A.slots → g.method = m → g.locals.size = c.maxLocals → decode c.code g.pc = .ok (ig, len) →
    2 * g.monitorRoom + (g.stack.map fun v => v.category).sum ≤ W9 → A.U.methodNamed? y = some mk → Pre A a →
    (∃ (v : Option Value) (B : Pt), Stand p l e R s m sargs below meth c B.U B.locs B.cells B.slots ∧ Post A a v B ∧
      Steps p.tables e below (doInvoke e (A.U.setTop g) [] mk a).1 (B.U.setTop { g with pc := g.pc + len, stack := v.toList ++ g.stack })) ∨
    (∃ (q : Addr) (B : Pt), Stand p l e R s m sargs below meth c B.U B.locs B.cells B.slots ∧ PostX A a q B ∧
      Steps p.tables e below (doInvoke e (A.U.setTop g) [] mk a).1 ((B.U.setTop g).pushFrame (.throwing q)))
section Payer
variable {l : Launch} {R : Room} {p : Program} {e : Env} {below : List Frame} {s : State} {sargs : Array Value} {y : MethodName} {len W9 : Nat}
theorem vx_back {ws : List Cond} {rm : Room} {Pc : Array Value → State → Prop} {Qc : Array Value → State → Outcome → State → Prop} {XC : String → State → State → Prop} {mc ms : Nat} {free : Addr → Prop} {bytes : ByteArray} {maxL : Nat} {ret : Option FieldType}
    (hM : vx_Met l y ws rm Pc Qc XC mc ms free) (hblind : FrameBlind Pc) (hrc : rm.cells = mc) (hrs : rm.slots = ms)
    (hframes : rm.frames + 1 ≤ R.frames) (hlocals : W9 + (maxL + 11) + rm.locals ≤ R.locals)
    (hws : ∀ w ∈ ws, ∀ a' U, s.WarmedH U.vm → w.before a' U = true) (hcode : Cond.code y bytes maxL ret ∈ ws) (hinit : ∀ a' U, s.WarmedH U.vm → (Cond.initialized y.cls).before a' U = true) :
    vx_Back l R p e below s sargs y len W9 (PreOf R mc ms Pc) (PostOf Qc mc ms free) (vx_Post XC mc ms free) := by
  intro m meth c A g ig mk a X hg hsize hdg hW hn hp
  have h1 : (headSpec ws rm).pre.before a A.U = true := atoms_intro fun w hw => hws w hw _ _ X.warmed
  have h2 : (Cond.code y bytes maxL ret).before a A.U = true := hws _ hcode _ _ X.warmed
  have h3 : (Cond.initialized y.cls).before a A.U = true := hinit _ _ X.warmed
  have h4 : A.cells + (headSpec ws rm).room.cells ≤ R.cells := by rw [show (headSpec ws rm).room.cells = mc from hrc]; exact hp.1
  have h5 : A.slots + (headSpec ws rm).room.slots ≤ R.slots := by rw [show (headSpec ws rm).room.slots = ms from hrs]; exact hp.2.1
  have hPc : Pc a (A.U.calling g mk a) := hblind _ _ _ _ hp.2.2
  obtain ⟨U, Ls, c0, s0⟩ := A
  dsimp only [Pt.U, Pt.locs, Pt.cells, Pt.slots] at h1 h2 h3 h4 h5 X hn hPc ⊢
  obtain ⟨methY, cY, hmY, hcY, -, hlY, -, -, -, -⟩ := Cond.code_spec hn h2
  obtain ⟨kY, hkY, -⟩ := className_of_methodNamed hn
  have hinitY : kY.init = .initialized := Cond.initialized_spec (findClass_of_methodNamed hn) hkY h3
  have h : At U g.method c below := by rw [hg]; exact X.here
  have hlocals9 : W9 + (maxL + 11) + (headSpec ws rm).room.locals ≤ R.locals := hlocals
  have happ : (headSpec ws rm).appliesLoose y e.platform (U.calling g mk a) = true :=
    Spec.appliesLoose_calling (g := g) h hdg hn hkY hinitY
      (X.room_calling (g := g) (R' := (headSpec ws rm).room) hsize hmY hcY hframes (by rw [hlY]; omega) h4 h5) h1
  obtain ⟨mid, hmid⟩ := h.above
  have hfr : (U.setTop g).frames = (.java g :: mid) ++ below := by rw [State.frames_setTop' g h.top, hmid]; rfl
  obtain ⟨o, s₂, hsteps, -, hend, hq⟩ := Steps.callFree hM p X.admits X.cas X.clock (acts := []) hfr happ hPc trivial
  have hq' : vx_Q Qc XC mc ms free a (U.calling g mk a) o s₂ := hq
  rw [State.frames_setTop' g h.top] at hend
  obtain ⟨g₀, hg0⟩ := Option.isSome_iff_exists.mp h.top
  obtain ⟨r, hr⟩ := State.topJava?_eq_some.mp hg0
  have hr' : (({ U with heap := s₂.heap, slotsUsed := s₂.slotsUsed } : State).setVm s₂.vm).frames = .java g₀ :: r := hr
  rcases hq' with ⟨hqc, L, hfe, hL⟩ | ⟨q, rfl, E, ce, L, hx, hce, hcv, hcl, hW₂, hsm, hL⟩
  · obtain ⟨⟨v, rfl⟩, hW₂, e2, q2, q3, q4, q5, q6⟩ := id hfe
    have e3 : s₂ = ({ (U.calling g mk a).setFrames s₂.frames with heap := s₂.heap, slotsUsed := s₂.slotsUsed } : State).setVm s₂.vm := by
      have : s₂ = ({ s₂ with vm := (U.calling g mk a).vm } : State).setVm s₂.vm := rfl
      rw [e2] at this
      exact this
    obtain ⟨c₂, i₂, len₂, hc₂, hd₂, hf₂⟩ := hend
    have hW' : U.WarmedH s₂.vm := hW₂
    have hcc : c₂ = c := by
      have h1 : s₂.code? g.method = U.code? g.method := by
        rw [State.code?_eq, State.code?_eq, hW'.alike.method?]
      exact Option.some.inj (hc₂.symm.trans (h1.trans h.code))
    subst hcc
    have hlen : len₂ = len := by rw [hdg] at hd₂; cases hd₂; rfl
    subst hlen
    have hs₂ : s₂ = (({ U with heap := s₂.heap, slotsUsed := s₂.slotsUsed } : State).setVm s₂.vm).setTop { g with pc := g.pc + len₂, stack := v.toList ++ g.stack } := by
      refine e3.trans ?_
      rw [hf₂, State.calling_eq h.top, State.setFrames_setFrames, State.setTop_of_frames _ hr', hr]
      rfl
    have hsame : U.sameButNew ({ U with heap := s₂.heap, slotsUsed := s₂.slotsUsed } : State) L mc ms := by
      refine ⟨?_, q2, q3, q4, q5, q6⟩
      obtain ⟨t, ht, -⟩ := State.frames_cons hr
      show ({ U with heap := s₂.heap, slotsUsed := s₂.slotsUsed } : State) = { U.setFrames U.frames with heap := s₂.heap, slotsUsed := s₂.slotsUsed }
      rw [State.setFrames_self ht]
    subst hg
    refine Or.inl ⟨v, ⟨(({ U with heap := s₂.heap, slotsUsed := s₂.slotsUsed } : State).setVm s₂.vm), Ls ++ L, c0 + mc, s0 + ms⟩,
      ⟨X.admits, X.cas, X.clock, X.frames, X.room, X.hears, X.method, X.code, (X.here.setHeapUsed s₂.heap s₂.slotsUsed).setVm hW'.alike, X.tail, State.WarmedH.trans X.warmed hW', X.limits, X.bytes, X.same.trans (hsame.setVm s.vm)⟩,
      ⟨g, mk, s₂, L, rfl, rfl, hqc, rfl, hL, rfl, rfl⟩, ?_⟩
    show Steps p.tables e below _ ((({ U with heap := s₂.heap, slotsUsed := s₂.slotsUsed } : State).setVm s₂.vm).setTop { g with pc := g.pc + len₂, stack := v.toList ++ g.stack })
    rw [← hs₂]
    exact hsteps
  · obtain ⟨e2, q2, q3, q4, q5, q6⟩ := id hsm
    have e3 : s₂ = ({ (U.calling g mk a).setFrames s₂.frames with heap := s₂.heap, slotsUsed := s₂.slotsUsed } : State).setVm s₂.vm := by
      have : s₂ = ({ s₂ with vm := (U.calling g mk a).vm } : State).setVm s₂.vm := rfl
      rw [e2] at this
      exact this
    have hf₂ : s₂.frames = .throwing q :: .java g :: U.frames.tail := hend
    have hW' : U.WarmedH s₂.vm := hW₂
    have hs₂ : s₂ = ((({ U with heap := s₂.heap, slotsUsed := s₂.slotsUsed } : State).setVm s₂.vm).setTop g).pushFrame (.throwing q) := by
      refine e3.trans ?_
      rw [hf₂, State.calling_eq h.top, State.setFrames_setFrames, State.pushFrame, State.frames_setTop _ hr', State.setTop_of_frames _ hr', State.setFrames_setFrames, hr]
      rfl
    have hsame : U.sameButNew ({ U with heap := s₂.heap, slotsUsed := s₂.slotsUsed } : State) L mc ms := by
      refine ⟨?_, q2, q3, q4, q5, q6⟩
      obtain ⟨t, ht, -⟩ := State.frames_cons hr
      show ({ U with heap := s₂.heap, slotsUsed := s₂.slotsUsed } : State) = { U.setFrames U.frames with heap := s₂.heap, slotsUsed := s₂.slotsUsed }
      rw [State.setFrames_self ht]
    subst hg
    refine Or.inr ⟨q, ⟨(({ U with heap := s₂.heap, slotsUsed := s₂.slotsUsed } : State).setVm s₂.vm), Ls ++ L, c0 + mc, s0 + ms⟩,
      ⟨X.admits, X.cas, X.clock, X.frames, X.room, X.hears, X.method, X.code, (X.here.setHeapUsed s₂.heap s₂.slotsUsed).setVm hW'.alike, X.tail, State.WarmedH.trans X.warmed hW', X.limits, X.bytes, X.same.trans (hsame.setVm s.vm)⟩,
      ⟨g, mk, s₂, L, E, ce, rfl, rfl, hx, hce, hcv, hcl, rfl, hL, rfl, rfl⟩, ?_⟩
    show Steps p.tables e below _ (((({ U with heap := s₂.heap, slotsUsed := s₂.slotsUsed } : State).setVm s₂.vm).setTop g).pushFrame (.throwing q))
    rw [← hs₂]
    exact hsteps
end Payer
section Calls
variable {p : Program} {l : Launch} {e : Env} {R : Room} {s : State} {m : MethodId} {args : Array Value} {below : List Frame} {meth : Method} {c : Code} {T : State} {locs : List Loc} {cells slots : Nat}
theorem vx_callV (X : Stand p l e R s m args below meth c T locs cells slots) (hexec : p.tables.exec = Jvm.exec) {own C : String} {index : Nat} {y : MethodName} {bytes : ByteArray} {maxL : Nat} {ret : Option FieldType}
    (hown : s.vm.findClass own = some m.cls) (hlink : (Cond.methodLink own index y).before args s = true) (hinst : (Cond.instanceMethod y).before args s = true) (hsel : (Cond.selects C y y).before args s = true)
    (hcode : (Cond.code y bytes maxL ret).before args s = true) (hy : y.cls ≠ "java/lang/invoke/MethodHandle" ∧ y.cls ≠ "java/lang/invoke/VarHandle")
    {W9 : Nat} {Pre : Pt → Array Value → Prop} {Post : Pt → Array Value → Option Value → Pt → Prop} {PostX : Pt → Array Value → Addr → Pt → Prop} (hK : vx_Back l R p e below s args y 3 W9 Pre Post PostX)
    {b : Addr} {cellB : Cell} (hcell : T.heap[b]? = some cellB) (hobj : cellB.vm.isStatics = false) (hcls : s.vm.findClass C = some cellB.cls)
    {g : JFrame} (hg : g.method = m) (hsize : g.locals.size = c.maxLocals) {argsL rest : List Value} (hlen : ∀ sig, parseMethodDescriptor y.desc = some sig → argsL.length = sig.parameters.length)
    (hstack : g.stack = argsL.reverse ++ .ref b :: rest) (hW : 2 * g.monitorRoom + (rest.map fun v => v.category).sum ≤ W9) (hdg : decode c.code g.pc = .ok (.invokevirtual index, 3))
    (hpre : ∀ vm₁, s.WarmedH vm₁ → Pre ⟨T.setVm vm₁, locs, cells, slots⟩ (Value.ref b :: argsL).toArray) :
    (∃ (v : Option Value) (vm₁ : Vm) (B : Pt), s.WarmedH vm₁ ∧ Stand p l e R s m args below meth c B.U B.locs B.cells B.slots ∧ Post ⟨T.setVm vm₁, locs, cells, slots⟩ (Value.ref b :: argsL).toArray v B ∧
      ∀ target, Steps p.tables e below (B.U.setTop { g with pc := g.pc + 3, stack := v.toList ++ rest }) target → Steps p.tables e below (T.setTop g) target) ∨
    (∃ (q : Addr) (vm₁ : Vm) (B : Pt), s.WarmedH vm₁ ∧ Stand p l e R s m args below meth c B.U B.locs B.cells B.slots ∧ PostX ⟨T.setVm vm₁, locs, cells, slots⟩ (Value.ref b :: argsL).toArray q B ∧
      Steps p.tables e below (T.setTop g) ((B.U.setTop { g with stack := rest }).pushFrame (.throwing q))) := by
  obtain ⟨mk, methM, hnamed, hmethM, hstM, habM⟩ := Cond.instanceMethod_spec hinst
  obtain ⟨methM', cM, hmethM', -, -, -, -, -, -, hsigM⟩ := Cond.code_spec hnamed hcode
  cases hmethM.symm.trans hmethM'
  obtain ⟨c2, r2, m2, q1, q2, q3, q4, kP, hkP, hkPi⟩ := Cond.selects_spec hsel
  cases hcls.symm.trans q1
  cases (State.methodFound?_of_named hnamed hy).symm.trans q2
  cases hnamed.symm.trans q3
  have hselP : selectMethod e.platform s.vm cellB.cls mk = .method mk := by rw [Launch.admits_selectMethod X.admits]; exact q4
  obtain ⟨vm₁, X₁, hstep₁⟩ := X.invokevirtual hexec hown hlink hnamed hmethM hstM hkP hkPi hy (a := b) (cell := cellB) hcell
    (fun z h => by rw [h] at hobj; cases hobj) hselP hmethM habM hkP hkPi (g := g) hg (argsL := argsL) (rest := rest) (hlen _ hsigM) hstack hdg
  rcases hK m meth c ⟨T.setVm vm₁, locs, cells, slots⟩ { g with stack := rest } (.invokevirtual index) mk (Value.ref b :: argsL).toArray X₁ hg hsize hdg hW (X₁.named hnamed) (hpre vm₁ X₁.warmed) with ⟨v, B, X', hpost, hsteps⟩ | ⟨q, B, X', hpost, hsteps⟩
  · exact Or.inl ⟨v, vm₁, B, X₁.warmed, X', hpost, fun target h => hstep₁ _ fun acts => by rw [doInvoke_state]; exact hsteps.trans h⟩
  · exact Or.inr ⟨q, vm₁, B, X₁.warmed, X', hpost, hstep₁ _ fun acts => by rw [doInvoke_state]; exact hsteps⟩
theorem vx_callS (X : Stand p l e R s m args below meth c T locs cells slots) (hexec : p.tables.exec = Jvm.exec) {own : String} {index : Nat} {y : MethodName} {bytes : ByteArray} {maxL : Nat} {ret : Option FieldType}
    (hown : s.vm.findClass own = some m.cls) (hlink : (Cond.methodLink own index y).before args s = true) (hstat : (Cond.static y).before args s = true) (hinit : (Cond.initialized y.cls).before args s = true)
    (hcode : (Cond.code y bytes maxL ret).before args s = true) (hy : y.cls ≠ "java/lang/invoke/MethodHandle" ∧ y.cls ≠ "java/lang/invoke/VarHandle")
    {W9 : Nat} {Pre : Pt → Array Value → Prop} {Post : Pt → Array Value → Option Value → Pt → Prop} {PostX : Pt → Array Value → Addr → Pt → Prop} (hK : vx_Back l R p e below s args y 3 W9 Pre Post PostX)
    {g : JFrame} (hg : g.method = m) (hsize : g.locals.size = c.maxLocals) {argsL rest : List Value} (hlen : ∀ sig, parseMethodDescriptor y.desc = some sig → argsL.length = sig.parameters.length)
    (hstack : g.stack = argsL.reverse ++ rest) (hW : 2 * g.monitorRoom + (rest.map fun v => v.category).sum ≤ W9) (hdg : decode c.code g.pc = .ok (.invokestatic index, 3))
    (hpre : ∀ vm₁, s.WarmedH vm₁ → Pre ⟨T.setVm vm₁, locs, cells, slots⟩ argsL.toArray) :
    (∃ (v : Option Value) (vm₁ : Vm) (B : Pt), s.WarmedH vm₁ ∧ Stand p l e R s m args below meth c B.U B.locs B.cells B.slots ∧ Post ⟨T.setVm vm₁, locs, cells, slots⟩ argsL.toArray v B ∧
      ∀ target, Steps p.tables e below (B.U.setTop { g with pc := g.pc + 3, stack := v.toList ++ rest }) target → Steps p.tables e below (T.setTop g) target) ∨
    (∃ (q : Addr) (vm₁ : Vm) (B : Pt), s.WarmedH vm₁ ∧ Stand p l e R s m args below meth c B.U B.locs B.cells B.slots ∧ PostX ⟨T.setVm vm₁, locs, cells, slots⟩ argsL.toArray q B ∧
      Steps p.tables e below (T.setTop g) ((B.U.setTop { g with stack := rest }).pushFrame (.throwing q))) := by
  obtain ⟨mk, hnamed⟩ := Cond.code_named hcode
  obtain ⟨methM, cM, hmethM, -, -, -, -, -, -, hsigM⟩ := Cond.code_spec hnamed hcode
  have hstatic : methM.isStatic = true := Cond.static_spec hnamed hmethM hstat
  obtain ⟨kP, hkP, -⟩ := className_of_methodNamed hnamed
  have hinitP : kP.init = .initialized := Cond.initialized_spec (findClass_of_methodNamed hnamed) hkP hinit
  obtain ⟨vm₁, X₁, hstep₁⟩ := X.invokestatic hexec hown hlink hnamed hmethM hstatic hkP hinitP hy (g := g) hg (argsL := argsL) (rest := rest) (hlen _ hsigM) hstack hdg
  rcases hK m meth c ⟨T.setVm vm₁, locs, cells, slots⟩ { g with stack := rest } (.invokestatic index) mk argsL.toArray X₁ hg hsize hdg hW (X₁.named hnamed) (hpre vm₁ X₁.warmed) with ⟨v, B, X', hpost, hsteps⟩ | ⟨q, B, X', hpost, hsteps⟩
  · exact Or.inl ⟨v, vm₁, B, X₁.warmed, X', hpost, fun target h => hstep₁ _ fun acts => by rw [doInvoke_state]; exact hsteps.trans h⟩
  · exact Or.inr ⟨q, vm₁, B, X₁.warmed, X', hpost, hstep₁ _ fun acts => by rw [doInvoke_state]; exact hsteps⟩
end Calls
theorem vx_cls {s : State} {T : State} {vm₁ : Vm} {E : String} {k : ClassId} (hW : s.WarmedH vm₁) (h : (T.setVm vm₁).vm.findClass E = some k) : s.vm.findClass E = some k := by
  have h1 : vm₁.findClass E = some k := h
  rw [hW.alike.findClass] at h1
  exact h1
/-- the method's frame g, with q thrown over it -/
def vx_W (p : Program) (l : Launch) (e : Env) (R : Room) (s : State) (m : MethodId) (args : Array Value) (below : List Frame) (meth : Method) (c : Code) (H : Heap) (locs : List Loc) (cells slots : Nat) (Q : State → Prop) (g : JFrame) (q : Addr) : Prop :=
  ∀ T : State, T.heap = H → Stand p l e R s m args below meth c T locs cells slots → ∃ t, Steps p.tables e below ((T.setTop g).pushFrame (.throwing q)) t ∧ Q t
def vx_Run (p : Program) (l : Launch) (e : Env) (R : Room) (s : State) (m : MethodId) (args : Array Value) (below : List Frame) (meth : Method) (c : Code) (H : Heap) (locs : List Loc) (cells slots mc ms : Nat) (g : JFrame) (rest : List Value) (Qa : State → Outcome → State → Prop) (XC : String → State → State → Prop) (free : Addr → Prop) : Prop :=
  ∀ T : State, T.heap = H → Stand p l e R s m args below meth c T locs cells slots →
    (∃ (v : Option Value) (st₀ t T' : State) (L : List Loc), st₀.heap = H ∧ Stand p l e R s m args below meth c T' (locs ++ L) (cells + mc) (slots + ms) ∧ (∀ q ∈ L, free q.base) ∧ T'.heap = t.heap ∧ T'.vm = t.vm ∧ Qa st₀ (.returned v) t ∧
      Goes p e below T g T' { g with pc := g.pc + 3, stack := v.toList ++ rest }) ∨
    (∃ (q : Addr) (st₀ t T' : State) (L : List Loc) (E : String) (ce : Cell), st₀.heap = H ∧ Stand p l e R s m args below meth c T' (locs ++ L) (cells + mc) (slots + ms) ∧ (∀ z ∈ L, free z.base) ∧ T'.heap = t.heap ∧ T'.vm = t.vm ∧ XC E st₀ t ∧ t.heap[q]? = some ce ∧ ce.vm = .none ∧ s.vm.findClass E = some ce.cls ∧
      Steps p.tables e below (T.setTop g) ((T'.setTop { g with stack := rest }).pushFrame (.throwing q)))
def vx_X {S : Type} (px : S → Prop) (B : String → S → State → Prop) (A : Nat → Prop) : String → State → State → Prop := fun E st t => ∃ u : S, px u ∧ B E u t ∧ va_F A st t
section Runs
variable {p : Program} {l : Launch} {e : Env} {R : Room} {s : State} {m : MethodId} {args : Array Value} {below : List Frame} {meth : Method} {c : Code} {H : Heap} {locs : List Loc} {cells slots : Nat}
variable {y : MethodName} {bytes cc : ByteArray} {maxL nL mc ms n index : Nat} {ret : Option FieldType} {ws : List Cond} {rm : Room} {Pc : Array Value → State → Prop} {Qc : Array Value → State → Outcome → State → Prop} {XC : String → State → State → Prop} {free : Addr → Prop} {Ts : List Cond} {own C : String} {b : Addr} {As rest : List Value} {g : JFrame}
theorem vx_callBack (cb : CallB R s args own index y bytes maxL ret ws rm mc ms n) (hM : vx_Met l y ws rm Pc Qc XC mc ms free) (hbl : FrameBlind Pc) : vx_Back l R p e below s args y 3 8 (PreOf R mc ms Pc) (PostOf Qc mc ms free) (vx_Post XC mc ms free) := by
  obtain ⟨hrc, hrs, hfr, hlo, hws, hcw, -, hini, -⟩ := cb
  exact vx_back (bytes := bytes) (maxL := maxL) (ret := ret) hM hbl hrc hrs hfr hlo hws hcw (fun a' U hW => word_at hW (Or.inl (by first | rfl | simp [Cond.onTables, Cond.keeps, Cond.steady])) hini)
theorem vx_runV (S : CallFix p m c cc nL s args Ts own) (hM : vx_Met l y ws rm Pc Qc XC mc ms free) (cw : CallW R s args own C index y bytes maxL ret ws rm mc ms n) (hp : PreV s H C b Pc As)
    (hg : g.method = m) (hn : As.length = n) (hsize : g.locals.size = nL) (hstack : g.stack = As.reverse ++ .ref b :: rest) (hW : 2 * g.monitorRoom + (rest.map fun v => v.category).sum ≤ 8) (hdg : decode cc g.pc = .ok (.invokevirtual index, 3)) (hf : cells + mc ≤ R.cells ∧ slots + ms ≤ R.slots) :
    vx_Run p l e R s m args below meth c H locs cells slots mc ms g rest (Qc (Value.ref b :: As).toArray) XC free := by
  have hK : vx_Back l R p e below s args y 3 8 (PreOf R mc ms Pc) (PostOf Qc mc ms free) (vx_Post XC mc ms free) := vx_callBack cw.1 hM hp.1
  obtain ⟨⟨-, -, -, -, -, -, hcode, -, hy, hlen, hl⟩, hin, hse⟩ := cw
  obtain ⟨hx, hb, hml, ho, -⟩ := S
  obtain ⟨-, ⟨cellB, hcB, hoB, hclB⟩, hPc⟩ := hp
  intro T hT X
  rcases vx_callV X hx (C := C) (bytes := bytes) (maxL := maxL) (ret := ret) ho hl hin hse hcode hy hK (by rw [hT]; exact hcB) hoB hclB hg (hsize.trans hml.symm) (argsL := As) (rest := rest) (fun sig h => hn.trans (hlen sig h)) hstack hW (by rw [hb]; exact hdg)
    (fun vm₁ hW₁ => ⟨hf.1, hf.2, hPc (T.setVm vm₁) hT hW₁⟩) with ⟨v, vm₁, ⟨U', l2, c2, s2⟩, hW₁, X', ⟨g', mk, t, L, e1, e2, hq, h1, hL, h2, h3⟩, st⟩ | ⟨q, vm₁, ⟨U', l2, c2, s2⟩, hW₁, X', ⟨g', mk, t, L, E, ce, e1, e2, hq, hce, hcv, hcl, h1, hL, h2, h3⟩, st⟩
  · dsimp only [Pt.U, Pt.locs, Pt.cells, Pt.slots] at X' e1 e2 h1 h2 h3 st
    subst h1; subst h2; subst h3
    exact Or.inl ⟨v, (T.setVm vm₁).calling g' mk (Value.ref b :: As).toArray, t, U', L, hT, X', hL, e1, e2, hq, st⟩
  · dsimp only [Pt.U, Pt.locs, Pt.cells, Pt.slots] at X' e1 e2 h1 h2 h3 st hcl
    subst h1; subst h2; subst h3
    exact Or.inr ⟨q, (T.setVm vm₁).calling g' mk (Value.ref b :: As).toArray, t, U', L, E, ce, hT, X', hL, e1, e2, hq, hce, hcv, vx_cls hW₁ hcl, st⟩
theorem vx_runS (S : CallFix p m c cc nL s args Ts own) (hM : vx_Met l y ws rm Pc Qc XC mc ms free) (cw : CallB R s args own index y bytes maxL ret ws rm mc ms n ∧ (Cond.static y).before args s = true) (hp : PreS s H Pc As)
    (hg : g.method = m) (hn : As.length = n) (hsize : g.locals.size = nL) (hstack : g.stack = As.reverse ++ rest) (hW : 2 * g.monitorRoom + (rest.map fun v => v.category).sum ≤ 8) (hdg : decode cc g.pc = .ok (.invokestatic index, 3)) (hf : cells + mc ≤ R.cells ∧ slots + ms ≤ R.slots) :
    vx_Run p l e R s m args below meth c H locs cells slots mc ms g rest (Qc As.toArray) XC free := by
  have hK : vx_Back l R p e below s args y 3 8 (PreOf R mc ms Pc) (PostOf Qc mc ms free) (vx_Post XC mc ms free) := vx_callBack cw.1 hM hp.1
  obtain ⟨⟨-, -, -, -, -, -, hcode, hini, hy, hlen, hl⟩, hstt⟩ := cw
  obtain ⟨hx, hb, hml, ho, -⟩ := S
  intro T hT X
  rcases vx_callS X hx (bytes := bytes) (maxL := maxL) (ret := ret) ho hl hstt hini hcode hy hK hg (hsize.trans hml.symm) (argsL := As) (rest := rest) (fun sig h => hn.trans (hlen sig h)) hstack hW (by rw [hb]; exact hdg)
    (fun vm₁ hW₁ => ⟨hf.1, hf.2, hp.2 (T.setVm vm₁) hT hW₁⟩) with ⟨v, vm₁, ⟨U', l2, c2, s2⟩, hW₁, X', ⟨g', mk, t, L, e1, e2, hq, h1, hL, h2, h3⟩, st⟩ | ⟨q, vm₁, ⟨U', l2, c2, s2⟩, hW₁, X', ⟨g', mk, t, L, E, ce, e1, e2, hq, hce, hcv, hcl, h1, hL, h2, h3⟩, st⟩
  · dsimp only [Pt.U, Pt.locs, Pt.cells, Pt.slots] at X' e1 e2 h1 h2 h3 st
    subst h1; subst h2; subst h3
    exact Or.inl ⟨v, (T.setVm vm₁).calling g' mk As.toArray, t, U', L, hT, X', hL, e1, e2, hq, st⟩
  · dsimp only [Pt.U, Pt.locs, Pt.cells, Pt.slots] at X' e1 e2 h1 h2 h3 st hcl
    subst h1; subst h2; subst h3
    exact Or.inr ⟨q, (T.setVm vm₁).calling g' mk As.toArray, t, U', L, E, ce, hT, X', hL, e1, e2, hq, hce, hcv, vx_cls hW₁ hcl, st⟩
end Runs
section Rows
variable {p : Program} {l : Launch} {e : Env} {R : Room} {s : State} {m : MethodId} {args : Array Value} {below : List Frame} {meth : Method} {c : Code} {H : Heap} {locs : List Loc} {cells slots : Nat} {Q : State → Prop}
variable {mc ms : Nat} {free : Addr → Prop} {A0 A1 : Nat → Prop} {H0 : Heap} {a : Array Value} {pc : Nat} {ls : Array Slot} {st0 rest : List Value}
theorem vx_keep {st₀ t T' : State} {L : List Loc} (h0 : st₀.heap = H) (e1 : T'.heap = t.heap) (hS : va_S A0 H0 H locs) (hA : ∀ q, q < H.size → A1 q → A0 q) (hf : ∀ q, free q → A0 q) (hL : ∀ q ∈ L, free q.base) (hF : va_F A1 st₀ t) :
    H.size ≤ T'.heap.size ∧ (∀ q : Nat, q < H.size → ¬ A1 q → T'.heap[q]? = H[q]?) ∧ va_S A0 H0 T'.heap (locs ++ L) := by
  obtain ⟨hz, hk⟩ := hF
  rw [h0] at hz hk
  exact ⟨by rw [e1]; exact hz, fun q h1 h2 => by rw [e1]; exact hk q h1 h2,
    ⟨Nat.le_trans hS.1 (by rw [e1]; exact hz), fun q h1 h2 => by rw [e1, hk q (Nat.lt_of_lt_of_le h1 hS.1) (fun z => h2 (hA q (Nat.lt_of_lt_of_le h1 hS.1) z))]; exact hS.2.1 q h1 h2, fun q hq => by
      rcases List.mem_append.mp hq with h | h
      · exact hS.2.2 q h
      · exact hf _ (hL q h)⟩⟩
theorem vx_calli {S SX : Type} {post : Int32 → S → Prop} {px : SX → Prop} {B : S → State → Prop} {BX : String → SX → State → Prop} {AX : Nat → Prop} (hr : vx_Run p l e R s m args below meth c H locs cells slots mc ms (F0 m pc ls st0) rest (va_Qi post B A1 a) (vx_X px BX AX) free) (hS : va_S A0 H0 H locs) (hA : ∀ q, q < H.size → A1 q → A0 q) (hf : ∀ q, free q → A0 q) (hAX : ∀ q, q < H.size → AX q → A0 q)
    (kx : ∀ (E : String) (ce : Cell) (q9 : Addr) (u : SX) (t : State) (H1 : Heap) (locs1 : List Loc), t.heap = H1 → s.vm.Alike t.vm → px u → BX E u t → H.size ≤ H1.size → (∀ q : Nat, q < H.size → ¬ AX q → H1[q]? = H[q]?) → va_S A0 H0 H1 locs1 → H1[q9]? = some ce → ce.vm = .none → s.vm.findClass E = some ce.cls → vx_W p l e R s m args below meth c H1 locs1 (cells + mc) (slots + ms) Q (F0 m pc ls rest) q9)
    (kk : ∀ (r : Int32) (u : S) (t : State) (H1 : Heap) (locs1 : List Loc), t.heap = H1 → s.vm.Alike t.vm → post r u → B u t → H.size ≤ H1.size → (∀ q : Nat, q < H.size → ¬ A1 q → H1[q]? = H[q]?) → va_S A0 H0 H1 locs1 → W p l e R s m args below meth c H1 locs1 (cells + mc) (slots + ms) Q (F0 m (pc + 3) ls (.int r :: rest))) : W p l e R s m args below meth c H locs cells slots Q (F0 m pc ls st0) := by
  intro T hT X
  rcases hr T hT X with ⟨v, st₀, t, T', L, h0, X', hL, e1, e2, ⟨⟨r, u, hv, hp, hb⟩, hF⟩, st⟩ | ⟨q, st₀, t, T', L, E, ce, h0, X', hL, e1, e2, ⟨u, hp, hb, hF⟩, hce, hcv, hcl, st⟩
  · cases hv
    obtain ⟨k1, k2, k3⟩ := vx_keep h0 e1 hS hA hf hL hF
    obtain ⟨t2, a1, b1⟩ := kk r u t T'.heap (locs ++ L) e1.symm (by rw [← e2]; exact X'.warmed.alike) hp hb k1 k2 k3 T' rfl X'
    exact ⟨t2, st t2 a1, b1⟩
  · obtain ⟨k1, k2, k3⟩ := vx_keep h0 e1 hS hAX hf hL hF
    obtain ⟨t2, a1, b1⟩ := kx E ce q u t T'.heap (locs ++ L) e1.symm (by rw [← e2]; exact X'.warmed.alike) hp hb k1 k2 k3 (by rw [e1]; exact hce) hcv hcl T' rfl X'
    exact ⟨t2, st.trans a1, b1⟩
theorem vx_calll {S SX : Type} {post : Int64 → S → Prop} {px : SX → Prop} {B : S → State → Prop} {BX : String → SX → State → Prop} {AX : Nat → Prop} (hr : vx_Run p l e R s m args below meth c H locs cells slots mc ms (F0 m pc ls st0) rest (va_Ql post B A1 a) (vx_X px BX AX) free) (hS : va_S A0 H0 H locs) (hA : ∀ q, q < H.size → A1 q → A0 q) (hf : ∀ q, free q → A0 q) (hAX : ∀ q, q < H.size → AX q → A0 q)
    (kx : ∀ (E : String) (ce : Cell) (q9 : Addr) (u : SX) (t : State) (H1 : Heap) (locs1 : List Loc), t.heap = H1 → s.vm.Alike t.vm → px u → BX E u t → H.size ≤ H1.size → (∀ q : Nat, q < H.size → ¬ AX q → H1[q]? = H[q]?) → va_S A0 H0 H1 locs1 → H1[q9]? = some ce → ce.vm = .none → s.vm.findClass E = some ce.cls → vx_W p l e R s m args below meth c H1 locs1 (cells + mc) (slots + ms) Q (F0 m pc ls rest) q9)
    (kk : ∀ (r : Int64) (u : S) (t : State) (H1 : Heap) (locs1 : List Loc), t.heap = H1 → s.vm.Alike t.vm → post r u → B u t → H.size ≤ H1.size → (∀ q : Nat, q < H.size → ¬ A1 q → H1[q]? = H[q]?) → va_S A0 H0 H1 locs1 → W p l e R s m args below meth c H1 locs1 (cells + mc) (slots + ms) Q (F0 m (pc + 3) ls (.long r :: rest))) : W p l e R s m args below meth c H locs cells slots Q (F0 m pc ls st0) := by
  intro T hT X
  rcases hr T hT X with ⟨v, st₀, t, T', L, h0, X', hL, e1, e2, ⟨⟨r, u, hv, hp, hb⟩, hF⟩, st⟩ | ⟨q, st₀, t, T', L, E, ce, h0, X', hL, e1, e2, ⟨u, hp, hb, hF⟩, hce, hcv, hcl, st⟩
  · cases hv
    obtain ⟨k1, k2, k3⟩ := vx_keep h0 e1 hS hA hf hL hF
    obtain ⟨t2, a1, b1⟩ := kk r u t T'.heap (locs ++ L) e1.symm (by rw [← e2]; exact X'.warmed.alike) hp hb k1 k2 k3 T' rfl X'
    exact ⟨t2, st t2 a1, b1⟩
  · obtain ⟨k1, k2, k3⟩ := vx_keep h0 e1 hS hAX hf hL hF
    obtain ⟨t2, a1, b1⟩ := kx E ce q u t T'.heap (locs ++ L) e1.symm (by rw [← e2]; exact X'.warmed.alike) hp hb k1 k2 k3 (by rw [e1]; exact hce) hcv hcl T' rfl X'
    exact ⟨t2, st.trans a1, b1⟩
theorem vx_callf {S SX : Type} {post : UInt32 → S → Prop} {px : SX → Prop} {B : S → State → Prop} {BX : String → SX → State → Prop} {AX : Nat → Prop} (hr : vx_Run p l e R s m args below meth c H locs cells slots mc ms (F0 m pc ls st0) rest (va_Qf post B A1 a) (vx_X px BX AX) free) (hS : va_S A0 H0 H locs) (hA : ∀ q, q < H.size → A1 q → A0 q) (hf : ∀ q, free q → A0 q) (hAX : ∀ q, q < H.size → AX q → A0 q)
    (kx : ∀ (E : String) (ce : Cell) (q9 : Addr) (u : SX) (t : State) (H1 : Heap) (locs1 : List Loc), t.heap = H1 → s.vm.Alike t.vm → px u → BX E u t → H.size ≤ H1.size → (∀ q : Nat, q < H.size → ¬ AX q → H1[q]? = H[q]?) → va_S A0 H0 H1 locs1 → H1[q9]? = some ce → ce.vm = .none → s.vm.findClass E = some ce.cls → vx_W p l e R s m args below meth c H1 locs1 (cells + mc) (slots + ms) Q (F0 m pc ls rest) q9)
    (kk : ∀ (r : UInt32) (u : S) (t : State) (H1 : Heap) (locs1 : List Loc), t.heap = H1 → s.vm.Alike t.vm → post r u → B u t → H.size ≤ H1.size → (∀ q : Nat, q < H.size → ¬ A1 q → H1[q]? = H[q]?) → va_S A0 H0 H1 locs1 → W p l e R s m args below meth c H1 locs1 (cells + mc) (slots + ms) Q (F0 m (pc + 3) ls (.float r :: rest))) : W p l e R s m args below meth c H locs cells slots Q (F0 m pc ls st0) := by
  intro T hT X
  rcases hr T hT X with ⟨v, st₀, t, T', L, h0, X', hL, e1, e2, ⟨⟨r, u, hv, hp, hb⟩, hF⟩, st⟩ | ⟨q, st₀, t, T', L, E, ce, h0, X', hL, e1, e2, ⟨u, hp, hb, hF⟩, hce, hcv, hcl, st⟩
  · cases hv
    obtain ⟨k1, k2, k3⟩ := vx_keep h0 e1 hS hA hf hL hF
    obtain ⟨t2, a1, b1⟩ := kk r u t T'.heap (locs ++ L) e1.symm (by rw [← e2]; exact X'.warmed.alike) hp hb k1 k2 k3 T' rfl X'
    exact ⟨t2, st t2 a1, b1⟩
  · obtain ⟨k1, k2, k3⟩ := vx_keep h0 e1 hS hAX hf hL hF
    obtain ⟨t2, a1, b1⟩ := kx E ce q u t T'.heap (locs ++ L) e1.symm (by rw [← e2]; exact X'.warmed.alike) hp hb k1 k2 k3 (by rw [e1]; exact hce) hcv hcl T' rfl X'
    exact ⟨t2, st.trans a1, b1⟩
theorem vx_calld {S SX : Type} {post : UInt64 → S → Prop} {px : SX → Prop} {B : S → State → Prop} {BX : String → SX → State → Prop} {AX : Nat → Prop} (hr : vx_Run p l e R s m args below meth c H locs cells slots mc ms (F0 m pc ls st0) rest (va_Qd post B A1 a) (vx_X px BX AX) free) (hS : va_S A0 H0 H locs) (hA : ∀ q, q < H.size → A1 q → A0 q) (hf : ∀ q, free q → A0 q) (hAX : ∀ q, q < H.size → AX q → A0 q)
    (kx : ∀ (E : String) (ce : Cell) (q9 : Addr) (u : SX) (t : State) (H1 : Heap) (locs1 : List Loc), t.heap = H1 → s.vm.Alike t.vm → px u → BX E u t → H.size ≤ H1.size → (∀ q : Nat, q < H.size → ¬ AX q → H1[q]? = H[q]?) → va_S A0 H0 H1 locs1 → H1[q9]? = some ce → ce.vm = .none → s.vm.findClass E = some ce.cls → vx_W p l e R s m args below meth c H1 locs1 (cells + mc) (slots + ms) Q (F0 m pc ls rest) q9)
    (kk : ∀ (r : UInt64) (u : S) (t : State) (H1 : Heap) (locs1 : List Loc), t.heap = H1 → s.vm.Alike t.vm → post r u → B u t → H.size ≤ H1.size → (∀ q : Nat, q < H.size → ¬ A1 q → H1[q]? = H[q]?) → va_S A0 H0 H1 locs1 → W p l e R s m args below meth c H1 locs1 (cells + mc) (slots + ms) Q (F0 m (pc + 3) ls (.double r :: rest))) : W p l e R s m args below meth c H locs cells slots Q (F0 m pc ls st0) := by
  intro T hT X
  rcases hr T hT X with ⟨v, st₀, t, T', L, h0, X', hL, e1, e2, ⟨⟨r, u, hv, hp, hb⟩, hF⟩, st⟩ | ⟨q, st₀, t, T', L, E, ce, h0, X', hL, e1, e2, ⟨u, hp, hb, hF⟩, hce, hcv, hcl, st⟩
  · cases hv
    obtain ⟨k1, k2, k3⟩ := vx_keep h0 e1 hS hA hf hL hF
    obtain ⟨t2, a1, b1⟩ := kk r u t T'.heap (locs ++ L) e1.symm (by rw [← e2]; exact X'.warmed.alike) hp hb k1 k2 k3 T' rfl X'
    exact ⟨t2, st t2 a1, b1⟩
  · obtain ⟨k1, k2, k3⟩ := vx_keep h0 e1 hS hAX hf hL hF
    obtain ⟨t2, a1, b1⟩ := kx E ce q u t T'.heap (locs ++ L) e1.symm (by rw [← e2]; exact X'.warmed.alike) hp hb k1 k2 k3 (by rw [e1]; exact hce) hcv hcl T' rfl X'
    exact ⟨t2, st.trans a1, b1⟩
theorem vx_callv {S SX : Type} {post : S → Prop} {px : SX → Prop} {B : S → State → Prop} {BX : String → SX → State → Prop} {AX : Nat → Prop} (hr : vx_Run p l e R s m args below meth c H locs cells slots mc ms (F0 m pc ls st0) rest (va_Qv post B A1 a) (vx_X px BX AX) free) (hS : va_S A0 H0 H locs) (hA : ∀ q, q < H.size → A1 q → A0 q) (hf : ∀ q, free q → A0 q) (hAX : ∀ q, q < H.size → AX q → A0 q)
    (kx : ∀ (E : String) (ce : Cell) (q9 : Addr) (u : SX) (t : State) (H1 : Heap) (locs1 : List Loc), t.heap = H1 → s.vm.Alike t.vm → px u → BX E u t → H.size ≤ H1.size → (∀ q : Nat, q < H.size → ¬ AX q → H1[q]? = H[q]?) → va_S A0 H0 H1 locs1 → H1[q9]? = some ce → ce.vm = .none → s.vm.findClass E = some ce.cls → vx_W p l e R s m args below meth c H1 locs1 (cells + mc) (slots + ms) Q (F0 m pc ls rest) q9)
    (kk : ∀ (u : S) (t : State) (H1 : Heap) (locs1 : List Loc), t.heap = H1 → s.vm.Alike t.vm → post u → B u t → H.size ≤ H1.size → (∀ q : Nat, q < H.size → ¬ A1 q → H1[q]? = H[q]?) → va_S A0 H0 H1 locs1 → W p l e R s m args below meth c H1 locs1 (cells + mc) (slots + ms) Q (F0 m (pc + 3) ls (rest))) : W p l e R s m args below meth c H locs cells slots Q (F0 m pc ls st0) := by
  intro T hT X
  rcases hr T hT X with ⟨v, st₀, t, T', L, h0, X', hL, e1, e2, ⟨⟨u, hv, hp, hb⟩, hF⟩, st⟩ | ⟨q, st₀, t, T', L, E, ce, h0, X', hL, e1, e2, ⟨u, hp, hb, hF⟩, hce, hcv, hcl, st⟩
  · cases hv
    obtain ⟨k1, k2, k3⟩ := vx_keep h0 e1 hS hA hf hL hF
    obtain ⟨t2, a1, b1⟩ := kk u t T'.heap (locs ++ L) e1.symm (by rw [← e2]; exact X'.warmed.alike) hp hb k1 k2 k3 T' rfl X'
    exact ⟨t2, st t2 a1, b1⟩
  · obtain ⟨k1, k2, k3⟩ := vx_keep h0 e1 hS hAX hf hL hF
    obtain ⟨t2, a1, b1⟩ := kx E ce q u t T'.heap (locs ++ L) e1.symm (by rw [← e2]; exact X'.warmed.alike) hp hb k1 k2 k3 (by rw [e1]; exact hce) hcv hcl T' rfl X'
    exact ⟨t2, st.trans a1, b1⟩
/-- caught by the row x of this method's table; the rows ahead don't take it -/
theorem vx_catch {own name : String} {E : String} {ce : Cell} {q : Addr} (hown : s.vm.findClass own = some m.cls) (pre : List ExceptionTableEntry) (x : ExceptionTableEntry) (suf : List ExceptionTableEntry) (hsplit : c.exceptionTable.toList = pre ++ x :: suf)
    (hpass : ∀ z ∈ pre, covers z pc = false ∨ (z.catchType ≠ 0 ∧ ∃ nm : String, (Cond.classLink own z.catchType nm).before args s = true ∧ va_Nc E nm s)) (hx : covers x pc = true) (h0 : x.catchType ≠ 0)
    (hlink : (Cond.classLink own x.catchType name).before args s = true) (hcast : (Cond.castable E name).before args s = true) (hcell : H[q]? = some ce) (hv : ce.vm = .none) (hcl : s.vm.findClass E = some ce.cls)
    (kk : W p l e R s m args below meth c H locs cells slots Q (F0 m x.handlerPc ls [.ref q])) : vx_W p l e R s m args below meth c H locs cells slots Q (F0 m pc ls rest) q := by
  intro T hT X
  have hpl : e.platform.magicAccessors = ({} : Platform).magicAccessors := by rw [X.admits.platform]
  obtain ⟨c3, c4, hc3, hc4, hasg⟩ := Cond.castable_spec hcast
  cases Option.some.inj (hc3.symm.trans hcl)
  obtain ⟨c5, hc5, hcl5⟩ := Cond.classLink_spec hown hlink e.platform hpl
  cases Option.some.inj (hc4.symm.trans hc5)
  obtain ⟨vm', X', st⟩ := X.thenCaughtThrough q (g := F0 m pc ls rest) rfl (Steps.refl _) (by rw [hT]; exact hcell) (by rw [hv]; rfl) (by obtain ⟨k9, h9, -⟩ := Vm.findClass_spec hcl; exact ⟨k9, h9⟩) pre x suf hsplit
    (fun z hz => by
      rcases hpass z hz with h | ⟨hz0, nm, hl1, hn1⟩
      · exact Or.inl h
      · obtain ⟨c6, hc6, hcl6⟩ := Cond.classLink_spec hown hl1 e.platform hpl
        obtain ⟨a8, b8, h1, h2, h3⟩ := hn1
        cases Option.some.inj (h1.symm.trans hcl)
        cases Option.some.inj (h2.symm.trans hc6)
        exact Or.inr ⟨hz0, _, hcl6, h3⟩) hx (Or.inr ⟨h0, c4, hcl5, hasg⟩)
  obtain ⟨t, a1, b1⟩ := kk (T.setVm vm') hT X'
  exact ⟨t, st.trans a1, b1⟩
end Rows
section Ends
variable {p : Program} {l : Launch} {e : Env} {R : Room} {s : State} {m : MethodId} {args : Array Value} {below : List Frame} {meth : Method} {c : Code} {H : Heap} {locs : List Loc} {cells slots : Nat} {Q : State → Prop}
variable {mc ms : Nat} {free : Addr → Prop} {A0 A1 : Nat → Prop} {H0 : Heap} {a : Array Value} {ls : Array Slot} {st0 rest : List Value}
variable {Qc : Array Value → State → Outcome → State → Prop} {XC : String → State → State → Prop}
/-- what a body that may throw owes at its end -/
def vx_MQ (below : List Frame) (Qc : Array Value → State → Outcome → State → Prop) (XC : String → State → State → Prop) (a : Array Value) (s : State) (mc ms : Nat) (free : Addr → Prop) : State → Prop := fun t =>
  ∃ o, t.status = .running ∧ Ended t below o ∧ vx_Q Qc XC mc ms free a s o t
theorem vx_ret {g : JFrame} {mc ms : Nat} (k : W p l e R s m args below meth c H locs cells slots (MQ below Qc args s mc ms free) g) : W p l e R s m args below meth c H locs cells slots (vx_MQ below Qc XC args s mc ms free) g := by
  intro T hT X
  obtain ⟨t, a1, o, b1, b2, b3, b4⟩ := k T hT X
  exact ⟨t, a1, o, b1, b2, Or.inl ⟨b3, b4⟩⟩
/-- not caught here: it goes on to the caller -/
theorem vx_widen {g : JFrame} {q : Addr} {k n : Nat} (h1 : cells ≤ k) (h2 : slots ≤ n) (kk : vx_W p l e R s m args below meth c H locs k n Q g q) : vx_W p l e R s m args below meth c H locs cells slots Q g q := fun T hT X => kk T hT (stand_widen X h1 h2)
theorem vx_out {pc : Nat} {E : String} {ce : Cell} {q : Addr} {mc ms : Nat} (hout : ∀ x ∈ c.exceptionTable.toList, covers x pc = false) (hlocks : meth.locks = false) (hcell : H[q]? = some ce) (hv : ce.vm = .none) (hcl : s.vm.findClass E = some ce.cls)
    (hx : ∀ t : State, t.heap = H → s.vm.Alike t.vm → XC E s t) (hf : ∀ z ∈ locs, free z.base) (hc : cells ≤ mc) (hs : slots ≤ ms) :
    vx_W p l e R s m args below meth c H locs cells slots (vx_MQ below Qc XC args s mc ms free) (F0 m pc ls rest) q := by
  intro T hT X
  obtain ⟨st1, hrun, hend, hW, hsm⟩ := X.leaveThrown q (g := F0 m pc ls rest) rfl rfl rfl hout hlocks
  have hcell9 : (T.setFrames (.throwing q :: below)).heap[q]? = some ce := by
    show T.heap[q]? = some ce
    rw [hT]; exact hcell
  exact ⟨_, st1, .threw q, hrun, hend, Or.inr ⟨q, rfl, E, ce, locs, hx _ hT hW.alike, hcell9, hv, hcl, hW, hsm.mono hc hs, hf⟩⟩
theorem vx_frame {U : State} {k n : Nat} (h : s.sameButNew ({ U with vm := s.vm } : State) locs k n) : s.heap.size ≤ U.heap.size ∧ ∀ q : Nat, q < s.heap.size → (∀ z ∈ locs, z.base ≠ q) → U.heap[q]? = s.heap[q]? := by
  obtain ⟨-, h2, -, -, -, h6⟩ := h
  refine ⟨h2, fun q hq hz => ?_⟩
  obtain ⟨c9, e1, e2, e3, e4⟩ := h6 q _ (Array.getElem?_eq_getElem hq)
  have hs : c9.slots = (s.heap[q]).slots := Array.ext_getElem? fun i => e4 i fun hm => hz _ hm rfl
  have h9 : c9 = s.heap[q] := by
    rw [hs] at e2
    exact e2
  have e5 : U.heap[q]? = some c9 := e1
  rw [e5, h9, Array.getElem?_eq_getElem hq]
/-- the words of a throw but the four that speak of the heap -/
def vx_no (w : Cond) : Bool := decide (w ≠ .isRef (.static Bundle.tN "UNASSIGNED_STACK" Bundle.steD)) && decide (w ≠ .isRef (.static Bundle.tN "SUPPRESSED_SENTINEL" Bundle.listD)) && decide (w ≠ .laysStatic Bundle.tN "UNASSIGNED_STACK" Bundle.steD) && decide (w ≠ .laysStatic Bundle.tN "SUPPRESSED_SENTINEL" Bundle.listD)
def vx_at0 (own : String) (ic : Nat) (X : String) (names : List String) : List Cond := (Bundle.ownAtoms0 own ic X names).filter vx_no
def vx_atS (own : String) (ic : Nat) (X : String) (names : List String) : List Cond := (Bundle.ownAtoms own ic X names).filter vx_no
/-- a word that the tables alone decide, or a good one -/
def vx_ot (w : Cond) : Bool := w.onTables || goodWord w
theorem vx_ot_at {args a' : Array Value} {s U : State} {w : Cond} (hW : s.WarmedH U.vm) (hvm : s.vm = U.vm) (hg : vx_ot w = true) (h : w.before args s = true) : w.before a' U = true := by
  simp only [vx_ot, Bool.or_eq_true] at hg
  rcases hg with hg | hg
  · exact va_tabs hg hvm h
  · exact word_at hW (good_of_word hg) h
/-- a list's words: the good ones out of the method's own list, the others by premises of their own -/
theorem vx_hat {args : Array Value} {s : State} {L B : List Cond} (h1 : ∀ w ∈ L.filter goodWord, w.before args s = true) (h2 : ∀ w ∈ L.filter (fun w => !goodWord w), w ∈ B) (h3 : ∀ w ∈ B, w.before args s = true) : ∀ w ∈ L, w.before args s = true := by
  intro w hw
  by_cases g : goodWord w = true
  · exact h1 w (List.mem_filter.mpr ⟨hw, g⟩)
  · refine h3 w (h2 w (List.mem_filter.mpr ⟨hw, ?_⟩))
    show (!goodWord w) = true
    cases hgw : goodWord w
    · rfl
    · exact absurd hgw g
theorem vx_c {args : Array Value} {s : State} {w : Cond} {B : List Cond} (h : w.before args s = true) (t : ∀ w ∈ B, w.before args s = true) : ∀ w' ∈ w :: B, w'.before args s = true := fun w' h' => (List.mem_cons.mp h').elim (fun e => by rw [e]; exact h) (t w')
theorem vx_n {args : Array Value} {s : State} : ∀ w ∈ ([] : List Cond), w.before args s = true := fun _ h => nomatch h
theorem vx_own {args : Array Value} {s : State} {L : List Cond} (h1 : ∀ w ∈ L.filter vx_no, w.before args s = true)
    (hU : (Cond.isRef (.static Bundle.tN "UNASSIGNED_STACK" Bundle.steD)).before args s = true) (hN : (Cond.isRef (.static Bundle.tN "SUPPRESSED_SENTINEL" Bundle.listD)).before args s = true)
    (lU : (Cond.laysStatic Bundle.tN "UNASSIGNED_STACK" Bundle.steD).before args s = true) (lN : (Cond.laysStatic Bundle.tN "SUPPRESSED_SENTINEL" Bundle.listD).before args s = true) : ∀ w ∈ L, w.before args s = true := by
  intro w hw
  by_cases e1 : w = .isRef (.static Bundle.tN "UNASSIGNED_STACK" Bundle.steD)
  · rw [e1]; exact hU
  · by_cases e2 : w = .isRef (.static Bundle.tN "SUPPRESSED_SENTINEL" Bundle.listD)
    · rw [e2]; exact hN
    · by_cases e3 : w = .laysStatic Bundle.tN "UNASSIGNED_STACK" Bundle.steD
      · rw [e3]; exact lU
      · by_cases e4 : w = .laysStatic Bundle.tN "SUPPRESSED_SENTINEL" Bundle.listD
        · rw [e4]; exact lN
        · exact h1 w (List.mem_filter.mpr ⟨hw, by unfold vx_no; rw [decide_eq_true e1, decide_eq_true e2, decide_eq_true e3, decide_eq_true e4]; rfl⟩)
/-- where a static field lies, its class's statics cell in H -/
def vx_L (C n d : String) (A : Nat → Prop) (U : State) (H : Heap) : Prop := ∃ (c : ClassId) (k : Class) (i : Nat) (f : Field) (a : Nat) (cell : Cell), U.vm.findClass C = some c ∧ U.fieldFound? C n d = some (c, k, i, f) ∧ f.isStatic = true ∧ k.statics = some a ∧ H[a]? = some cell ∧ cell.vm.isStatics = true ∧ cell.cls = c ∧ f.slot < cell.slots.size ∧ k.staticTypes[f.slot]? = some f.type ∧ ¬ A a
theorem vx_L.moved {C n d : String} {A : Nat → Prop} {u U : State} {H : Heap} (hvm : u.vm.Alike U.vm) (h : vx_L C n d A u H) : vx_L C n d A U H := by
  obtain ⟨c, k, i, f, a, cell, h1, h2, h3, h4, h5, h6, h7, h8, h9, h10⟩ := h
  obtain ⟨k', hi', he⟩ := State.fieldFound?_setVm hvm h2
  exact ⟨c, k', i, f, a, cell, by rw [hvm.findClass]; exact h1, hi', h3, by rw [he]; exact h4, h5, h6, h7, h8, by rw [he]; exact h9, h10⟩
theorem vx_L.kept {C n d : String} {A : Nat → Prop} {U : State} {H H1 : Heap} (h : vx_L C n d A U H) (hq : ∀ a : Nat, a < H.size → ¬ A a → H1[a]? = H[a]?) : vx_L C n d A U H1 := by
  obtain ⟨c, k, i, f, a, cell, h1, h2, h3, h4, h5, h6, h7, h8, h9, h10⟩ := h
  exact ⟨c, k, i, f, a, cell, h1, h2, h3, h4, by rw [hq a (Array.getElem?_eq_some_iff.mp h5).1 h10]; exact h5, h6, h7, h8, h9, h10⟩
theorem vx_L.narrow {C n d : String} {A B : Nat → Prop} {U : State} {H : Heap} (h : vx_L C n d A U H) (hAB : ∀ q, B q → A q) : vx_L C n d B U H := by
  obtain ⟨c, k, i, f, a, cell, h1, h2, h3, h4, h5, h6, h7, h8, h9, h10⟩ := h
  exact ⟨c, k, i, f, a, cell, h1, h2, h3, h4, h5, h6, h7, h8, h9, fun z => h10 (hAB _ z)⟩
theorem vx_L.word {C n d : String} {A : Nat → Prop} {s : State} {args : Array Value} (h : vx_L C n d A s s.heap) : (Cond.laysStatic C n d).before args s = true := by
  obtain ⟨c, k, i, f, a, cell, h1, h2, h3, h4, h5, h6, h7, h8, h9, -⟩ := h
  show (Cond.laysStatic C n d).holds args s none s [] = true
  exact Cond.laysStatic_of h1 h2 h3 h4 h5 h6 h7 h8 h9
/-- .. and what it holds: null or some reference -/
def vx_Zq (C n d : String) (A : Nat → Prop) (U : State) (H : Heap) : Prop := va_Zq C n d A U H ∧ vx_L C n d A U H
theorem vx_Zq.moved {C n d : String} {A : Nat → Prop} {u U : State} {H : Heap} (hvm : u.vm.Alike U.vm) (h : vx_Zq C n d A u H) : vx_Zq C n d A U H := ⟨va_Zq.moved hvm h.1, vx_L.moved hvm h.2⟩
theorem vx_Zq.kept {C n d : String} {A : Nat → Prop} {U : State} {H H1 : Heap} (h : vx_Zq C n d A U H) (hq : ∀ a : Nat, a < H.size → ¬ A a → H1[a]? = H[a]?) : vx_Zq C n d A U H1 := ⟨va_Zq.kept h.1 hq, vx_L.kept h.2 hq⟩
theorem vx_Zq.narrow {C n d : String} {A B : Nat → Prop} {U : State} {H : Heap} (h : vx_Zq C n d A U H) (hAB : ∀ q, B q → A q) : vx_Zq C n d B U H := ⟨va_Zq.narrow h.1 hAB, vx_L.narrow h.2 hAB⟩
theorem vx_Zqof {args : Array Value} {s : State} {C n d : String} {A : Nat → Prop} (hl : (Cond.laysStatic C n d).before args s = true) (hini : (Cond.initialized C).before args s = true) (h : (Cond.isRef (.static C n d)).before args s = true) (hA : ∀ a : Nat, a < s.heap.size → ¬ A a) : vx_Zq C n d A s s.heap := by
  refine ⟨va_Zqof hl hini h hA, ?_⟩
  obtain ⟨c, k, i, f, a, cell, h1, h2, h3, h4, h5, h6, h7, h8, h9⟩ := Cond.laysStatic_spec hl
  exact ⟨c, k, i, f, a, cell, h1, h2, h3, h4, h5, h6, h7, h8, h9, hA a (Array.getElem?_eq_some_iff.mp h5).1⟩
theorem vx_isRef {C n d : String} {v : Value} {A : Nat → Prop} {s : State} {args : Array Value} (h : va_Z C n d v A s s.heap) (hv : v.isRef = true) : (Cond.isRef (.static C n d)).before args s = true := by
  obtain ⟨cf, kf, fi, f, a, cell, h1, h2, h3, h4, h5, h6, h7, -⟩ := h
  have he : (Term.static C n d).eval args s none [] s = some v := by
    simp [Term.eval, State.fieldNamed?, h1, h2, h4, h5, h6, h7]
  simp only [Cond.before, Cond.holds, Cond.value, he]
  cases v <;> simp_all [Value.isRef]
theorem vx_isRefq {C n d : String} {A : Nat → Prop} {s : State} {args : Array Value} (h : va_Zq C n d A s s.heap) : (Cond.isRef (.static C n d)).before args s = true := by
  rcases h with h | ⟨t, h⟩
  · exact vx_isRef h rfl
  · exact vx_isRef h rfl
/-- the same frame, seen from here: as if the method were called anew in this heap -/
theorem vx_rebase {T : State} (X : Stand p l e R s m args below meth c T locs cells slots) {R' : Room} (hf : R'.frames ≤ R.frames) (hl : R'.locals ≤ R.locals) (hc : cells + R'.cells ≤ R.cells) (hs : slots + R'.slots ≤ R.slots) :
    Stand p l e R' ((T.setVm s.vm).setFrames (.invoking m args :: below)) m args below meth c T [] 0 0 := by
  have htop : (T.setVm s.vm).topJava?.isSome := X.here.top
  have hF : ((T.setVm s.vm).setFrames (.invoking m args :: below)).frames = .invoking m args :: below := State.frames_setFrames _ (State.cur_lt_of_top htop)
  obtain ⟨g₀, hg0⟩ := Option.isSome_iff_exists.mp htop
  obtain ⟨r, hr⟩ := State.topJava?_eq_some.mp hg0
  have hl9 : e.platform.stackLimits (T.setVm s.vm).me = e.platform.stackLimits s.me := X.limits
  have hb9 : (T.setVm s.vm).me.stackBytes = s.me.stackBytes := X.bytes
  refine ⟨X.admits, X.cas, X.clock, hF, ?_, X.hears, X.method, X.code, X.here, X.tail, X.warmed, ?_, ?_, ?_⟩
  · have h := X.room
    have hU : ((T.setVm s.vm).setFrames (.invoking m args :: below)).localsInUse = s.localsInUse := by
      rw [State.localsInUse_invoking hF (meth := meth) (c := c) X.method X.code, State.localsInUse_invoking X.frames X.method X.code]
    simp only [State.hasRoom, Bool.and_eq_true, decide_eq_true_eq] at h ⊢
    obtain ⟨⟨⟨⟨h1, h2, h3, h4, h5, h6⟩, h7⟩, h8⟩, h9⟩ := h
    rw [X.frames, List.length_cons] at h2 h3
    have q1 := X.heapSize
    have q2 := X.used
    simp only [hF, hU, List.length_cons, State.stackLimits_setFrames, State.stackBytes_setFrames, hl9, hb9]
    refine ⟨⟨⟨⟨by omega, by omega, by omega, by omega, by omega, h6⟩, ?_⟩, ?_⟩, X.book⟩
    · show T.heap.size + R'.cells ≤ e.platform.maxCells
      omega
    · show T.slotsUsed + R'.slots ≤ e.platform.maxSlots
      omega
  · rw [State.stackLimits_setFrames]; rfl
  · rw [State.stackBytes_setFrames]; rfl
  · refine ⟨?_, Nat.le_refl _, Nat.le_refl _, ?_, ?_, fun a c9 h9 => ⟨c9, h9, rfl, rfl, fun _ _ => rfl⟩⟩
    · obtain ⟨t, ht, -⟩ := State.frames_cons hr
      show T.setVm s.vm = { ((T.setVm s.vm).setFrames (.invoking m args :: below)).setFrames (T.setVm s.vm).frames with heap := T.heap, slotsUsed := T.slotsUsed }
      rw [State.setFrames_setFrames, State.setFrames_self ht]
      rfl
    · show T.slotsUsed = T.slotsUsed + ((T.heap.toList.drop T.heap.size).map (·.slots.size)).sum
      rw [List.drop_eq_nil_of_le (Nat.le_of_eq Array.length_toList)]
      rfl
    · show ((T.heap.toList.drop T.heap.size).map (·.slots.size)).sum ≤ 0
      rw [List.drop_eq_nil_of_le (Nat.le_of_eq Array.length_toList)]
      exact Nat.le_refl _
/-- 'throw new E()': new; dup; invokespecial; athrow -/
theorem vx_throw0 {cc : ByteArray} {pc : Nat} (hexec : p.tables.exec = Jvm.exec) (hb : c.code = cc) (hl : l.stackTraces = false) {own cls : String} {names : List String} {ik ic mc ms : Nat} {A : Nat → Prop}
    (hown : s.vm.findClass own = some m.cls) (hcls : Bundle.fit cls = true) (hnames : ∀ n ∈ names, Bundle.fit n = true)
    (hk : (Cond.classLink own ik cls).before args s = true) (hini : (Cond.initialized cls).before args s = true) (hat : ∀ w ∈ vx_at0 own ic cls names, w.before args s = true)
    (hgood : ∀ w ∈ Cond.classLink own ik cls :: Cond.initialized cls :: vx_at0 own ic cls names, vx_ot w = true)
    (hU : vx_Zq Bundle.tN "UNASSIGNED_STACK" Bundle.steD A s s.heap) (hN : vx_Zq Bundle.tN "SUPPRESSED_SENTINEL" Bundle.listD A s s.heap) (hS : va_S A s.heap H locs) (hsize : ls.size = c.maxLocals)
    (d0 : decode cc pc = .ok (.new ik, 3)) (d3 : decode cc (pc + 3) = .ok (.dup, 1)) (d4 : decode cc (pc + 4) = .ok (.invokespecial ic, 3)) (d7 : decode cc (pc + 7) = .ok (.athrow, 1))
    (hout : ∀ x ∈ c.exceptionTable.toList, covers x (pc + 7) = false)
    (hRframes : names.length + 3 < R.frames) (hRlocals : (rest.map fun v => v.category).sum + (13 * (names.length + 1) + 42) ≤ R.locals) (hRcells : cells + 1 ≤ R.cells) (hRslots : slots + 6 ≤ R.slots) (hlocks : meth.locks = false)
    (hx : ∀ t : State, s.vm.Alike t.vm → H.size ≤ t.heap.size → (∀ q : Nat, q < H.size → t.heap[q]? = H[q]?) → XC cls s t)
    (hf : ∀ z ∈ locs, free z.base) (hc : cells + 1 ≤ mc) (hs : slots + 6 ≤ ms) :
    W p l e R s m args below meth c H locs cells slots (vx_MQ below Qc XC args s mc ms free) (F0 m pc ls rest) := by
  intro T hT X
  have htr : e.platform.stackTraces = false := (show e.platform.stackTraces = l.stackTraces by rw [X.admits.platform]).trans hl
  have Y := vx_rebase X (R' := { frames := R.frames, locals := R.locals, cells := 1, slots := 6 }) (Nat.le_refl _) (Nat.le_refl _) hRcells hRslots
  obtain ⟨s', hA⟩ : ∃ z, z = (T.setVm s.vm).setFrames (.invoking m args :: below) := ⟨_, rfl⟩
  rw [← hA] at Y
  have hvm : s'.vm = s.vm := by rw [hA]; rfl
  have hhp : s'.heap = H := by rw [hA]; exact hT
  have hW0 : s.WarmedH s'.vm := by rw [hvm]; exact State.WarmedH.refl s
  have hat' : ∀ w ∈ vx_at0 own ic cls names, w.before args s' = true := fun w hw => vx_ot_at hW0 hvm.symm (hgood w (List.mem_cons_of_mem _ (List.mem_cons_of_mem _ hw))) (hat w hw)
  have hk' : (Cond.classLink own ik cls).before args s' = true := vx_ot_at hW0 hvm.symm (hgood _ List.mem_cons_self) hk
  have hini' : (Cond.initialized cls).before args s' = true := vx_ot_at hW0 hvm.symm (hgood _ (List.mem_cons_of_mem _ List.mem_cons_self)) hini
  have hU' : vx_Zq Bundle.tN "UNASSIGNED_STACK" Bundle.steD A s' s'.heap := by rw [hhp]; exact vx_Zq.moved hW0.alike (hU.kept hS.2.1)
  have hN' : vx_Zq Bundle.tN "SUPPRESSED_SENTINEL" Bundle.listD A s' s'.heap := by rw [hhp]; exact vx_Zq.moved hW0.alike (hN.kept hS.2.1)
  have h : ∀ w ∈ Bundle.ownAtoms0 own ic cls names, w.before args s' = true := vx_own hat' (vx_isRefq hU'.1) (vx_isRefq hN'.1) hU'.2.word hN'.2.word
  have hown' : s'.vm.findClass own = some m.cls := by rw [hvm]; exact hown
  have hins : (Cond.instantiable cls 6).before args s' = true := h _ (by simp [Bundle.ownAtoms0])
  obtain ⟨vm₁, cX, kX, hfX, hkX, -, -, X₁, st1⟩ := Y.newCold hexec (own := own) (C := cls) (index := ik) (n := 6) hown' hk' hins hini'
    (g := F0 m pc ls rest) rfl (by rw [hb]; exact d0) (Nat.le_refl _) (Nat.le_refl _)
  generalize hT1 : (T.setVm vm₁).pushCell { cls := cX, slots := kX.instanceTypes.map defaultValue, vm := .none } = T1 at X₁ st1
  have hcat : (Value.ref T.heap.size).category = 1 := rfl
  have hcellA : T1.heap[T.heap.size]? = some (freshCell cX kX) := by rw [← hT1]; exact State.heap_pushCell_size _ _
  have d3' : decode c.code (pc + 3) = .ok (.dup, 1) := by rw [hb]; exact d3
  obtain ⟨U, hsteps, hrun, hend, hW, hsame, ce, hce, hO⟩ := X₁.ctorThrow0 hexec htr (own := own) (cls := cls) (names := names) (ic := ic) hown' hcls hnames h (fun x hx => nomatch hx) hfX hkX hcellA (by rw [hhp, hT]; exact Nat.le_refl _)
    (g := { method := m, pc := pc + 4, locals := ls, stack := .ref T.heap.size :: .ref T.heap.size :: rest, locked := none }) rfl hsize rfl rfl (rest := rest) rfl
    (by rw [hb]; exact d4) (by rw [hb]; exact d7) hout hRframes (by simp only [List.map_cons, List.sum_cons, hcat]; omega) hlocks
  obtain ⟨f1, f2⟩ := vx_frame hsame
  rw [hhp] at f1 f2
  have hWs : s.WarmedH U.vm := State.WarmedH.trans hW0 hW
  have hcl : s.vm.findClass cls = some ce.cls := by
    have h9 := hO.cls
    rw [hvm] at h9
    exact h9
  have hall : s.sameButNew ({ U with vm := s.vm } : State) locs mc ms := by
    subst hA
    obtain ⟨e1, e2⟩ := hsame
    rw [State.setFrames_setFrames] at e1
    have h2 : (T.setVm s.vm).sameButNew ({ U with vm := s.vm } : State) [] (0 + 1) (0 + 6) := ⟨e1, e2⟩
    have h3 := X.same.trans h2
    rw [List.append_nil] at h3
    exact h3.mono hc hs
  refine ⟨U, ?_, .threw T.heap.size, hrun, hend, Or.inr ⟨T.heap.size, rfl, cls, ce, locs, hx U hWs.alike f1 (fun q hq => f2 q hq (fun z hz => nomatch hz)), hce, hO.vm, hcl, hWs, hall, hf⟩⟩
  refine st1 _ ?_
  show Steps p.tables e below (T1.setTop { method := m, pc := pc + 3, locals := ls, stack := .ref T.heap.size :: rest, locked := none }) _
  jvm_step X₁.here [X₁.here.top, hexec, d3', Value.category]
  exact hsteps
/-- 'throw new E("text")': new; dup; ldc; invokespecial; athrow -/
theorem vx_throwS {cc : ByteArray} {pc : Nat} (hexec : p.tables.exec = Jvm.exec) (hb : c.code = cc) (hl : l.stackTraces = false) {own cls text : String} {names : List String} {ik is ic mc ms sa : Nat} {A : Nat → Prop}
    (hown : s.vm.findClass own = some m.cls) (hcls : Bundle.fit cls = true) (hnames : ∀ n ∈ names, Bundle.fit n = true)
    (hk : (Cond.classLink own ik cls).before args s = true) (hini : (Cond.initialized cls).before args s = true) (hstr : vk_R own is text sa s) (hat : ∀ w ∈ vx_atS own ic cls names, w.before args s = true)
    (hgood : ∀ w ∈ Cond.classLink own ik cls :: Cond.initialized cls :: vx_atS own ic cls names, vx_ot w = true)
    (hU : vx_Zq Bundle.tN "UNASSIGNED_STACK" Bundle.steD A s s.heap) (hN : vx_Zq Bundle.tN "SUPPRESSED_SENTINEL" Bundle.listD A s s.heap) (hS : va_S A s.heap H locs) (hsize : ls.size = c.maxLocals)
    (d0 : decode cc pc = .ok (.new ik, 3)) (d3 : decode cc (pc + 3) = .ok (.dup, 1)) (d4 : decode cc (pc + 4) = .ok (.ldc is, 2)) (d6 : decode cc (pc + 6) = .ok (.invokespecial ic, 3)) (d9 : decode cc (pc + 9) = .ok (.athrow, 1))
    (hout : ∀ x ∈ c.exceptionTable.toList, covers x (pc + 9) = false)
    (hRframes : names.length + 3 < R.frames) (hRlocals : (rest.map fun v => v.category).sum + (13 * (names.length + 1) + 43) ≤ R.locals) (hRcells : cells + 1 ≤ R.cells) (hRslots : slots + 6 ≤ R.slots) (hlocks : meth.locks = false)
    (hx : ∀ t : State, s.vm.Alike t.vm → H.size ≤ t.heap.size → (∀ q : Nat, q < H.size → t.heap[q]? = H[q]?) → XC cls s t)
    (hf : ∀ z ∈ locs, free z.base) (hc : cells + 1 ≤ mc) (hs : slots + 6 ≤ ms) :
    W p l e R s m args below meth c H locs cells slots (vx_MQ below Qc XC args s mc ms free) (F0 m pc ls rest) := by
  intro T hT X
  have htr : e.platform.stackTraces = false := (show e.platform.stackTraces = l.stackTraces by rw [X.admits.platform]).trans hl
  have Y := vx_rebase X (R' := { frames := R.frames, locals := R.locals, cells := 1, slots := 6 }) (Nat.le_refl _) (Nat.le_refl _) hRcells hRslots
  obtain ⟨s', hA⟩ : ∃ z, z = (T.setVm s.vm).setFrames (.invoking m args :: below) := ⟨_, rfl⟩
  rw [← hA] at Y
  have hvm : s'.vm = s.vm := by rw [hA]; rfl
  have hhp : s'.heap = H := by rw [hA]; exact hT
  have hW0 : s.WarmedH s'.vm := by rw [hvm]; exact State.WarmedH.refl s
  have hat' : ∀ w ∈ vx_atS own ic cls names, w.before args s' = true := fun w hw => vx_ot_at hW0 hvm.symm (hgood w (List.mem_cons_of_mem _ (List.mem_cons_of_mem _ hw))) (hat w hw)
  have hk' : (Cond.classLink own ik cls).before args s' = true := vx_ot_at hW0 hvm.symm (hgood _ List.mem_cons_self) hk
  have hini' : (Cond.initialized cls).before args s' = true := vx_ot_at hW0 hvm.symm (hgood _ (List.mem_cons_of_mem _ List.mem_cons_self)) hini
  have hU' : vx_Zq Bundle.tN "UNASSIGNED_STACK" Bundle.steD A s' s'.heap := by rw [hhp]; exact vx_Zq.moved hW0.alike (hU.kept hS.2.1)
  have hN' : vx_Zq Bundle.tN "SUPPRESSED_SENTINEL" Bundle.listD A s' s'.heap := by rw [hhp]; exact vx_Zq.moved hW0.alike (hN.kept hS.2.1)
  have h : ∀ w ∈ Bundle.ownAtoms own ic cls names, w.before args s' = true := vx_own hat' (vx_isRefq hU'.1) (vx_isRefq hN'.1) hU'.2.word hN'.2.word
  have hown' : s'.vm.findClass own = some m.cls := by rw [hvm]; exact hown
  have hins : (Cond.instantiable cls 6).before args s' = true := h _ (by simp [Bundle.ownAtoms])
  obtain ⟨vm₁, cX, kX, hfX, hkX, -, -, X₁, st1⟩ := Y.newCold hexec (own := own) (C := cls) (index := ik) (n := 6) hown' hk' hins hini'
    (g := F0 m pc ls rest) rfl (by rw [hb]; exact d0) (Nat.le_refl _) (Nat.le_refl _)
  generalize hT1 : (T.setVm vm₁).pushCell { cls := cX, slots := kX.instanceTypes.map defaultValue, vm := .none } = T1 at X₁ st1
  have hcat : (Value.ref T.heap.size).category = 1 := rfl
  have hcellA : T1.heap[T.heap.size]? = some (freshCell cX kX) := by rw [← hT1]; exact State.heap_pushCell_size _ _
  have d3' : decode c.code (pc + 3) = .ok (.dup, 1) := by rw [hb]; exact d3
  have d4' : decode c.code (pc + 4) = .ok (.ldc is, 2) := by rw [hb]; exact d4
  have hstr' : vk_R own is text sa s' := vk_R.warm hW0 hstr
  obtain ⟨U, hsteps, hrun, hend, hW, hsame, ce, hce, hO⟩ := X₁.ctorThrowS hexec htr (own := own) (cls := cls) (names := names) (ic := ic) hown' hcls hnames h (fun x hx => nomatch hx) hfX hkX hcellA (by rw [hhp, hT]; exact Nat.le_refl _) (msg := .ref sa) rfl
    (g := { method := m, pc := pc + 6, locals := ls, stack := .ref sa :: .ref T.heap.size :: .ref T.heap.size :: rest, locked := none }) rfl hsize rfl rfl (rest := rest) rfl
    (by rw [hb]; exact d6) (by rw [hb]; exact d9) hout hRframes (by simp only [List.map_cons, List.sum_cons, hcat]; omega) hlocks
  obtain ⟨f1, f2⟩ := vx_frame hsame
  rw [hhp] at f1 f2
  have hWs : s.WarmedH U.vm := State.WarmedH.trans hW0 hW
  have hcl : s.vm.findClass cls = some ce.cls := by
    have h9 := hO.cls
    rw [hvm] at h9
    exact h9
  have hall : s.sameButNew ({ U with vm := s.vm } : State) locs mc ms := by
    subst hA
    obtain ⟨e1, e2⟩ := hsame
    rw [State.setFrames_setFrames] at e1
    have h2 : (T.setVm s.vm).sameButNew ({ U with vm := s.vm } : State) [] (0 + 1) (0 + 6) := ⟨e1, e2⟩
    have h3 := X.same.trans h2
    rw [List.append_nil] at h3
    exact h3.mono hc hs
  refine ⟨U, ?_, .threw T.heap.size, hrun, hend, Or.inr ⟨T.heap.size, rfl, cls, ce, locs, hx U hWs.alike f1 (fun q hq => f2 q hq (fun z hz => nomatch hz)), hce, hO.vm, hcl, hWs, hall, hf⟩⟩
  refine st1 _ ?_
  show Steps p.tables e below (T1.setTop { method := m, pc := pc + 3, locals := ls, stack := .ref T.heap.size :: rest, locked := none }) _
  jvm_step X₁.here [X₁.here.top, hexec, d3', Value.category]
  exact X₁.ldcString hexec (own := own) (text := text) (index := is) (a := sa) hown' hstr'.1 hstr'.2
    (g := { method := m, pc := pc + 4, locals := ls, stack := .ref T.heap.size :: .ref T.heap.size :: rest, locked := none }) rfl d4' _ hsteps
/-- 'throw new E("text")', the text by a wide index -/
theorem vx_throwSW {cc : ByteArray} {pc : Nat} (hexec : p.tables.exec = Jvm.exec) (hb : c.code = cc) (hl : l.stackTraces = false) {own cls text : String} {names : List String} {ik is ic mc ms sa : Nat} {A : Nat → Prop}
    (hown : s.vm.findClass own = some m.cls) (hcls : Bundle.fit cls = true) (hnames : ∀ n ∈ names, Bundle.fit n = true)
    (hk : (Cond.classLink own ik cls).before args s = true) (hini : (Cond.initialized cls).before args s = true) (hstr : vk_R own is text sa s) (hat : ∀ w ∈ vx_atS own ic cls names, w.before args s = true)
    (hgood : ∀ w ∈ Cond.classLink own ik cls :: Cond.initialized cls :: vx_atS own ic cls names, vx_ot w = true)
    (hU : vx_Zq Bundle.tN "UNASSIGNED_STACK" Bundle.steD A s s.heap) (hN : vx_Zq Bundle.tN "SUPPRESSED_SENTINEL" Bundle.listD A s s.heap) (hS : va_S A s.heap H locs) (hsize : ls.size = c.maxLocals)
    (d0 : decode cc pc = .ok (.new ik, 3)) (d3 : decode cc (pc + 3) = .ok (.dup, 1)) (d4 : decode cc (pc + 4) = .ok (.ldc_w is, 3)) (d7 : decode cc (pc + 7) = .ok (.invokespecial ic, 3)) (d10 : decode cc (pc + 10) = .ok (.athrow, 1))
    (hout : ∀ x ∈ c.exceptionTable.toList, covers x (pc + 10) = false)
    (hRframes : names.length + 3 < R.frames) (hRlocals : (rest.map fun v => v.category).sum + (13 * (names.length + 1) + 43) ≤ R.locals) (hRcells : cells + 1 ≤ R.cells) (hRslots : slots + 6 ≤ R.slots) (hlocks : meth.locks = false)
    (hx : ∀ t : State, s.vm.Alike t.vm → H.size ≤ t.heap.size → (∀ q : Nat, q < H.size → t.heap[q]? = H[q]?) → XC cls s t)
    (hf : ∀ z ∈ locs, free z.base) (hc : cells + 1 ≤ mc) (hs : slots + 6 ≤ ms) :
    W p l e R s m args below meth c H locs cells slots (vx_MQ below Qc XC args s mc ms free) (F0 m pc ls rest) := by
  intro T hT X
  have htr : e.platform.stackTraces = false := (show e.platform.stackTraces = l.stackTraces by rw [X.admits.platform]).trans hl
  have Y := vx_rebase X (R' := { frames := R.frames, locals := R.locals, cells := 1, slots := 6 }) (Nat.le_refl _) (Nat.le_refl _) hRcells hRslots
  obtain ⟨s', hA⟩ : ∃ z, z = (T.setVm s.vm).setFrames (.invoking m args :: below) := ⟨_, rfl⟩
  rw [← hA] at Y
  have hvm : s'.vm = s.vm := by rw [hA]; rfl
  have hhp : s'.heap = H := by rw [hA]; exact hT
  have hW0 : s.WarmedH s'.vm := by rw [hvm]; exact State.WarmedH.refl s
  have hat' : ∀ w ∈ vx_atS own ic cls names, w.before args s' = true := fun w hw => vx_ot_at hW0 hvm.symm (hgood w (List.mem_cons_of_mem _ (List.mem_cons_of_mem _ hw))) (hat w hw)
  have hk' : (Cond.classLink own ik cls).before args s' = true := vx_ot_at hW0 hvm.symm (hgood _ List.mem_cons_self) hk
  have hini' : (Cond.initialized cls).before args s' = true := vx_ot_at hW0 hvm.symm (hgood _ (List.mem_cons_of_mem _ List.mem_cons_self)) hini
  have hU' : vx_Zq Bundle.tN "UNASSIGNED_STACK" Bundle.steD A s' s'.heap := by rw [hhp]; exact vx_Zq.moved hW0.alike (hU.kept hS.2.1)
  have hN' : vx_Zq Bundle.tN "SUPPRESSED_SENTINEL" Bundle.listD A s' s'.heap := by rw [hhp]; exact vx_Zq.moved hW0.alike (hN.kept hS.2.1)
  have h : ∀ w ∈ Bundle.ownAtoms own ic cls names, w.before args s' = true := vx_own hat' (vx_isRefq hU'.1) (vx_isRefq hN'.1) hU'.2.word hN'.2.word
  have hown' : s'.vm.findClass own = some m.cls := by rw [hvm]; exact hown
  have hins : (Cond.instantiable cls 6).before args s' = true := h _ (by simp [Bundle.ownAtoms])
  obtain ⟨vm₁, cX, kX, hfX, hkX, -, -, X₁, st1⟩ := Y.newCold hexec (own := own) (C := cls) (index := ik) (n := 6) hown' hk' hins hini'
    (g := F0 m pc ls rest) rfl (by rw [hb]; exact d0) (Nat.le_refl _) (Nat.le_refl _)
  generalize hT1 : (T.setVm vm₁).pushCell { cls := cX, slots := kX.instanceTypes.map defaultValue, vm := .none } = T1 at X₁ st1
  have hcat : (Value.ref T.heap.size).category = 1 := rfl
  have hcellA : T1.heap[T.heap.size]? = some (freshCell cX kX) := by rw [← hT1]; exact State.heap_pushCell_size _ _
  have d3' : decode c.code (pc + 3) = .ok (.dup, 1) := by rw [hb]; exact d3
  have d4' : decode c.code (pc + 4) = .ok (.ldc_w is, 3) := by rw [hb]; exact d4
  have hstr' : vk_R own is text sa s' := vk_R.warm hW0 hstr
  obtain ⟨U, hsteps, hrun, hend, hW, hsame, ce, hce, hO⟩ := X₁.ctorThrowS hexec htr (own := own) (cls := cls) (names := names) (ic := ic) hown' hcls hnames h (fun x hx => nomatch hx) hfX hkX hcellA (by rw [hhp, hT]; exact Nat.le_refl _) (msg := .ref sa) rfl
    (g := { method := m, pc := pc + 7, locals := ls, stack := .ref sa :: .ref T.heap.size :: .ref T.heap.size :: rest, locked := none }) rfl hsize rfl rfl (rest := rest) rfl
    (by rw [hb]; exact d7) (by rw [hb]; exact d10) hout hRframes (by simp only [List.map_cons, List.sum_cons, hcat]; omega) hlocks
  obtain ⟨f1, f2⟩ := vx_frame hsame
  rw [hhp] at f1 f2
  have hWs : s.WarmedH U.vm := State.WarmedH.trans hW0 hW
  have hcl : s.vm.findClass cls = some ce.cls := by
    have h9 := hO.cls
    rw [hvm] at h9
    exact h9
  have hall : s.sameButNew ({ U with vm := s.vm } : State) locs mc ms := by
    subst hA
    obtain ⟨e1, e2⟩ := hsame
    rw [State.setFrames_setFrames] at e1
    have h2 : (T.setVm s.vm).sameButNew ({ U with vm := s.vm } : State) [] (0 + 1) (0 + 6) := ⟨e1, e2⟩
    have h3 := X.same.trans h2
    rw [List.append_nil] at h3
    exact h3.mono hc hs
  refine ⟨U, ?_, .threw T.heap.size, hrun, hend, Or.inr ⟨T.heap.size, rfl, cls, ce, locs, hx U hWs.alike f1 (fun q hq => f2 q hq (fun z hz => nomatch hz)), hce, hO.vm, hcl, hWs, hall, hf⟩⟩
  refine st1 _ ?_
  show Steps p.tables e below (T1.setTop { method := m, pc := pc + 3, locals := ls, stack := .ref T.heap.size :: rest, locked := none }) _
  jvm_step X₁.here [X₁.here.top, hexec, d3', Value.category]
  exact X₁.ldcStringW hexec (own := own) (text := text) (index := is) (a := sa) hown' hstr'.1 hstr'.2
    (g := { method := m, pc := pc + 4, locals := ls, stack := .ref T.heap.size :: .ref T.heap.size :: rest, locked := none }) rfl d4' _ hsteps
end Ends
section Bodies
variable {l : Launch}
theorem vx_ofW {y : MethodName} {ws ws' : List Cond} {rm : Room} {Pc : Array Value → State → Prop} {Qc : Array Value → State → Outcome → State → Prop} {XC : String → State → State → Prop} {mc ms : Nat} {free : Addr → Prop} {cc : ByteArray} {maxL : Nat} {ret : Option FieldType}
    (hy : plainName y.cls = true) (hw : ws = Cond.code y cc maxL ret :: ws')
    (body : ∀ p e s m args below meth c s₁, BodyLoose p l y (headSpec ws rm) cc maxL ret e s m args below meth c s₁ → c.maxLocals = maxL → (∀ x ∈ c.exceptionTable.toList, False) → Pc args s →
      W p l e (headSpec ws rm).room s m args below meth c s.heap [] 0 0 (vx_MQ below Qc XC args s mc ms free) (entryFrame m args maxL)) : vx_Met l y ws rm Pc Qc XC mc ms free := by
  refine MetFree.of_bodyS (code := cc) (maxLocals := maxL) (ret := ret) hy ?_ ?_
  · intro args s m h hn
    obtain ⟨meth, c, h1, h2, h3, h4, h5, h6, -, -⟩ := Cond.code_spec hn (atoms_spec (ws := ws) h _ (by rw [hw]; exact List.mem_cons_self))
    exact ⟨meth, c, h1, h2, h3, h4, h5, h6⟩
  · intro p e s m args below meth c s₁ B hml hP _
    have hh0 : s₁.heap = s.heap := by rw [B.state]; rfl
    have ht : ∀ x ∈ c.exceptionTable.toList, False := by
      obtain ⟨meth9, c9, h1, h2, -, -, -, -, h7, -⟩ := Cond.code_spec B.named (atoms_spec (ws := ws) B.pre _ (by rw [hw]; exact List.mem_cons_self))
      cases Option.some.inj (h1.symm.trans B.method)
      cases Option.some.inj (h2.symm.trans (Stand.of_body B).code)
      intro x hx
      rw [Array.isEmpty_iff.mp h7] at hx
      cases hx
    obtain ⟨t, a1, o, b1, b2, b3⟩ := body p e s m args below meth c s₁ B hml ht hP s₁ hh0 (Stand.of_body B)
    exact ⟨t, o, a1, b1, b2, b3⟩
/-- the table of a body with handlers -/
theorem vx_table {p : Program} {x y : MethodName} {S : Spec} {cc bytes : ByteArray} {maxL maxL' : Nat} {ret ret' : Option FieldType} {e : Env} {s s₁ : State} {m : MethodId} {args : Array Value} {below : List Frame} {meth : Method} {c : Code} {hh : List (Nat × Nat × Nat × Nat)}
    (B : BodyLoose p l y S cc maxL ret e s m args below meth c s₁) (h : (Cond.codeWith y bytes maxL' ret' hh).before args s = true) : c.exceptionTable.toList = tableOf hh := by
  obtain ⟨m9, meth9, c9, hn9, h1, h2, -, -, h6, -⟩ := Cond.codeWith_spec h
  cases Option.some.inj (hn9.symm.trans B.named)
  cases Option.some.inj (h1.symm.trans B.method)
  cases Option.some.inj (h2.symm.trans (Stand.of_body B).code)
  rw [← h6, table_eq]
end Bodies
end VXA
/-! ===== END ===== -/

/-! ===== BEGIN a static call of a method with an exception table ===== -/
section VXS
variable {p : Program} {l : Launch} {e : Env} {R : Room} {s : State} {m : MethodId} {args : Array Value} {below : List Frame} {meth : Method} {c : Code} {T : State} {H : Heap} {locs : List Loc} {cells slots : Nat}
abbrev vx_CSW (R : Room) (s : State) (args : Array Value) (own : String) (index : Nat) (y : MethodName) (bytes : ByteArray) (maxL : Nat) (ret : Option FieldType) (hh : List (Nat × Nat × Nat × Nat)) (ws : List Cond) (rm : Room) (mc ms n : Nat) : Prop :=
  (rm.cells = mc ∧ rm.slots = ms ∧ rm.frames + 1 ≤ R.frames ∧ 8 + (maxL + 11) + rm.locals ≤ R.locals ∧ (∀ w ∈ ws, ∀ (a' : Array Value) (U : State), s.WarmedH U.vm → w.before a' U = true) ∧ Cond.codeWith y bytes maxL ret hh ∈ ws) ∧
  (Cond.codeWith y bytes maxL ret hh).before args s = true ∧ (Cond.initialized y.cls).before args s = true ∧ (y.cls ≠ "java/lang/invoke/MethodHandle" ∧ y.cls ≠ "java/lang/invoke/VarHandle") ∧
  (∀ sig, parseMethodDescriptor y.desc = some sig → n = sig.parameters.length) ∧ (Cond.methodLink own index y).before args s = true ∧ (Cond.static y).before args s = true
theorem vx_cwSW {own : String} {index maxL mc ms : Nat} {y : MethodName} {bytes : ByteArray} {ret : Option FieldType} {hh : List (Nat × Nat × Nat × Nat)} {Ts ws ws' : List Cond} {rm : Room} (n : Nat) (ht : ∀ w ∈ Ts, w.before args s = true) (hT : GoodIn Ts (va_wsS own index y ws)) (hw : ws = Cond.codeWith y bytes maxL ret hh :: ws') (hrc : rm.cells = mc) (hrs : rm.slots = ms)
    (hd : y.cls ≠ "java/lang/invoke/MethodHandle" ∧ y.cls ≠ "java/lang/invoke/VarHandle" ∧ (parseMethodDescriptor y.desc).map (fun d => d.parameters.length) = some n) (hR : rm.frames + 1 ≤ R.frames ∧ 8 + (maxL + 11) + rm.locals ≤ R.locals) :
    vx_CSW R s args own index y bytes maxL ret hh ws rm mc ms n := by
  have ok : ∀ w ∈ va_wsS own index y ws, w.before args s = true := fun w h => ht w (hT w h).1
  have hG : GoodIn Ts ws := fun w h => hT w (by unfold va_wsS; exact List.mem_append_right _ h)
  have hc : Cond.codeWith y bytes maxL ret hh ∈ ws := by rw [hw]; exact List.mem_cons_self
  refine ⟨⟨hrc, hrs, hR.1, hR.2, pay_in ht hG, hc⟩, ht _ (hG _ hc).1, ok _ (by simp [va_wsS]), ⟨hd.1, hd.2.1⟩, fun sig h => ?_, ok _ (by simp [va_wsS]), ok _ (by simp [va_wsS])⟩
  have h2 := hd.2.2
  rw [h] at h2
  exact (Option.some.inj h2).symm
theorem vx_callSW (X : Stand p l e R s m args below meth c T locs cells slots) (hexec : p.tables.exec = Jvm.exec) {own : String} {index : Nat} {y : MethodName} {bytes : ByteArray} {maxL : Nat} {ret : Option FieldType} {hh : List (Nat × Nat × Nat × Nat)}
    (hown : s.vm.findClass own = some m.cls) (hlink : (Cond.methodLink own index y).before args s = true) (hstat : (Cond.static y).before args s = true) (hinit : (Cond.initialized y.cls).before args s = true)
    (hcode : (Cond.codeWith y bytes maxL ret hh).before args s = true) (hy : y.cls ≠ "java/lang/invoke/MethodHandle" ∧ y.cls ≠ "java/lang/invoke/VarHandle")
    {W9 : Nat} {Pre : Pt → Array Value → Prop} {Post : Pt → Array Value → Option Value → Pt → Prop} (hK : Back l R p e below s args y 3 W9 Pre Post)
    {g : JFrame} (hg : g.method = m) (hsize : g.locals.size = c.maxLocals) {argsL rest : List Value} (hlen : ∀ sig, parseMethodDescriptor y.desc = some sig → argsL.length = sig.parameters.length)
    (hstack : g.stack = argsL.reverse ++ rest) (hW : 2 * g.monitorRoom + (rest.map fun v => v.category).sum ≤ W9) (hdg : decode c.code g.pc = .ok (.invokestatic index, 3))
    (hpre : ∀ vm₁, s.WarmedH vm₁ → Pre ⟨T.setVm vm₁, locs, cells, slots⟩ argsL.toArray) :
    ∃ (v : Option Value) (vm₁ : Vm) (B : Pt), s.WarmedH vm₁ ∧ Stand p l e R s m args below meth c B.U B.locs B.cells B.slots ∧ Post ⟨T.setVm vm₁, locs, cells, slots⟩ argsL.toArray v B ∧
      ∀ target, Steps p.tables e below (B.U.setTop { g with pc := g.pc + 3, stack := v.toList ++ rest }) target → Steps p.tables e below (T.setTop g) target := by
  obtain ⟨mk, methM, cM, hnamed, hmethM, -, -, -, -, -, -, hsigM⟩ := Cond.codeWith_spec hcode
  have hstatic : methM.isStatic = true := Cond.static_spec hnamed hmethM hstat
  obtain ⟨kP, hkP, -⟩ := className_of_methodNamed hnamed
  have hinitP : kP.init = .initialized := Cond.initialized_spec (findClass_of_methodNamed hnamed) hkP hinit
  obtain ⟨vm₁, X₁, hstep₁⟩ := X.invokestatic hexec hown hlink hnamed hmethM hstatic hkP hinitP hy (g := g) hg (argsL := argsL) (rest := rest) (hlen _ hsigM) hstack hdg
  obtain ⟨v, B, X', hpost, hsteps⟩ := hK m meth c ⟨T.setVm vm₁, locs, cells, slots⟩ { g with stack := rest } (.invokestatic index) mk argsL.toArray X₁ hg hsize hdg hW (X₁.named hnamed) (hpre vm₁ X₁.warmed)
  exact ⟨v, vm₁, B, X₁.warmed, X', hpost, fun target h => hstep₁ _ fun acts => by rw [doInvoke_state]; exact hsteps.trans h⟩
theorem vx_runSW {y : MethodName} {bytes cc : ByteArray} {maxL nL mc ms n index : Nat} {ret : Option FieldType} {hh : List (Nat × Nat × Nat × Nat)} {ws : List Cond} {rm : Room} {Pc : Array Value → State → Prop} {Qc : Array Value → State → Outcome → State → Prop} {free : Addr → Prop} {Ts : List Cond} {own : String} {As rest : List Value} {g : JFrame}
    (S : CallFix p m c cc nL s args Ts own) (hM : Met l y ws rm Pc Qc mc ms free) (cw : vx_CSW R s args own index y bytes maxL ret hh ws rm mc ms n) (hp : PreS s H Pc As)
    (hg : g.method = m) (hn : As.length = n) (hsize : g.locals.size = nL) (hstack : g.stack = As.reverse ++ rest) (hW : 2 * g.monitorRoom + (rest.map fun v => v.category).sum ≤ 8) (hdg : decode cc g.pc = .ok (.invokestatic index, 3)) (hf : cells + mc ≤ R.cells ∧ slots + ms ≤ R.slots) :
    va_Run p l e R s m args below meth c H locs cells slots mc ms g rest (Qc As.toArray) (free) := by
  obtain ⟨⟨hrc, hrs, hfr, hlo, hws, hcw⟩, hcode, hini, hy, hlen, hl, hstt⟩ := cw
  have hK : Back l R p e below s args y 3 8 (PreOf R mc ms Pc) (PostOf Qc mc ms free) := va_backW (hh := hh) (bytes := bytes) (maxL := maxL) (ret := ret) hM hp.1 hrc hrs hfr hlo hws hcw (fun a' U hW => word_at hW (Or.inl (by first | rfl | simp [Cond.onTables, Cond.keeps, Cond.steady])) hini)
  obtain ⟨hx, hb, hml, ho, -⟩ := S
  intro T hT X
  obtain ⟨v, vm₁, ⟨U', l2, c2, s2⟩, hW₁, X', ⟨g', mk, t, L, e1, e2, hq, h1, hL, h2, h3⟩, st⟩ := vx_callSW X hx (hh := hh) (bytes := bytes) (maxL := maxL) (ret := ret) ho hl hstt hini hcode hy hK hg (hsize.trans hml.symm) (argsL := As) (rest := rest) (fun sig h => hn.trans (hlen sig h)) hstack hW (by rw [hb]; exact hdg)
    (fun vm₁ hW₁ => ⟨hf.1, hf.2, hp.2 (T.setVm vm₁) hT hW₁⟩)
  dsimp only [Pt.U, Pt.locs, Pt.cells, Pt.slots] at X' e1 e2 h1 h2 h3 st
  subst h1; subst h2; subst h3
  exact ⟨v, (T.setVm vm₁).calling g' mk As.toArray, t, U', L, hT, X', hL, e1, e2, hq, st⟩
/-- not caught here, past rows that name other classes: it goes on to the caller -/
theorem vx_outP {p : Program} {l : Launch} {e : Env} {R : Room} {s : State} {m : MethodId} {args : Array Value} {below : List Frame} {meth : Method} {c : Code} {H : Heap} {locs : List Loc} {cells slots : Nat} {free : Addr → Prop} {ls : Array Slot} {rest : List Value} {Qc : Array Value → State → Outcome → State → Prop} {XC : String → State → State → Prop}
    {pc : Nat} {own E : String} {ce : Cell} {q : Addr} {mc ms : Nat} (hown : s.vm.findClass own = some m.cls) (hlocks : meth.locks = false)
    (hpass : ∀ z ∈ c.exceptionTable.toList, covers z pc = false ∨ (z.catchType ≠ 0 ∧ ∃ nm : String, (Cond.classLink own z.catchType nm).before args s = true ∧ va_Nc E nm s)) (hcell : H[q]? = some ce) (hv : ce.vm = .none) (hcl : s.vm.findClass E = some ce.cls)
    (hx : ∀ t : State, t.heap = H → s.vm.Alike t.vm → XC E s t) (hf : ∀ z ∈ locs, free z.base) (hc : cells ≤ mc) (hs : slots ≤ ms) :
    vx_W p l e R s m args below meth c H locs cells slots (vx_MQ below Qc XC args s mc ms free) (F0 m pc ls rest) q := by
  intro T hT X
  have hpl : e.platform.magicAccessors = ({} : Platform).magicAccessors := by rw [X.admits.platform]
  obtain ⟨vm', hW', X', st⟩ := X.outThrough hlocks q (g := F0 m pc ls rest) rfl rfl rfl (cell := ce) (by rw [hT]; exact hcell) (by rw [hv]; rfl)
    (by obtain ⟨k9, h9, -⟩ := Vm.findClass_spec hcl; exact ⟨k9, h9⟩) (fun z hz => by
      rcases hpass z hz with h | ⟨hz0, nm, hl1, hn1⟩
      · exact Or.inl h
      · obtain ⟨c6, hc6, hcl6⟩ := Cond.classLink_spec hown hl1 e.platform hpl
        obtain ⟨a8, b8, h1, h2, h3⟩ := hn1
        cases Option.some.inj (h1.symm.trans hcl)
        cases Option.some.inj (h2.symm.trans hc6)
        exact Or.inr ⟨hz0, _, hcl6, h3⟩)
  obtain ⟨g₀, hfr⟩ := X'.frames_eq
  have hcell9 : ((T.setVm vm').setFrames (.throwing q :: below)).heap[q]? = some ce := by
    show T.heap[q]? = some ce
    rw [hT]; exact hcell
  have hend : Ended ((T.setVm vm').setFrames (.throwing q :: below)) below (.threw q) := State.frames_setFrames _ (State.cur_lt_of_frames hfr)
  refine ⟨(T.setVm vm').setFrames (.throwing q :: below), ?_, .threw q, X'.here.running, hend, Or.inr ⟨q, rfl, E, ce, locs, hx _ hT (X'.ends _).1.alike, hcell9, hv, hcl, (X'.ends _).1, (X'.ends _).2.mono hc hs, hf⟩⟩
  rw [X.pushThrowing_eq]
  exact st
/-- a thing of a world lies in the heap -/
theorem vx_lt {D : va_G} {cl : List vw_C} {ws : va_W} {H1 : Heap} (h : va_P D cl ws H1) {k : Nat} {q : Nat × va_E} (hk : ws[k]? = some q) : q.1 < H1.size := (h k q hk).lt
end VXS
/-! ===== END ===== -/

/-! ===== BEGIN methods with a table of their own: called by a name, returning or throwing ===== -/
section VXH
/-! vx_backW, vx_callVX, vx_callSX, vx_callVW, vx_runVW, vx_runVX, vx_runSX, vx_ofWH follow the same proofs as their sisters above (Free/Laws.lean, Shelf42/LK1.lean); vx_outP calls Shelf42/NT130.lean (outThrough). -/
section
variable {l : Launch} {R : Room} {p : Program} {e : Env} {below : List Frame} {s : State} {sargs : Array Value} {y : MethodName} {len W9 : Nat}
theorem vx_backW {ws : List Cond} {rm : Room} {Pc : Array Value → State → Prop} {Qc : Array Value → State → Outcome → State → Prop} {XC : String → State → State → Prop} {mc ms : Nat} {free : Addr → Prop} {bytes : ByteArray} {maxL : Nat} {ret : Option FieldType} {hh : List (Nat × Nat × Nat × Nat)}
    (hM : vx_Met l y ws rm Pc Qc XC mc ms free) (hblind : FrameBlind Pc) (hrc : rm.cells = mc) (hrs : rm.slots = ms)
    (hframes : rm.frames + 1 ≤ R.frames) (hlocals : W9 + (maxL + 11) + rm.locals ≤ R.locals)
    (hws : ∀ w ∈ ws, ∀ a' U, s.WarmedH U.vm → w.before a' U = true) (hcode : Cond.codeWith y bytes maxL ret hh ∈ ws) (hinit : ∀ a' U, s.WarmedH U.vm → (Cond.initialized y.cls).before a' U = true) :
    vx_Back l R p e below s sargs y len W9 (PreOf R mc ms Pc) (PostOf Qc mc ms free) (vx_Post XC mc ms free) := by
  intro m meth c A g ig mk a X hg hsize hdg hW hn hp
  have h1 : (headSpec ws rm).pre.before a A.U = true := atoms_intro fun w hw => hws w hw _ _ X.warmed
  have h2 : (Cond.codeWith y bytes maxL ret hh).before a A.U = true := hws _ hcode _ _ X.warmed
  have h3 : (Cond.initialized y.cls).before a A.U = true := hinit _ _ X.warmed
  have h4 : A.cells + (headSpec ws rm).room.cells ≤ R.cells := by rw [show (headSpec ws rm).room.cells = mc from hrc]; exact hp.1
  have h5 : A.slots + (headSpec ws rm).room.slots ≤ R.slots := by rw [show (headSpec ws rm).room.slots = ms from hrs]; exact hp.2.1
  have hPc : Pc a (A.U.calling g mk a) := hblind _ _ _ _ hp.2.2
  obtain ⟨U, Ls, c0, s0⟩ := A
  dsimp only [Pt.U, Pt.locs, Pt.cells, Pt.slots] at h1 h2 h3 h4 h5 X hn hPc ⊢
  obtain ⟨m9, methY, cY, hn9, hmY, hcY, -, hlY, -⟩ := Cond.codeWith_spec h2
  cases Option.some.inj (hn9.symm.trans hn)
  obtain ⟨kY, hkY, -⟩ := className_of_methodNamed hn
  have hinitY : kY.init = .initialized := Cond.initialized_spec (findClass_of_methodNamed hn) hkY h3
  have h : At U g.method c below := by rw [hg]; exact X.here
  have hlocals9 : W9 + (maxL + 11) + (headSpec ws rm).room.locals ≤ R.locals := hlocals
  have happ : (headSpec ws rm).appliesLoose y e.platform (U.calling g mk a) = true :=
    Spec.appliesLoose_calling (g := g) h hdg hn hkY hinitY
      (X.room_calling (g := g) (R' := (headSpec ws rm).room) hsize hmY hcY hframes (by rw [hlY]; omega) h4 h5) h1
  obtain ⟨mid, hmid⟩ := h.above
  have hfr : (U.setTop g).frames = (.java g :: mid) ++ below := by rw [State.frames_setTop' g h.top, hmid]; rfl
  obtain ⟨o, s₂, hsteps, -, hend, hq⟩ := Steps.callFree hM p X.admits X.cas X.clock (acts := []) hfr happ hPc trivial
  have hq' : vx_Q Qc XC mc ms free a (U.calling g mk a) o s₂ := hq
  rw [State.frames_setTop' g h.top] at hend
  obtain ⟨g₀, hg0⟩ := Option.isSome_iff_exists.mp h.top
  obtain ⟨r, hr⟩ := State.topJava?_eq_some.mp hg0
  have hr' : (({ U with heap := s₂.heap, slotsUsed := s₂.slotsUsed } : State).setVm s₂.vm).frames = .java g₀ :: r := hr
  rcases hq' with ⟨hqc, L, hfe, hL⟩ | ⟨q, rfl, E, ce, L, hx, hce, hcv, hcl, hW₂, hsm, hL⟩
  · obtain ⟨⟨v, rfl⟩, hW₂, e2, q2, q3, q4, q5, q6⟩ := id hfe
    have e3 : s₂ = ({ (U.calling g mk a).setFrames s₂.frames with heap := s₂.heap, slotsUsed := s₂.slotsUsed } : State).setVm s₂.vm := by
      have : s₂ = ({ s₂ with vm := (U.calling g mk a).vm } : State).setVm s₂.vm := rfl
      rw [e2] at this
      exact this
    obtain ⟨c₂, i₂, len₂, hc₂, hd₂, hf₂⟩ := hend
    have hW' : U.WarmedH s₂.vm := hW₂
    have hcc : c₂ = c := by
      have h1 : s₂.code? g.method = U.code? g.method := by
        rw [State.code?_eq, State.code?_eq, hW'.alike.method?]
      exact Option.some.inj (hc₂.symm.trans (h1.trans h.code))
    subst hcc
    have hlen : len₂ = len := by rw [hdg] at hd₂; cases hd₂; rfl
    subst hlen
    have hs₂ : s₂ = (({ U with heap := s₂.heap, slotsUsed := s₂.slotsUsed } : State).setVm s₂.vm).setTop { g with pc := g.pc + len₂, stack := v.toList ++ g.stack } := by
      refine e3.trans ?_
      rw [hf₂, State.calling_eq h.top, State.setFrames_setFrames, State.setTop_of_frames _ hr', hr]
      rfl
    have hsame : U.sameButNew ({ U with heap := s₂.heap, slotsUsed := s₂.slotsUsed } : State) L mc ms := by
      refine ⟨?_, q2, q3, q4, q5, q6⟩
      obtain ⟨t, ht, -⟩ := State.frames_cons hr
      show ({ U with heap := s₂.heap, slotsUsed := s₂.slotsUsed } : State) = { U.setFrames U.frames with heap := s₂.heap, slotsUsed := s₂.slotsUsed }
      rw [State.setFrames_self ht]
    subst hg
    refine Or.inl ⟨v, ⟨(({ U with heap := s₂.heap, slotsUsed := s₂.slotsUsed } : State).setVm s₂.vm), Ls ++ L, c0 + mc, s0 + ms⟩,
      ⟨X.admits, X.cas, X.clock, X.frames, X.room, X.hears, X.method, X.code, (X.here.setHeapUsed s₂.heap s₂.slotsUsed).setVm hW'.alike, X.tail, State.WarmedH.trans X.warmed hW', X.limits, X.bytes, X.same.trans (hsame.setVm s.vm)⟩,
      ⟨g, mk, s₂, L, rfl, rfl, hqc, rfl, hL, rfl, rfl⟩, ?_⟩
    show Steps p.tables e below _ ((({ U with heap := s₂.heap, slotsUsed := s₂.slotsUsed } : State).setVm s₂.vm).setTop { g with pc := g.pc + len₂, stack := v.toList ++ g.stack })
    rw [← hs₂]
    exact hsteps
  · obtain ⟨e2, q2, q3, q4, q5, q6⟩ := id hsm
    have e3 : s₂ = ({ (U.calling g mk a).setFrames s₂.frames with heap := s₂.heap, slotsUsed := s₂.slotsUsed } : State).setVm s₂.vm := by
      have : s₂ = ({ s₂ with vm := (U.calling g mk a).vm } : State).setVm s₂.vm := rfl
      rw [e2] at this
      exact this
    have hf₂ : s₂.frames = .throwing q :: .java g :: U.frames.tail := hend
    have hW' : U.WarmedH s₂.vm := hW₂
    have hs₂ : s₂ = ((({ U with heap := s₂.heap, slotsUsed := s₂.slotsUsed } : State).setVm s₂.vm).setTop g).pushFrame (.throwing q) := by
      refine e3.trans ?_
      rw [hf₂, State.calling_eq h.top, State.setFrames_setFrames, State.pushFrame, State.frames_setTop _ hr', State.setTop_of_frames _ hr', State.setFrames_setFrames, hr]
      rfl
    have hsame : U.sameButNew ({ U with heap := s₂.heap, slotsUsed := s₂.slotsUsed } : State) L mc ms := by
      refine ⟨?_, q2, q3, q4, q5, q6⟩
      obtain ⟨t, ht, -⟩ := State.frames_cons hr
      show ({ U with heap := s₂.heap, slotsUsed := s₂.slotsUsed } : State) = { U.setFrames U.frames with heap := s₂.heap, slotsUsed := s₂.slotsUsed }
      rw [State.setFrames_self ht]
    subst hg
    refine Or.inr ⟨q, ⟨(({ U with heap := s₂.heap, slotsUsed := s₂.slotsUsed } : State).setVm s₂.vm), Ls ++ L, c0 + mc, s0 + ms⟩,
      ⟨X.admits, X.cas, X.clock, X.frames, X.room, X.hears, X.method, X.code, (X.here.setHeapUsed s₂.heap s₂.slotsUsed).setVm hW'.alike, X.tail, State.WarmedH.trans X.warmed hW', X.limits, X.bytes, X.same.trans (hsame.setVm s.vm)⟩,
      ⟨g, mk, s₂, L, E, ce, rfl, rfl, hx, hce, hcv, hcl, rfl, hL, rfl, rfl⟩, ?_⟩
    show Steps p.tables e below _ (((({ U with heap := s₂.heap, slotsUsed := s₂.slotsUsed } : State).setVm s₂.vm).setTop g).pushFrame (.throwing q))
    rw [← hs₂]
    exact hsteps
end
variable {p : Program} {l : Launch} {e : Env} {R : Room} {s : State} {m : MethodId} {args : Array Value} {below : List Frame} {meth : Method} {c : Code} {T : State} {H : Heap} {locs : List Loc} {cells slots : Nat}
theorem vx_callVX (X : Stand p l e R s m args below meth c T locs cells slots) (hexec : p.tables.exec = Jvm.exec) {own C : String} {index : Nat} {y : MethodName} {bytes : ByteArray} {maxL : Nat} {ret : Option FieldType} {hh : List (Nat × Nat × Nat × Nat)}
    (hown : s.vm.findClass own = some m.cls) (hlink : (Cond.methodLink own index y).before args s = true) (hinst : (Cond.instanceMethod y).before args s = true) (hsel : (Cond.selects C y y).before args s = true)
    (hcode : (Cond.codeWith y bytes maxL ret hh).before args s = true) (hy : y.cls ≠ "java/lang/invoke/MethodHandle" ∧ y.cls ≠ "java/lang/invoke/VarHandle")
    {W9 : Nat} {Pre : Pt → Array Value → Prop} {Post : Pt → Array Value → Option Value → Pt → Prop} {PostX : Pt → Array Value → Addr → Pt → Prop} (hK : vx_Back l R p e below s args y 3 W9 Pre Post PostX)
    {b : Addr} {cellB : Cell} (hcell : T.heap[b]? = some cellB) (hobj : cellB.vm.isStatics = false) (hcls : s.vm.findClass C = some cellB.cls)
    {g : JFrame} (hg : g.method = m) (hsize : g.locals.size = c.maxLocals) {argsL rest : List Value} (hlen : ∀ sig, parseMethodDescriptor y.desc = some sig → argsL.length = sig.parameters.length)
    (hstack : g.stack = argsL.reverse ++ .ref b :: rest) (hW : 2 * g.monitorRoom + (rest.map fun v => v.category).sum ≤ W9) (hdg : decode c.code g.pc = .ok (.invokevirtual index, 3))
    (hpre : ∀ vm₁, s.WarmedH vm₁ → Pre ⟨T.setVm vm₁, locs, cells, slots⟩ (Value.ref b :: argsL).toArray) :
    (∃ (v : Option Value) (vm₁ : Vm) (B : Pt), s.WarmedH vm₁ ∧ Stand p l e R s m args below meth c B.U B.locs B.cells B.slots ∧ Post ⟨T.setVm vm₁, locs, cells, slots⟩ (Value.ref b :: argsL).toArray v B ∧
      ∀ target, Steps p.tables e below (B.U.setTop { g with pc := g.pc + 3, stack := v.toList ++ rest }) target → Steps p.tables e below (T.setTop g) target) ∨
    (∃ (q : Addr) (vm₁ : Vm) (B : Pt), s.WarmedH vm₁ ∧ Stand p l e R s m args below meth c B.U B.locs B.cells B.slots ∧ PostX ⟨T.setVm vm₁, locs, cells, slots⟩ (Value.ref b :: argsL).toArray q B ∧
      Steps p.tables e below (T.setTop g) ((B.U.setTop { g with stack := rest }).pushFrame (.throwing q))) := by
  obtain ⟨mk, methM, hnamed, hmethM, hstM, habM⟩ := Cond.instanceMethod_spec hinst
  obtain ⟨m8, methM', cM, hn8, hmethM', -, -, -, -, -, -, hsigM⟩ := Cond.codeWith_spec hcode
  cases Option.some.inj (hn8.symm.trans hnamed)
  cases hmethM.symm.trans hmethM'
  obtain ⟨c2, r2, m2, q1, q2, q3, q4, kP, hkP, hkPi⟩ := Cond.selects_spec hsel
  cases hcls.symm.trans q1
  cases (State.methodFound?_of_named hnamed hy).symm.trans q2
  cases hnamed.symm.trans q3
  have hselP : selectMethod e.platform s.vm cellB.cls mk = .method mk := by rw [Launch.admits_selectMethod X.admits]; exact q4
  obtain ⟨vm₁, X₁, hstep₁⟩ := X.invokevirtual hexec hown hlink hnamed hmethM hstM hkP hkPi hy (a := b) (cell := cellB) hcell
    (fun z h => by rw [h] at hobj; cases hobj) hselP hmethM habM hkP hkPi (g := g) hg (argsL := argsL) (rest := rest) (hlen _ hsigM) hstack hdg
  rcases hK m meth c ⟨T.setVm vm₁, locs, cells, slots⟩ { g with stack := rest } (.invokevirtual index) mk (Value.ref b :: argsL).toArray X₁ hg hsize hdg hW (X₁.named hnamed) (hpre vm₁ X₁.warmed) with ⟨v, B, X', hpost, hsteps⟩ | ⟨q, B, X', hpost, hsteps⟩
  · exact Or.inl ⟨v, vm₁, B, X₁.warmed, X', hpost, fun target h => hstep₁ _ fun acts => by rw [doInvoke_state]; exact hsteps.trans h⟩
  · exact Or.inr ⟨q, vm₁, B, X₁.warmed, X', hpost, hstep₁ _ fun acts => by rw [doInvoke_state]; exact hsteps⟩
theorem vx_callSX (X : Stand p l e R s m args below meth c T locs cells slots) (hexec : p.tables.exec = Jvm.exec) {own : String} {index : Nat} {y : MethodName} {bytes : ByteArray} {maxL : Nat} {ret : Option FieldType} {hh : List (Nat × Nat × Nat × Nat)}
    (hown : s.vm.findClass own = some m.cls) (hlink : (Cond.methodLink own index y).before args s = true) (hstat : (Cond.static y).before args s = true) (hinit : (Cond.initialized y.cls).before args s = true)
    (hcode : (Cond.codeWith y bytes maxL ret hh).before args s = true) (hy : y.cls ≠ "java/lang/invoke/MethodHandle" ∧ y.cls ≠ "java/lang/invoke/VarHandle")
    {W9 : Nat} {Pre : Pt → Array Value → Prop} {Post : Pt → Array Value → Option Value → Pt → Prop} {PostX : Pt → Array Value → Addr → Pt → Prop} (hK : vx_Back l R p e below s args y 3 W9 Pre Post PostX)
    {g : JFrame} (hg : g.method = m) (hsize : g.locals.size = c.maxLocals) {argsL rest : List Value} (hlen : ∀ sig, parseMethodDescriptor y.desc = some sig → argsL.length = sig.parameters.length)
    (hstack : g.stack = argsL.reverse ++ rest) (hW : 2 * g.monitorRoom + (rest.map fun v => v.category).sum ≤ W9) (hdg : decode c.code g.pc = .ok (.invokestatic index, 3))
    (hpre : ∀ vm₁, s.WarmedH vm₁ → Pre ⟨T.setVm vm₁, locs, cells, slots⟩ argsL.toArray) :
    (∃ (v : Option Value) (vm₁ : Vm) (B : Pt), s.WarmedH vm₁ ∧ Stand p l e R s m args below meth c B.U B.locs B.cells B.slots ∧ Post ⟨T.setVm vm₁, locs, cells, slots⟩ argsL.toArray v B ∧
      ∀ target, Steps p.tables e below (B.U.setTop { g with pc := g.pc + 3, stack := v.toList ++ rest }) target → Steps p.tables e below (T.setTop g) target) ∨
    (∃ (q : Addr) (vm₁ : Vm) (B : Pt), s.WarmedH vm₁ ∧ Stand p l e R s m args below meth c B.U B.locs B.cells B.slots ∧ PostX ⟨T.setVm vm₁, locs, cells, slots⟩ argsL.toArray q B ∧
      Steps p.tables e below (T.setTop g) ((B.U.setTop { g with stack := rest }).pushFrame (.throwing q))) := by
  obtain ⟨mk, methM, cM, hnamed, hmethM, -, -, -, -, -, -, hsigM⟩ := Cond.codeWith_spec hcode
  have hstatic : methM.isStatic = true := Cond.static_spec hnamed hmethM hstat
  obtain ⟨kP, hkP, -⟩ := className_of_methodNamed hnamed
  have hinitP : kP.init = .initialized := Cond.initialized_spec (findClass_of_methodNamed hnamed) hkP hinit
  obtain ⟨vm₁, X₁, hstep₁⟩ := X.invokestatic hexec hown hlink hnamed hmethM hstatic hkP hinitP hy (g := g) hg (argsL := argsL) (rest := rest) (hlen _ hsigM) hstack hdg
  rcases hK m meth c ⟨T.setVm vm₁, locs, cells, slots⟩ { g with stack := rest } (.invokestatic index) mk argsL.toArray X₁ hg hsize hdg hW (X₁.named hnamed) (hpre vm₁ X₁.warmed) with ⟨v, B, X', hpost, hsteps⟩ | ⟨q, B, X', hpost, hsteps⟩
  · exact Or.inl ⟨v, vm₁, B, X₁.warmed, X', hpost, fun target h => hstep₁ _ fun acts => by rw [doInvoke_state]; exact hsteps.trans h⟩
  · exact Or.inr ⟨q, vm₁, B, X₁.warmed, X', hpost, hstep₁ _ fun acts => by rw [doInvoke_state]; exact hsteps⟩
theorem vx_callVW (X : Stand p l e R s m args below meth c T locs cells slots) (hexec : p.tables.exec = Jvm.exec) {own C : String} {index : Nat} {y : MethodName} {bytes : ByteArray} {maxL : Nat} {ret : Option FieldType} {hh : List (Nat × Nat × Nat × Nat)}
    (hown : s.vm.findClass own = some m.cls) (hlink : (Cond.methodLink own index y).before args s = true) (hinst : (Cond.instanceMethod y).before args s = true) (hsel : (Cond.selects C y y).before args s = true)
    (hcode : (Cond.codeWith y bytes maxL ret hh).before args s = true) (hy : y.cls ≠ "java/lang/invoke/MethodHandle" ∧ y.cls ≠ "java/lang/invoke/VarHandle")
    {W9 : Nat} {Pre : Pt → Array Value → Prop} {Post : Pt → Array Value → Option Value → Pt → Prop} (hK : Back l R p e below s args y 3 W9 Pre Post)
    {b : Addr} {cellB : Cell} (hcell : T.heap[b]? = some cellB) (hobj : cellB.vm.isStatics = false) (hcls : s.vm.findClass C = some cellB.cls)
    {g : JFrame} (hg : g.method = m) (hsize : g.locals.size = c.maxLocals) {argsL rest : List Value} (hlen : ∀ sig, parseMethodDescriptor y.desc = some sig → argsL.length = sig.parameters.length)
    (hstack : g.stack = argsL.reverse ++ .ref b :: rest) (hW : 2 * g.monitorRoom + (rest.map fun v => v.category).sum ≤ W9) (hdg : decode c.code g.pc = .ok (.invokevirtual index, 3))
    (hpre : ∀ vm₁, s.WarmedH vm₁ → Pre ⟨T.setVm vm₁, locs, cells, slots⟩ (Value.ref b :: argsL).toArray) :
    ∃ (v : Option Value) (vm₁ : Vm) (B : Pt), s.WarmedH vm₁ ∧ Stand p l e R s m args below meth c B.U B.locs B.cells B.slots ∧ Post ⟨T.setVm vm₁, locs, cells, slots⟩ (Value.ref b :: argsL).toArray v B ∧
      ∀ target, Steps p.tables e below (B.U.setTop { g with pc := g.pc + 3, stack := v.toList ++ rest }) target → Steps p.tables e below (T.setTop g) target := by
  obtain ⟨mk, methM, hnamed, hmethM, hstM, habM⟩ := Cond.instanceMethod_spec hinst
  obtain ⟨m8, methM', cM, hn8, hmethM', -, -, -, -, -, -, hsigM⟩ := Cond.codeWith_spec hcode
  cases Option.some.inj (hn8.symm.trans hnamed)
  cases hmethM.symm.trans hmethM'
  obtain ⟨c2, r2, m2, q1, q2, q3, q4, kP, hkP, hkPi⟩ := Cond.selects_spec hsel
  cases hcls.symm.trans q1
  cases (State.methodFound?_of_named hnamed hy).symm.trans q2
  cases hnamed.symm.trans q3
  have hselP : selectMethod e.platform s.vm cellB.cls mk = .method mk := by rw [Launch.admits_selectMethod X.admits]; exact q4
  obtain ⟨vm₁, X₁, hstep₁⟩ := X.invokevirtual hexec hown hlink hnamed hmethM hstM hkP hkPi hy (a := b) (cell := cellB) hcell
    (fun z h => by rw [h] at hobj; cases hobj) hselP hmethM habM hkP hkPi (g := g) hg (argsL := argsL) (rest := rest) (hlen _ hsigM) hstack hdg
  obtain ⟨v, B, X', hpost, hsteps⟩ := hK m meth c ⟨T.setVm vm₁, locs, cells, slots⟩ { g with stack := rest } (.invokevirtual index) mk (Value.ref b :: argsL).toArray X₁ hg hsize hdg hW (X₁.named hnamed) (hpre vm₁ X₁.warmed)
  exact ⟨v, vm₁, B, X₁.warmed, X', hpost, fun target h => hstep₁ _ fun acts => by rw [doInvoke_state]; exact hsteps.trans h⟩
abbrev vx_CVW (R : Room) (s : State) (args : Array Value) (own C : String) (index : Nat) (y : MethodName) (bytes : ByteArray) (maxL : Nat) (ret : Option FieldType) (hh : List (Nat × Nat × Nat × Nat)) (ws : List Cond) (rm : Room) (mc ms n : Nat) : Prop :=
  (rm.cells = mc ∧ rm.slots = ms ∧ rm.frames + 1 ≤ R.frames ∧ 8 + (maxL + 11) + rm.locals ≤ R.locals ∧ (∀ w ∈ ws, ∀ (a' : Array Value) (U : State), s.WarmedH U.vm → w.before a' U = true) ∧ Cond.codeWith y bytes maxL ret hh ∈ ws) ∧
  (Cond.codeWith y bytes maxL ret hh).before args s = true ∧ (Cond.initialized y.cls).before args s = true ∧ (y.cls ≠ "java/lang/invoke/MethodHandle" ∧ y.cls ≠ "java/lang/invoke/VarHandle") ∧
  (∀ sig, parseMethodDescriptor y.desc = some sig → n = sig.parameters.length) ∧ (Cond.methodLink own index y).before args s = true ∧ (Cond.instanceMethod y).before args s = true ∧ (Cond.selects C y y).before args s = true
theorem vx_cwVW {own C : String} {index maxL mc ms : Nat} {y : MethodName} {bytes : ByteArray} {ret : Option FieldType} {hh : List (Nat × Nat × Nat × Nat)} {Ts ws ws' : List Cond} {rm : Room} (n : Nat) (ht : ∀ w ∈ Ts, w.before args s = true) (hT : GoodIn Ts (wsV own index C y ws)) (hw : ws = Cond.codeWith y bytes maxL ret hh :: ws') (hrc : rm.cells = mc) (hrs : rm.slots = ms)
    (hd : y.cls = C ∧ y.cls ≠ "java/lang/invoke/MethodHandle" ∧ y.cls ≠ "java/lang/invoke/VarHandle" ∧ (parseMethodDescriptor y.desc).map (fun d => d.parameters.length) = some n) (hR : rm.frames + 1 ≤ R.frames ∧ 8 + (maxL + 11) + rm.locals ≤ R.locals) :
    vx_CVW R s args own C index y bytes maxL ret hh ws rm mc ms n := by
  obtain ⟨hC, hd⟩ := hd
  subst hC
  have ok : ∀ w ∈ wsV own index y.cls y ws, w.before args s = true := fun w h => ht w (hT w h).1
  have hG : GoodIn Ts ws := fun w h => hT w (by unfold wsV; exact List.mem_append_right _ h)
  have hc : Cond.codeWith y bytes maxL ret hh ∈ ws := by rw [hw]; exact List.mem_cons_self
  refine ⟨⟨hrc, hrs, hR.1, hR.2, pay_in ht hG, hc⟩, ht _ (hG _ hc).1, ok _ (by simp [wsV]), ⟨hd.1, hd.2.1⟩, fun sig h => ?_, ok _ (by simp [wsV]), ok _ (by simp [wsV]), ok _ (by simp [wsV])⟩
  have h2 := hd.2.2
  rw [h] at h2
  exact (Option.some.inj h2).symm
theorem vx_runVW {y : MethodName} {bytes cc : ByteArray} {maxL nL mc ms n index : Nat} {ret : Option FieldType} {hh : List (Nat × Nat × Nat × Nat)} {ws : List Cond} {rm : Room} {Pc : Array Value → State → Prop} {Qc : Array Value → State → Outcome → State → Prop} {free : Addr → Prop} {Ts : List Cond} {own C : String} {b : Addr} {As rest : List Value} {g : JFrame}
    (S : CallFix p m c cc nL s args Ts own) (hM : Met l y ws rm Pc Qc mc ms free) (cw : vx_CVW R s args own C index y bytes maxL ret hh ws rm mc ms n) (hp : PreV s H C b Pc As)
    (hg : g.method = m) (hn : As.length = n) (hsize : g.locals.size = nL) (hstack : g.stack = As.reverse ++ .ref b :: rest) (hW : 2 * g.monitorRoom + (rest.map fun v => v.category).sum ≤ 8) (hdg : decode cc g.pc = .ok (.invokevirtual index, 3)) (hf : cells + mc ≤ R.cells ∧ slots + ms ≤ R.slots) :
    va_Run p l e R s m args below meth c H locs cells slots mc ms g rest (Qc (Value.ref b :: As).toArray) free := by
  obtain ⟨⟨hrc, hrs, hfr, hlo, hws, hcw⟩, hcode, hini, hy, hlen, hl, hin, hse⟩ := cw
  have hK : Back l R p e below s args y 3 8 (PreOf R mc ms Pc) (PostOf Qc mc ms free) := va_backW (hh := hh) (bytes := bytes) (maxL := maxL) (ret := ret) hM hp.1 hrc hrs hfr hlo hws hcw (fun a' U hW => word_at hW (Or.inl (by first | rfl | simp [Cond.onTables, Cond.keeps, Cond.steady])) hini)
  obtain ⟨hx, hb, hml, ho, -⟩ := S
  obtain ⟨-, ⟨cellB, hcB, hoB, hclB⟩, hPc⟩ := hp
  intro T hT X
  obtain ⟨v, vm₁, ⟨U', l2, c2, s2⟩, hW₁, X', ⟨g', mk, t, L, e1, e2, hq, h1, hL, h2, h3⟩, st⟩ := vx_callVW X hx (C := C) (hh := hh) (bytes := bytes) (maxL := maxL) (ret := ret) ho hl hin hse hcode hy hK (by rw [hT]; exact hcB) hoB hclB hg (hsize.trans hml.symm) (argsL := As) (rest := rest) (fun sig h => hn.trans (hlen sig h)) hstack hW (by rw [hb]; exact hdg)
    (fun vm₁ hW₁ => ⟨hf.1, hf.2, hPc (T.setVm vm₁) hT hW₁⟩)
  dsimp only [Pt.U, Pt.locs, Pt.cells, Pt.slots] at X' e1 e2 h1 h2 h3 st
  subst h1; subst h2; subst h3
  exact ⟨v, (T.setVm vm₁).calling g' mk (Value.ref b :: As).toArray, t, U', L, hT, X', hL, e1, e2, hq, st⟩
section
variable {y : MethodName} {bytes cc : ByteArray} {maxL nL mc ms n index : Nat} {ret : Option FieldType} {ws : List Cond} {rm : Room} {Pc : Array Value → State → Prop} {Qc : Array Value → State → Outcome → State → Prop} {XC : String → State → State → Prop} {free : Addr → Prop} {Ts : List Cond} {own C : String} {b : Addr} {As rest : List Value} {g : JFrame}
theorem vx_runVX {hh : List (Nat × Nat × Nat × Nat)} (S : CallFix p m c cc nL s args Ts own) (hM : vx_Met l y ws rm Pc Qc XC mc ms free) (cw : vx_CVW R s args own C index y bytes maxL ret hh ws rm mc ms n) (hp : PreV s H C b Pc As)
    (hg : g.method = m) (hn : As.length = n) (hsize : g.locals.size = nL) (hstack : g.stack = As.reverse ++ .ref b :: rest) (hW : 2 * g.monitorRoom + (rest.map fun v => v.category).sum ≤ 8) (hdg : decode cc g.pc = .ok (.invokevirtual index, 3)) (hf : cells + mc ≤ R.cells ∧ slots + ms ≤ R.slots) :
    vx_Run p l e R s m args below meth c H locs cells slots mc ms g rest (Qc (Value.ref b :: As).toArray) XC free := by
  obtain ⟨⟨hrc, hrs, hfr, hlo, hws, hcw⟩, hcode, hini, hy, hlen, hl, hin, hse⟩ := cw
  have hK : vx_Back l R p e below s args y 3 8 (PreOf R mc ms Pc) (PostOf Qc mc ms free) (vx_Post XC mc ms free) := vx_backW (hh := hh) (bytes := bytes) (maxL := maxL) (ret := ret) hM hp.1 hrc hrs hfr hlo hws hcw (fun a' U hW => word_at hW (Or.inl (by first | rfl | simp [Cond.onTables, Cond.keeps, Cond.steady])) hini)
  obtain ⟨hx, hb, hml, ho, -⟩ := S
  obtain ⟨-, ⟨cellB, hcB, hoB, hclB⟩, hPc⟩ := hp
  intro T hT X
  rcases vx_callVX X hx (C := C) (hh := hh) (bytes := bytes) (maxL := maxL) (ret := ret) ho hl hin hse hcode hy hK (by rw [hT]; exact hcB) hoB hclB hg (hsize.trans hml.symm) (argsL := As) (rest := rest) (fun sig h => hn.trans (hlen sig h)) hstack hW (by rw [hb]; exact hdg)
    (fun vm₁ hW₁ => ⟨hf.1, hf.2, hPc (T.setVm vm₁) hT hW₁⟩) with ⟨v, vm₁, ⟨U', l2, c2, s2⟩, hW₁, X', ⟨g', mk, t, L, e1, e2, hq, h1, hL, h2, h3⟩, st⟩ | ⟨q, vm₁, ⟨U', l2, c2, s2⟩, hW₁, X', ⟨g', mk, t, L, E, ce, e1, e2, hq, hce, hcv, hcl, h1, hL, h2, h3⟩, st⟩
  · dsimp only [Pt.U, Pt.locs, Pt.cells, Pt.slots] at X' e1 e2 h1 h2 h3 st
    subst h1; subst h2; subst h3
    exact Or.inl ⟨v, (T.setVm vm₁).calling g' mk (Value.ref b :: As).toArray, t, U', L, hT, X', hL, e1, e2, hq, st⟩
  · dsimp only [Pt.U, Pt.locs, Pt.cells, Pt.slots] at X' e1 e2 h1 h2 h3 st hcl
    subst h1; subst h2; subst h3
    exact Or.inr ⟨q, (T.setVm vm₁).calling g' mk (Value.ref b :: As).toArray, t, U', L, E, ce, hT, X', hL, e1, e2, hq, hce, hcv, vx_cls hW₁ hcl, st⟩
theorem vx_runSX {hh : List (Nat × Nat × Nat × Nat)} (S : CallFix p m c cc nL s args Ts own) (hM : vx_Met l y ws rm Pc Qc XC mc ms free) (cw : vx_CSW R s args own index y bytes maxL ret hh ws rm mc ms n) (hp : PreS s H Pc As)
    (hg : g.method = m) (hn : As.length = n) (hsize : g.locals.size = nL) (hstack : g.stack = As.reverse ++ rest) (hW : 2 * g.monitorRoom + (rest.map fun v => v.category).sum ≤ 8) (hdg : decode cc g.pc = .ok (.invokestatic index, 3)) (hf : cells + mc ≤ R.cells ∧ slots + ms ≤ R.slots) :
    vx_Run p l e R s m args below meth c H locs cells slots mc ms g rest (Qc As.toArray) XC free := by
  obtain ⟨⟨hrc, hrs, hfr, hlo, hws, hcw⟩, hcode, hini, hy, hlen, hl, hstt⟩ := cw
  have hK : vx_Back l R p e below s args y 3 8 (PreOf R mc ms Pc) (PostOf Qc mc ms free) (vx_Post XC mc ms free) := vx_backW (hh := hh) (bytes := bytes) (maxL := maxL) (ret := ret) hM hp.1 hrc hrs hfr hlo hws hcw (fun a' U hW => word_at hW (Or.inl (by first | rfl | simp [Cond.onTables, Cond.keeps, Cond.steady])) hini)
  obtain ⟨hx, hb, hml, ho, -⟩ := S
  intro T hT X
  rcases vx_callSX X hx (hh := hh) (bytes := bytes) (maxL := maxL) (ret := ret) ho hl hstt hini hcode hy hK hg (hsize.trans hml.symm) (argsL := As) (rest := rest) (fun sig h => hn.trans (hlen sig h)) hstack hW (by rw [hb]; exact hdg)
    (fun vm₁ hW₁ => ⟨hf.1, hf.2, hp.2 (T.setVm vm₁) hT hW₁⟩) with ⟨v, vm₁, ⟨U', l2, c2, s2⟩, hW₁, X', ⟨g', mk, t, L, e1, e2, hq, h1, hL, h2, h3⟩, st⟩ | ⟨q, vm₁, ⟨U', l2, c2, s2⟩, hW₁, X', ⟨g', mk, t, L, E, ce, e1, e2, hq, hce, hcv, hcl, h1, hL, h2, h3⟩, st⟩
  · dsimp only [Pt.U, Pt.locs, Pt.cells, Pt.slots] at X' e1 e2 h1 h2 h3 st
    subst h1; subst h2; subst h3
    exact Or.inl ⟨v, (T.setVm vm₁).calling g' mk As.toArray, t, U', L, hT, X', hL, e1, e2, hq, st⟩
  · dsimp only [Pt.U, Pt.locs, Pt.cells, Pt.slots] at X' e1 e2 h1 h2 h3 st hcl
    subst h1; subst h2; subst h3
    exact Or.inr ⟨q, (T.setVm vm₁).calling g' mk As.toArray, t, U', L, E, ce, hT, X', hL, e1, e2, hq, hce, hcv, vx_cls hW₁ hcl, st⟩
end
end VXH
theorem vx_ofWH {l : Launch} {y : MethodName} {ws ws' : List Cond} {rm : Room} {Pc : Array Value → State → Prop} {Qc : Array Value → State → Outcome → State → Prop} {XC : String → State → State → Prop} {mc ms : Nat} {free : Addr → Prop} {cc : ByteArray} {maxL : Nat} {ret : Option FieldType} {hh : List (Nat × Nat × Nat × Nat)}
    (hy : plainName y.cls = true) (hw : ws = Cond.codeWith y cc maxL ret hh :: ws')
    (body : ∀ p e s m args below meth c s₁, BodyLoose p l y (headSpec ws rm) cc maxL ret e s m args below meth c s₁ → c.maxLocals = maxL → Pc args s →
      W p l e (headSpec ws rm).room s m args below meth c s.heap [] 0 0 (vx_MQ below Qc XC args s mc ms free) (entryFrame m args maxL)) : vx_Met l y ws rm Pc Qc XC mc ms free := by
  refine MetFree.of_bodyS (code := cc) (maxLocals := maxL) (ret := ret) hy ?_ ?_
  · intro args s m h hn
    obtain ⟨m9, meth, c, hn9, h1, h2, h3, h4, -, h5, h6, -⟩ := Cond.codeWith_spec (atoms_spec (ws := ws) h _ (by rw [hw]; exact List.mem_cons_self))
    cases hn.symm.trans hn9
    exact ⟨meth, c, h1, h2, h3, h4, h5, h6⟩
  · intro p e s m args below meth c s₁ B hml hP _
    have hh0 : s₁.heap = s.heap := by rw [B.state]; rfl
    obtain ⟨t, a1, o, b1, b2, b3⟩ := body p e s m args below meth c s₁ B hml hP s₁ hh0 (Stand.of_body B)
    exact ⟨t, o, a1, b1, b2, b3⟩
/-! ===== END ===== -/

/-! ===== BEGIN a constructor that throws (launches without stack traces) ===== -/
section VXIA
variable {p : Program} {l : Launch} {e : Env} {R : Room} {s : State} {m : MethodId} {args : Array Value} {below : List Frame} {meth : Method} {c : Code} {T : State} {locs : List Loc} {cells slots : Nat}
theorem vx_callI (X : Stand p l e R s m args below meth c T locs cells slots) (hexec : p.tables.exec = Jvm.exec) {own : String} {index : Nat} {y : MethodName} {bytes : ByteArray} {maxL : Nat}
    (hown : s.vm.findClass own = some m.cls) (hy1 : y.name = "<init>") (hlink : (Cond.methodLink own index y).before args s = true) (hinst : (Cond.instanceMethod y).before args s = true)
    (hcode : (Cond.code y bytes maxL none).before args s = true) (hy : y.cls ≠ "java/lang/invoke/MethodHandle" ∧ y.cls ≠ "java/lang/invoke/VarHandle")
    {W9 : Nat} {Pre : Pt → Array Value → Prop} {Post : Pt → Array Value → Option Value → Pt → Prop} {PostX : Pt → Array Value → Addr → Pt → Prop} (hK : vx_Back l R p e below s args y 3 W9 Pre Post PostX)
    {g : JFrame} (hg : g.method = m) (hsize : g.locals.size = c.maxLocals) {a : Addr} {argsL rest : List Value} (hlen : ∀ sig, parseMethodDescriptor y.desc = some sig → argsL.length = sig.parameters.length)
    (hstack : g.stack = argsL.reverse ++ .ref a :: rest) (hW : 2 * g.monitorRoom + (rest.map fun v => v.category).sum ≤ W9) (hdg : decode c.code g.pc = .ok (.invokespecial index, 3))
    (hpre : ∀ vm₁, s.WarmedH vm₁ → Pre ⟨T.setVm vm₁, locs, cells, slots⟩ (Value.ref a :: argsL).toArray) :
    (∃ (v : Option Value) (vm₁ : Vm) (B : Pt), s.WarmedH vm₁ ∧ Stand p l e R s m args below meth c B.U B.locs B.cells B.slots ∧ Post ⟨T.setVm vm₁, locs, cells, slots⟩ (Value.ref a :: argsL).toArray v B ∧
      ∀ target, Steps p.tables e below (B.U.setTop { g with pc := g.pc + 3, stack := v.toList ++ rest }) target → Steps p.tables e below (T.setTop g) target) ∨
    (∃ (q : Addr) (vm₁ : Vm) (B : Pt), s.WarmedH vm₁ ∧ Stand p l e R s m args below meth c B.U B.locs B.cells B.slots ∧ PostX ⟨T.setVm vm₁, locs, cells, slots⟩ (Value.ref a :: argsL).toArray q B ∧
      Steps p.tables e below (T.setTop g) ((B.U.setTop { g with stack := rest }).pushFrame (.throwing q))) := by
  subst hg
  have hpl : e.platform.magicAccessors = ({} : Platform).magicAccessors := by rw [X.admits.platform]
  obtain ⟨mk, methM, cM, kP, vm₁, hnamed, hmethM, hcodeM, -, hlocalsM, -, hkP, -, hW₁, hstep₁⟩ := Steps.initColdArgs (e := e) X.here hexec X.warmed hpl hown hy1 hy hlink hinst hcode (f := g) rfl hlen hstack hdg
  have X₁ := X.noted hW₁
  rcases hK g.method meth c ⟨T.setVm vm₁, locs, cells, slots⟩ { g with stack := rest } (.invokespecial index) mk (Value.ref a :: argsL).toArray X₁ rfl hsize hdg hW (X₁.named hnamed) (hpre vm₁ X₁.warmed) with ⟨v, B, X', hpost, hsteps⟩ | ⟨q, B, X', hpost, hsteps⟩
  · exact Or.inl ⟨v, vm₁, B, X₁.warmed, X', hpost, fun target h => hstep₁ _ fun acts => by rw [doInvoke_state]; exact hsteps.trans h⟩
  · exact Or.inr ⟨q, vm₁, B, X₁.warmed, X', hpost, hstep₁ _ fun acts => by rw [doInvoke_state]; exact hsteps⟩
end VXIA
section VXIB
variable {p : Program} {l : Launch} {e : Env} {R : Room} {s : State} {m : MethodId} {args : Array Value} {below : List Frame} {meth : Method} {c : Code} {H : Heap} {locs : List Loc} {cells slots : Nat}
variable {y : MethodName} {bytes cc : ByteArray} {maxL nL mc ms n index : Nat} {ret : Option FieldType} {ws : List Cond} {rm : Room} {Pc : Array Value → State → Prop} {Qc : Array Value → State → Outcome → State → Prop} {XC : String → State → State → Prop} {free : Addr → Prop} {Ts : List Cond} {own C : String} {b : Addr} {As rest : List Value} {g : JFrame}
theorem vx_runI (S : CallFix p m c cc nL s args Ts own) (hM : vx_Met l y ws rm Pc Qc XC mc ms free) (cw : CallB R s args own index y bytes maxL none ws rm mc ms n ∧ y.name = "<init>" ∧ (Cond.instanceMethod y).before args s = true) (hp : PreS s H Pc (.ref b :: As))
    (hg : g.method = m) (hn : As.length = n) (hsize : g.locals.size = nL) (hstack : g.stack = As.reverse ++ .ref b :: rest) (hW : 2 * g.monitorRoom + (rest.map fun v => v.category).sum ≤ 8) (hdg : decode cc g.pc = .ok (.invokespecial index, 3)) (hf : cells + mc ≤ R.cells ∧ slots + ms ≤ R.slots) :
    vx_Run p l e R s m args below meth c H locs cells slots mc ms g rest (Qc (Value.ref b :: As).toArray) XC free := by
  have hK : vx_Back l R p e below s args y 3 8 (PreOf R mc ms Pc) (PostOf Qc mc ms free) (vx_Post XC mc ms free) := vx_callBack cw.1 hM hp.1
  obtain ⟨⟨-, -, -, -, -, -, hcode, -, hy, hlen, hl⟩, hy1, hin⟩ := cw
  obtain ⟨hx, hb, hml, ho, -⟩ := S
  have hPc := hp.2
  intro T hT X
  rcases vx_callI X hx (bytes := bytes) (maxL := maxL) ho hy1 hl hin hcode hy hK hg (hsize.trans hml.symm) (a := b) (argsL := As) (rest := rest) (fun sig h => hn.trans (hlen sig h)) hstack hW (by rw [hb]; exact hdg)
    (fun vm₁ hW₁ => ⟨hf.1, hf.2, hPc (T.setVm vm₁) hT hW₁⟩) with ⟨v, vm₁, ⟨U', l2, c2, s2⟩, hW₁, X', ⟨g', mk, t, L, e1, e2, hq, h1, hL, h2, h3⟩, st⟩ | ⟨q, vm₁, ⟨U', l2, c2, s2⟩, hW₁, X', ⟨g', mk, t, L, E, ce, e1, e2, hq, hce, hcv, hcl, h1, hL, h2, h3⟩, st⟩
  · dsimp only [Pt.U, Pt.locs, Pt.cells, Pt.slots] at X' e1 e2 h1 h2 h3 st
    subst h1; subst h2; subst h3
    exact Or.inl ⟨v, (T.setVm vm₁).calling g' mk (Value.ref b :: As).toArray, t, U', L, hT, X', hL, e1, e2, hq, st⟩
  · dsimp only [Pt.U, Pt.locs, Pt.cells, Pt.slots] at X' e1 e2 h1 h2 h3 st hcl
    subst h1; subst h2; subst h3
    exact Or.inr ⟨q, (T.setVm vm₁).calling g' mk (Value.ref b :: As).toArray, t, U', L, E, ce, hT, X', hL, e1, e2, hq, hce, hcv, vx_cls hW₁ hcl, st⟩
end VXIB
/-! ===== END ===== -/

/-! ===== BEGIN a private constructor of a nest mate that throws ===== -/
section VXIC
variable {p : Program} {l : Launch} {e : Env} {R : Room} {s : State} {m : MethodId} {args : Array Value} {below : List Frame} {meth : Method} {c : Code} {T : State} {locs : List Loc} {cells slots : Nat}
theorem vx_callIN (X : Stand p l e R s m args below meth c T locs cells slots) (hexec : p.tables.exec = Jvm.exec) {own : String} {index : Nat} {host : String} {y : MethodName} {bytes : ByteArray} {maxL : Nat}
    (hown : s.vm.findClass own = some m.cls) (hy1 : y.name = "<init>") (hlink : (Cond.methodLinkNest own index y host).before args s = true) (hinst : (Cond.instanceMethod y).before args s = true)
    (hcode : (Cond.code y bytes maxL none).before args s = true) (hy : y.cls ≠ "java/lang/invoke/MethodHandle" ∧ y.cls ≠ "java/lang/invoke/VarHandle")
    {W9 : Nat} {Pre : Pt → Array Value → Prop} {Post : Pt → Array Value → Option Value → Pt → Prop} {PostX : Pt → Array Value → Addr → Pt → Prop} (hK : vx_Back l R p e below s args y 3 W9 Pre Post PostX)
    {g : JFrame} (hg : g.method = m) (hsize : g.locals.size = c.maxLocals) {a : Addr} {argsL rest : List Value} (hlen : ∀ sig, parseMethodDescriptor y.desc = some sig → argsL.length = sig.parameters.length)
    (hstack : g.stack = argsL.reverse ++ .ref a :: rest) (hW : 2 * g.monitorRoom + (rest.map fun v => v.category).sum ≤ W9) (hdg : decode c.code g.pc = .ok (.invokespecial index, 3))
    (hpre : ∀ vm₁, s.WarmedH vm₁ → Pre ⟨T.setVm vm₁, locs, cells, slots⟩ (Value.ref a :: argsL).toArray) :
    (∃ (v : Option Value) (vm₁ : Vm) (B : Pt), s.WarmedH vm₁ ∧ Stand p l e R s m args below meth c B.U B.locs B.cells B.slots ∧ Post ⟨T.setVm vm₁, locs, cells, slots⟩ (Value.ref a :: argsL).toArray v B ∧
      ∀ target, Steps p.tables e below (B.U.setTop { g with pc := g.pc + 3, stack := v.toList ++ rest }) target → Steps p.tables e below (T.setTop g) target) ∨
    (∃ (q : Addr) (vm₁ : Vm) (B : Pt), s.WarmedH vm₁ ∧ Stand p l e R s m args below meth c B.U B.locs B.cells B.slots ∧ PostX ⟨T.setVm vm₁, locs, cells, slots⟩ (Value.ref a :: argsL).toArray q B ∧
      Steps p.tables e below (T.setTop g) ((B.U.setTop { g with stack := rest }).pushFrame (.throwing q))) := by
  subst hg
  have hpl : e.platform.magicAccessors = ({} : Platform).magicAccessors := by rw [X.admits.platform]
  obtain ⟨mk, methM, cM, kP, vm₁, hnamed, hmethM, hcodeM, -, hlocalsM, -, hkP, -, hW₁, hstep₁⟩ := Steps.initColdArgsNest (e := e) X.here hexec X.warmed hpl hown hy1 hy hlink hinst hcode (f := g) rfl hlen hstack hdg
  have X₁ := X.noted hW₁
  rcases hK g.method meth c ⟨T.setVm vm₁, locs, cells, slots⟩ { g with stack := rest } (.invokespecial index) mk (Value.ref a :: argsL).toArray X₁ rfl hsize hdg hW (X₁.named hnamed) (hpre vm₁ X₁.warmed) with ⟨v, B, X', hpost, hsteps⟩ | ⟨q, B, X', hpost, hsteps⟩
  · exact Or.inl ⟨v, vm₁, B, X₁.warmed, X', hpost, fun target h => hstep₁ _ fun acts => by rw [doInvoke_state]; exact hsteps.trans h⟩
  · exact Or.inr ⟨q, vm₁, B, X₁.warmed, X', hpost, hstep₁ _ fun acts => by rw [doInvoke_state]; exact hsteps⟩
end VXIC
section VXID
variable {p : Program} {l : Launch} {e : Env} {R : Room} {s : State} {m : MethodId} {args : Array Value} {below : List Frame} {meth : Method} {c : Code} {H : Heap} {locs : List Loc} {cells slots : Nat}
theorem vx_runIN {y : MethodName} {bytes cc : ByteArray} {maxL nL mc ms n index : Nat} {ws : List Cond} {rm : Room} {Pc : Array Value → State → Prop} {Qc : Array Value → State → Outcome → State → Prop} {XC : String → State → State → Prop} {free : Addr → Prop} {Ts : List Cond} {own host : String} {b : Addr} {As rest : List Value} {g : JFrame}
    (S : CallFix p m c cc nL s args Ts own) (hM : vx_Met l y ws rm Pc Qc XC mc ms free) (cw : va_CN R s args own index y host bytes maxL none ws rm mc ms n ∧ y.name = "<init>" ∧ (Cond.instanceMethod y).before args s = true) (hp : PreS s H Pc (.ref b :: As))
    (hg : g.method = m) (hn : As.length = n) (hsize : g.locals.size = nL) (hstack : g.stack = As.reverse ++ .ref b :: rest) (hW : 2 * g.monitorRoom + (rest.map fun v => v.category).sum ≤ 8) (hdg : decode cc g.pc = .ok (.invokespecial index, 3)) (hf : cells + mc ≤ R.cells ∧ slots + ms ≤ R.slots) :
    vx_Run p l e R s m args below meth c H locs cells slots mc ms g rest (Qc (Value.ref b :: As).toArray) XC free := by
  obtain ⟨⟨⟨hrc, hrs, hfr, hlo, hws, hcw⟩, hcode, hini, hy, hlen, hl⟩, hx1, hx2⟩ := cw
  have hK : vx_Back l R p e below s args y 3 8 (PreOf R mc ms Pc) (PostOf Qc mc ms free) (vx_Post XC mc ms free) := vx_back (bytes := bytes) (maxL := maxL) (ret := none) hM hp.1 hrc hrs hfr hlo hws hcw (fun a' U hW => word_at hW (Or.inl (by first | rfl | simp [Cond.onTables, Cond.keeps, Cond.steady])) hini)
  obtain ⟨hx, hb, hml, ho, -⟩ := S
  have hPc := hp.2
  intro T hT X
  rcases vx_callIN X hx (bytes := bytes) (maxL := maxL) ho hx1 hl hx2 hcode hy hK hg (hsize.trans hml.symm) (a := b) (argsL := As) (rest := rest) (fun sig h => hn.trans (hlen sig h)) hstack hW (by rw [hb]; exact hdg)
    (fun vm₁ hW₁ => ⟨hf.1, hf.2, hPc (T.setVm vm₁) hT hW₁⟩) with ⟨v, vm₁, ⟨U', l2, c2, s2⟩, hW₁, X', ⟨g', mk, t, L, e1, e2, hq, h1, hL, h2, h3⟩, st⟩ | ⟨q, vm₁, ⟨U', l2, c2, s2⟩, hW₁, X', ⟨g', mk, t, L, E, ce, e1, e2, hq, hce, hcv, hcl, h1, hL, h2, h3⟩, st⟩
  · dsimp only [Pt.U, Pt.locs, Pt.cells, Pt.slots] at X' e1 e2 h1 h2 h3 st
    subst h1; subst h2; subst h3
    exact Or.inl ⟨v, (T.setVm vm₁).calling g' mk (Value.ref b :: As).toArray, t, U', L, hT, X', hL, e1, e2, hq, st⟩
  · dsimp only [Pt.U, Pt.locs, Pt.cells, Pt.slots] at X' e1 e2 h1 h2 h3 st hcl
    subst h1; subst h2; subst h3
    exact Or.inr ⟨q, (T.setVm vm₁).calling g' mk (Value.ref b :: As).toArray, t, U', L, E, ce, hT, X', hL, e1, e2, hq, hce, hcv, vx_cls hW₁ hcl, st⟩
end VXID
/-! ===== END ===== -/

/-! ===== BEGIN a private method of a nest mate that may throw (follows va_callVN, va_callSN, va_runVN, va_runSN) ===== -/
section
variable {p : Program} {l : Launch} {e : Env} {R : Room} {s : State} {m : MethodId} {args : Array Value} {below : List Frame} {meth : Method} {c : Code} {H : Heap} {locs : List Loc} {cells slots : Nat}
variable {T : State}
theorem vx_callVN (X : Stand p l e R s m args below meth c T locs cells slots) (hexec : p.tables.exec = Jvm.exec) {own C : String} {index : Nat} {host : String} {y : MethodName} {bytes : ByteArray} {maxL : Nat} {ret : Option FieldType}
    (hown : s.vm.findClass own = some m.cls) (hlink : (Cond.methodLinkNest own index y host).before args s = true) (hinst : (Cond.instanceMethod y).before args s = true) (hsel : (Cond.selects C y y).before args s = true)
    (hcode : (Cond.code y bytes maxL ret).before args s = true) (hy : y.cls ≠ "java/lang/invoke/MethodHandle" ∧ y.cls ≠ "java/lang/invoke/VarHandle")
    {W : Nat} {Pre : Pt → Array Value → Prop} {Post : Pt → Array Value → Option Value → Pt → Prop} {PostX : Pt → Array Value → Addr → Pt → Prop} (hK : vx_Back l R p e below s args y 3 W Pre Post PostX)
    {b : Addr} {cellB : Cell} (hcell : T.heap[b]? = some cellB) (hobj : cellB.vm.isStatics = false) (hcls : s.vm.findClass C = some cellB.cls)
    {g : JFrame} (hg : g.method = m) (hsize : g.locals.size = c.maxLocals) {argsL rest : List Value} (hlen : ∀ sig, parseMethodDescriptor y.desc = some sig → argsL.length = sig.parameters.length)
    (hstack : g.stack = argsL.reverse ++ .ref b :: rest) (hW : 2 * g.monitorRoom + (rest.map fun v => v.category).sum ≤ W) (hdg : decode c.code g.pc = .ok (.invokevirtual index, 3))
    (hpre : ∀ vm₁, s.WarmedH vm₁ → Pre ⟨T.setVm vm₁, locs, cells, slots⟩ (Value.ref b :: argsL).toArray) :
    (∃ (v : Option Value) (vm₁ : Vm) (B : Pt), s.WarmedH vm₁ ∧ Stand p l e R s m args below meth c B.U B.locs B.cells B.slots ∧ Post ⟨T.setVm vm₁, locs, cells, slots⟩ (Value.ref b :: argsL).toArray v B ∧
      ∀ target, Steps p.tables e below (B.U.setTop { g with pc := g.pc + 3, stack := v.toList ++ rest }) target → Steps p.tables e below (T.setTop g) target) ∨
    (∃ (q : Addr) (vm₁ : Vm) (B : Pt), s.WarmedH vm₁ ∧ Stand p l e R s m args below meth c B.U B.locs B.cells B.slots ∧ PostX ⟨T.setVm vm₁, locs, cells, slots⟩ (Value.ref b :: argsL).toArray q B ∧
      Steps p.tables e below (T.setTop g) ((B.U.setTop { g with stack := rest }).pushFrame (.throwing q))) := by
  obtain ⟨mk, methM, hnamed, hmethM, hstM, habM⟩ := Cond.instanceMethod_spec hinst
  obtain ⟨methM', cM, hmethM', -, -, -, -, -, -, hsigM⟩ := Cond.code_spec hnamed hcode
  cases hmethM.symm.trans hmethM'
  obtain ⟨c2, r2, m2, q1, q2, q3, q4, kP, hkP, hkPi⟩ := Cond.selects_spec hsel
  cases hcls.symm.trans q1
  cases (State.methodFound?_of_named hnamed hy).symm.trans q2
  cases hnamed.symm.trans q3
  have hselP : selectMethod e.platform s.vm cellB.cls mk = .method mk := by rw [Launch.admits_selectMethod X.admits]; exact q4
  obtain ⟨vm₁, X₁, hstep₁⟩ := X.invokevirtualNest hexec hown hlink hnamed hmethM hstM hkP hkPi hy (a := b) (cell := cellB) hcell
    (fun z h => by rw [h] at hobj; cases hobj) hselP hmethM habM hkP hkPi (g := g) hg (argsL := argsL) (rest := rest) (hlen _ hsigM) hstack hdg
  rcases hK m meth c ⟨T.setVm vm₁, locs, cells, slots⟩ { g with stack := rest } (.invokevirtual index) mk (Value.ref b :: argsL).toArray X₁ hg hsize hdg hW (X₁.named hnamed) (hpre vm₁ X₁.warmed) with ⟨v, B, X', hpost, hsteps⟩ | ⟨q, B, X', hpost, hsteps⟩
  · exact Or.inl ⟨v, vm₁, B, X₁.warmed, X', hpost, fun target h => hstep₁ _ fun acts => by rw [doInvoke_state]; exact hsteps.trans h⟩
  · exact Or.inr ⟨q, vm₁, B, X₁.warmed, X', hpost, hstep₁ _ fun acts => by rw [doInvoke_state]; exact hsteps⟩
theorem vx_callSN (X : Stand p l e R s m args below meth c T locs cells slots) (hexec : p.tables.exec = Jvm.exec) {own : String} {index : Nat} {host : String} {y : MethodName} {bytes : ByteArray} {maxL : Nat} {ret : Option FieldType}
    (hown : s.vm.findClass own = some m.cls) (hlink : (Cond.methodLinkNest own index y host).before args s = true) (hstat : (Cond.static y).before args s = true) (hinit : (Cond.initialized y.cls).before args s = true)
    (hcode : (Cond.code y bytes maxL ret).before args s = true) (hy : y.cls ≠ "java/lang/invoke/MethodHandle" ∧ y.cls ≠ "java/lang/invoke/VarHandle")
    {W : Nat} {Pre : Pt → Array Value → Prop} {Post : Pt → Array Value → Option Value → Pt → Prop} {PostX : Pt → Array Value → Addr → Pt → Prop} (hK : vx_Back l R p e below s args y 3 W Pre Post PostX)
    {g : JFrame} (hg : g.method = m) (hsize : g.locals.size = c.maxLocals) {argsL rest : List Value} (hlen : ∀ sig, parseMethodDescriptor y.desc = some sig → argsL.length = sig.parameters.length)
    (hstack : g.stack = argsL.reverse ++ rest) (hW : 2 * g.monitorRoom + (rest.map fun v => v.category).sum ≤ W) (hdg : decode c.code g.pc = .ok (.invokestatic index, 3))
    (hpre : ∀ vm₁, s.WarmedH vm₁ → Pre ⟨T.setVm vm₁, locs, cells, slots⟩ argsL.toArray) :
    (∃ (v : Option Value) (vm₁ : Vm) (B : Pt), s.WarmedH vm₁ ∧ Stand p l e R s m args below meth c B.U B.locs B.cells B.slots ∧ Post ⟨T.setVm vm₁, locs, cells, slots⟩ argsL.toArray v B ∧
      ∀ target, Steps p.tables e below (B.U.setTop { g with pc := g.pc + 3, stack := v.toList ++ rest }) target → Steps p.tables e below (T.setTop g) target) ∨
    (∃ (q : Addr) (vm₁ : Vm) (B : Pt), s.WarmedH vm₁ ∧ Stand p l e R s m args below meth c B.U B.locs B.cells B.slots ∧ PostX ⟨T.setVm vm₁, locs, cells, slots⟩ argsL.toArray q B ∧
      Steps p.tables e below (T.setTop g) ((B.U.setTop { g with stack := rest }).pushFrame (.throwing q))) := by
  obtain ⟨mk, hnamed⟩ := Cond.code_named hcode
  obtain ⟨methM, cM, hmethM, -, -, -, -, -, -, hsigM⟩ := Cond.code_spec hnamed hcode
  have hstatic : methM.isStatic = true := Cond.static_spec hnamed hmethM hstat
  obtain ⟨kP, hkP, -⟩ := className_of_methodNamed hnamed
  have hinitP : kP.init = .initialized := Cond.initialized_spec (findClass_of_methodNamed hnamed) hkP hinit
  obtain ⟨vm₁, X₁, hstep₁⟩ := X.invokestaticNest hexec hown hlink hnamed hmethM hstatic hkP hinitP hy (g := g) hg (argsL := argsL) (rest := rest) (hlen _ hsigM) hstack hdg
  rcases hK m meth c ⟨T.setVm vm₁, locs, cells, slots⟩ { g with stack := rest } (.invokestatic index) mk argsL.toArray X₁ hg hsize hdg hW (X₁.named hnamed) (hpre vm₁ X₁.warmed) with ⟨v, B, X', hpost, hsteps⟩ | ⟨q, B, X', hpost, hsteps⟩
  · exact Or.inl ⟨v, vm₁, B, X₁.warmed, X', hpost, fun target h => hstep₁ _ fun acts => by rw [doInvoke_state]; exact hsteps.trans h⟩
  · exact Or.inr ⟨q, vm₁, B, X₁.warmed, X', hpost, hstep₁ _ fun acts => by rw [doInvoke_state]; exact hsteps⟩
theorem vx_runVN {y : MethodName} {bytes cc : ByteArray} {maxL nL mc ms n index : Nat} {ret : Option FieldType} {ws : List Cond} {rm : Room} {Pc : Array Value → State → Prop} {Qc : Array Value → State → Outcome → State → Prop} {XC : String → State → State → Prop} {free : Addr → Prop} {Ts : List Cond} {own C host : String} {b : Addr} {As rest : List Value} {g : JFrame}
    (S : CallFix p m c cc nL s args Ts own) (hM : vx_Met l y ws rm Pc Qc XC mc ms free) (cw : va_CN R s args own index y host bytes maxL ret ws rm mc ms n ∧ (Cond.instanceMethod y).before args s = true ∧ (Cond.selects C y y).before args s = true) (hp : PreV s H C b Pc As)
    (hg : g.method = m) (hn : As.length = n) (hsize : g.locals.size = nL) (hstack : g.stack = As.reverse ++ .ref b :: rest) (hW : 2 * g.monitorRoom + (rest.map fun v => v.category).sum ≤ 8) (hdg : decode cc g.pc = .ok (.invokevirtual index, 3)) (hf : cells + mc ≤ R.cells ∧ slots + ms ≤ R.slots) :
    vx_Run p l e R s m args below meth c H locs cells slots mc ms g rest (Qc (Value.ref b :: As).toArray) XC free := by
  obtain ⟨⟨⟨hrc, hrs, hfr, hlo, hws, hcw⟩, hcode, hini, hy, hlen, hl⟩, hx1, hx2⟩ := cw
  have hK : vx_Back l R p e below s args y 3 8 (PreOf R mc ms Pc) (PostOf Qc mc ms free) (vx_Post XC mc ms free) := vx_back (bytes := bytes) (maxL := maxL) (ret := ret) hM hp.1 hrc hrs hfr hlo hws hcw (fun a' U hW => word_at hW (Or.inl (by first | rfl | simp [Cond.onTables, Cond.keeps, Cond.steady])) hini)
  obtain ⟨hx, hb, hml, ho, -⟩ := S
  obtain ⟨-, ⟨cellB, hcB, hoB, hclB⟩, hPc⟩ := hp
  intro T hT X
  rcases vx_callVN X hx (C := C) (bytes := bytes) (maxL := maxL) (ret := ret) ho hl hx1 hx2 hcode hy hK (by rw [hT]; exact hcB) hoB hclB hg (hsize.trans hml.symm) (argsL := As) (rest := rest) (fun sig h => hn.trans (hlen sig h)) hstack hW (by rw [hb]; exact hdg)
    (fun vm₁ hW₁ => ⟨hf.1, hf.2, hPc (T.setVm vm₁) hT hW₁⟩) with ⟨v, vm₁, ⟨U', l2, c2, s2⟩, hW₁, X', ⟨g', mk, t, L, e1, e2, hq, h1, hL, h2, h3⟩, st⟩ | ⟨q, vm₁, ⟨U', l2, c2, s2⟩, hW₁, X', ⟨g', mk, t, L, E, ce, e1, e2, hq, hce, hcv, hcl, h1, hL, h2, h3⟩, st⟩
  · dsimp only [Pt.U, Pt.locs, Pt.cells, Pt.slots] at X' e1 e2 h1 h2 h3 st
    subst h1; subst h2; subst h3
    exact Or.inl ⟨v, (T.setVm vm₁).calling g' mk (Value.ref b :: As).toArray, t, U', L, hT, X', hL, e1, e2, hq, st⟩
  · dsimp only [Pt.U, Pt.locs, Pt.cells, Pt.slots] at X' e1 e2 h1 h2 h3 st hcl
    subst h1; subst h2; subst h3
    exact Or.inr ⟨q, (T.setVm vm₁).calling g' mk (Value.ref b :: As).toArray, t, U', L, E, ce, hT, X', hL, e1, e2, hq, hce, hcv, vx_cls hW₁ hcl, st⟩
theorem vx_runSN {y : MethodName} {bytes cc : ByteArray} {maxL nL mc ms n index : Nat} {ret : Option FieldType} {ws : List Cond} {rm : Room} {Pc : Array Value → State → Prop} {Qc : Array Value → State → Outcome → State → Prop} {XC : String → State → State → Prop} {free : Addr → Prop} {Ts : List Cond} {own host : String} {As rest : List Value} {g : JFrame}
    (S : CallFix p m c cc nL s args Ts own) (hM : vx_Met l y ws rm Pc Qc XC mc ms free) (cw : va_CN R s args own index y host bytes maxL ret ws rm mc ms n ∧ (Cond.static y).before args s = true ∧ True) (hp : PreS s H Pc As)
    (hg : g.method = m) (hn : As.length = n) (hsize : g.locals.size = nL) (hstack : g.stack = As.reverse ++ rest) (hW : 2 * g.monitorRoom + (rest.map fun v => v.category).sum ≤ 8) (hdg : decode cc g.pc = .ok (.invokestatic index, 3)) (hf : cells + mc ≤ R.cells ∧ slots + ms ≤ R.slots) :
    vx_Run p l e R s m args below meth c H locs cells slots mc ms g rest (Qc As.toArray) XC free := by
  obtain ⟨⟨⟨hrc, hrs, hfr, hlo, hws, hcw⟩, hcode, hini, hy, hlen, hl⟩, hx1, hx2⟩ := cw
  have hK : vx_Back l R p e below s args y 3 8 (PreOf R mc ms Pc) (PostOf Qc mc ms free) (vx_Post XC mc ms free) := vx_back (bytes := bytes) (maxL := maxL) (ret := ret) hM hp.1 hrc hrs hfr hlo hws hcw (fun a' U hW => word_at hW (Or.inl (by first | rfl | simp [Cond.onTables, Cond.keeps, Cond.steady])) hini)
  obtain ⟨hx, hb, hml, ho, -⟩ := S
  have hPc := hp.2
  intro T hT X
  rcases vx_callSN X hx (bytes := bytes) (maxL := maxL) (ret := ret) ho hl hx1 hini hcode hy hK hg (hsize.trans hml.symm) (argsL := As) (rest := rest) (fun sig h => hn.trans (hlen sig h)) hstack hW (by rw [hb]; exact hdg)
    (fun vm₁ hW₁ => ⟨hf.1, hf.2, hPc (T.setVm vm₁) hT hW₁⟩) with ⟨v, vm₁, ⟨U', l2, c2, s2⟩, hW₁, X', ⟨g', mk, t, L, e1, e2, hq, h1, hL, h2, h3⟩, st⟩ | ⟨q, vm₁, ⟨U', l2, c2, s2⟩, hW₁, X', ⟨g', mk, t, L, E, ce, e1, e2, hq, hce, hcv, hcl, h1, hL, h2, h3⟩, st⟩
  · dsimp only [Pt.U, Pt.locs, Pt.cells, Pt.slots] at X' e1 e2 h1 h2 h3 st
    subst h1; subst h2; subst h3
    exact Or.inl ⟨v, (T.setVm vm₁).calling g' mk As.toArray, t, U', L, hT, X', hL, e1, e2, hq, st⟩
  · dsimp only [Pt.U, Pt.locs, Pt.cells, Pt.slots] at X' e1 e2 h1 h2 h3 st hcl
    subst h1; subst h2; subst h3
    exact Or.inr ⟨q, (T.setVm vm₁).calling g' mk As.toArray, t, U', L, E, ce, hT, X', hL, e1, e2, hq, hce, hcv, vx_cls hW₁ hcl, st⟩
end
/-! ===== END ===== -/
end
section
def RX0 : String := "BulbShapes$Board"
def TX0 : u_T := fun k => match k with
  | 0 => ("BulbShapes$Board", "digits", "[I", true)
  | 1 => ("BulbShapes$Board", "burnt", "[I", true)
  | 2 => ("BulbShapes$Board", "hours", "[I", true)
  | 3 => ("BulbShapes$Board", "settings", "[I", true)
  | 4 => ("BulbShapes$Board", "hoursPassed", "I", false)
  | _ => ("BulbShapes$Board", "burntByHours", "I", false)
def tyX0 : Nat → FieldType := fun k => match k with
  | 0 => .array .int
  | 1 => .array .int
  | 2 => .array .int
  | 3 => .array .int
  | 4 => .int
  | _ => .int
theorem nmX0 : ∀ a, a < 6 → ∀ b, b < 6 → a ≠ b → (TX0 a).2.1 ≠ (TX0 b).2.1 := by decide +kernel
theorem tyX0_ok : ∀ k, k < 6 → parseFieldDescriptor (TX0 k).2.2.1 = some (tyX0 k) := by decide +kernel
abbrev cX0_init : ByteArray := prog_2_method_1_code
def yX0_init : MethodName := ⟨RX0, "<init>", "()V"⟩
abbrev cX0_copyFrom : ByteArray := prog_2_method_2_code
def yX0_copyFrom : MethodName := ⟨RX0, "copyFrom", "(LBulbShapes$Board;)V"⟩
abbrev cX0_setLamp : ByteArray := prog_2_method_3_code
def yX0_setLamp : MethodName := ⟨RX0, "setLamp", "(IIZ)V"⟩
abbrev cX0_hoursOf : ByteArray := prog_2_method_4_code
def yX0_hoursOf : MethodName := ⟨RX0, "hoursOf", "(II)I"⟩
abbrev cX0_addHours : ByteArray := prog_2_method_5_code
def yX0_addHours : MethodName := ⟨RX0, "addHours", "(III)V"⟩
def RX1 : String := "BulbShapes$History"
def TX1 : u_T := fun k => match k with
  | 0 => ("BulbShapes$History", "boards", "[LBulbShapes$Board;", true)
  | 1 => ("BulbShapes$History", "oldest", "I", false)
  | _ => ("BulbShapes$History", "held", "I", false)
def tyX1 : Nat → FieldType := fun k => match k with
  | 0 => .array (.object "BulbShapes$Board")
  | 1 => .int
  | _ => .int
theorem nmX1 : ∀ a, a < 3 → ∀ b, b < 3 → a ≠ b → (TX1 a).2.1 ≠ (TX1 b).2.1 := by decide +kernel
theorem tyX1_ok : ∀ k, k < 3 → parseFieldDescriptor (TX1 k).2.2.1 = some (tyX1 k) := by decide +kernel
abbrev cX1_init : ByteArray := prog_3_method_1_code
def yX1_init : MethodName := ⟨RX1, "<init>", "()V"⟩
abbrev cX1_save : ByteArray := prog_3_method_2_code
def yX1_save : MethodName := ⟨RX1, "save", "(LBulbShapes$Board;)V"⟩
abbrev cX1_restore : ByteArray := prog_3_method_3_code
def yX1_restore : MethodName := ⟨RX1, "restore", "(LBulbShapes$Board;)V"⟩
abbrev cX1_slot : ByteArray := prog_3_method_4_code
def yX1_slot : MethodName := ⟨RX1, "slot", "(I)I"⟩
def RX2 : String := "BulbShapes$Table"
def TX2 : u_T := fun k => match k with
  | 0 => ("BulbShapes$Table", "shapes", "[I", true)
  | 1 => ("BulbShapes$Table", "shown", "[I", true)
  | _ => ("BulbShapes$Table", "missing", "[I", true)
def tyX2 : Nat → FieldType := fun k => match k with
  | 0 => .array .int
  | 1 => .array .int
  | _ => .array .int
theorem nmX2 : ∀ a, a < 3 → ∀ b, b < 3 → a ≠ b → (TX2 a).2.1 ≠ (TX2 b).2.1 := by decide +kernel
theorem tyX2_ok : ∀ k, k < 3 → parseFieldDescriptor (TX2 k).2.2.1 = some (tyX2 k) := by decide +kernel
abbrev cX2_init : ByteArray := prog_4_method_1_code
def yX2_init : MethodName := ⟨RX2, "<init>", "()V"⟩
abbrev cX2_choose : ByteArray := prog_4_method_2_code
def yX2_choose : MethodName := ⟨RX2, "choose", "(II)V"⟩
abbrev cX2_chooseShape : ByteArray := prog_4_method_3_code
def yX2_chooseShape : MethodName := ⟨RX2, "chooseShape", "(III)V"⟩
abbrev cX2_isApart : ByteArray := prog_4_method_4_code
def yX2_isApart : MethodName := ⟨RX2, "isApart", "(III)Z"⟩
abbrev cX2_lampsOf : ByteArray := prog_4_method_5_code
def yX2_lampsOf : MethodName := ⟨RX2, "lampsOf", "(II)I"⟩
abbrev cX2_canShow : ByteArray := prog_4_method_6_code
def yX2_canShow : MethodName := ⟨RX2, "canShow", "(I)Z"⟩
abbrev cX2_shapeOf : ByteArray := prog_4_method_7_code
def yX2_shapeOf : MethodName := ⟨RX2, "shapeOf", "(I)I"⟩
abbrev cX2_shownOf : ByteArray := prog_4_method_8_code
def yX2_shownOf : MethodName := ⟨RX2, "shownOf", "(I)I"⟩
abbrev cX2_missingOf : ByteArray := prog_4_method_9_code
def yX2_missingOf : MethodName := ⟨RX2, "missingOf", "(I)I"⟩
abbrev cX2_digitsAsMask : ByteArray := prog_4_method_10_code
def yX2_digitsAsMask : MethodName := ⟨RX2, "digitsAsMask", "()I"⟩
abbrev cX2_hiddenDigits : ByteArray := prog_4_method_11_code
def yX2_hiddenDigits : MethodName := ⟨RX2, "hiddenDigits", "()I"⟩
abbrev cX2_firstHidden : ByteArray := prog_4_method_12_code
def yX2_firstHidden : MethodName := ⟨RX2, "firstHidden", "()I"⟩
abbrev cX2_leastDifference : ByteArray := prog_4_method_13_code
def yX2_leastDifference : MethodName := ⟨RX2, "leastDifference", "()I"⟩
abbrev cX2_digitsWith : ByteArray := prog_4_method_14_code
def yX2_digitsWith : MethodName := ⟨RX2, "digitsWith", "(I)I"⟩
abbrev cX2_changesFrom : ByteArray := prog_4_method_15_code
def yX2_changesFrom : MethodName := ⟨RX2, "changesFrom", "(LBulbShapes$Table;)I"⟩
abbrev cX2_nearestTo : ByteArray := prog_4_method_16_code
def yX2_nearestTo : MethodName := ⟨RX2, "nearestTo", "(I)I"⟩
def RX3 : String := "BulbShapes$Text"
def TX3 : u_T := fun k => match k with
  | 0 => ("BulbShapes$Text", "characters", "[C", true)
  | _ => ("BulbShapes$Text", "length", "I", false)
def tyX3 : Nat → FieldType := fun k => match k with
  | 0 => .array .char
  | _ => .int
theorem nmX3 : ∀ a, a < 2 → ∀ b, b < 2 → a ≠ b → (TX3 a).2.1 ≠ (TX3 b).2.1 := by decide +kernel
theorem tyX3_ok : ∀ k, k < 2 → parseFieldDescriptor (TX3 k).2.2.1 = some (tyX3 k) := by decide +kernel
abbrev cX3_init : ByteArray := prog_5_method_1_code
def yX3_init : MethodName := ⟨RX3, "<init>", "()V"⟩
def RX4 : String := "BulbShapes"
def TX4 : u_T := fun k => match k with
  | 0 => ("BulbShapes", "board", "LBulbShapes$Board;", true)
  | 1 => ("BulbShapes", "tables", "[LBulbShapes$Table;", true)
  | 2 => ("BulbShapes", "trial", "LBulbShapes$Table;", true)
  | 3 => ("BulbShapes", "text", "LBulbShapes$Text;", true)
  | _ => ("BulbShapes", "history", "LBulbShapes$History;", true)
def tyX4 : Nat → FieldType := fun k => match k with
  | 0 => .object "BulbShapes$Board"
  | 1 => .array (.object "BulbShapes$Table")
  | 2 => .object "BulbShapes$Table"
  | 3 => .object "BulbShapes$Text"
  | _ => .object "BulbShapes$History"
theorem nmX4 : ∀ a, a < 5 → ∀ b, b < 5 → a ≠ b → (TX4 a).2.1 ≠ (TX4 b).2.1 := by decide +kernel
theorem tyX4_ok : ∀ k, k < 5 → parseFieldDescriptor (TX4 k).2.2.1 = some (tyX4 k) := by decide +kernel
abbrev cX4_init : ByteArray := prog_1_method_1_code
def yX4_init : MethodName := ⟨RX4, "<init>", "()V"⟩
abbrev cX4_show : ByteArray := prog_1_method_2_code
def yX4_show : MethodName := ⟨RX4, "show", "(II)I"⟩
abbrev cX4_number : ByteArray := prog_1_method_3_code
def yX4_number : MethodName := ⟨RX4, "number", "(I)I"⟩
abbrev cX4_lamp : ByteArray := prog_1_method_4_code
def yX4_lamp : MethodName := ⟨RX4, "lamp", "(IIZ)I"⟩
abbrev cX4_mend : ByteArray := prog_1_method_5_code
def yX4_mend : MethodName := ⟨RX4, "mend", "(I)I"⟩
abbrev cX4_pass : ByteArray := prog_1_method_6_code
def yX4_pass : MethodName := ⟨RX4, "pass", "(I)I"⟩
abbrev cX4_set : ByteArray := prog_1_method_7_code
def yX4_set : MethodName := ⟨RX4, "set", "(II)I"⟩
abbrev cX4_undo : ByteArray := prog_1_method_12_code
def yX4_undo : MethodName := ⟨RX4, "undo", "()I"⟩
abbrev cX4_field : ByteArray := prog_1_method_13_code
def yX4_field : MethodName := ⟨RX4, "field", "(II)I"⟩
abbrev cX4_lampOf : ByteArray := prog_1_method_14_code
def yX4_lampOf : MethodName := ⟨RX4, "lampOf", "(III)I"⟩
abbrev cX4_table : ByteArray := prog_1_method_15_code
def yX4_table : MethodName := ⟨RX4, "table", "(III)I"⟩
abbrev cX4_read : ByteArray := prog_1_method_16_code
def yX4_read : MethodName := ⟨RX4, "read", "(II)I"⟩
abbrev cX4_count : ByteArray := prog_1_method_17_code
def yX4_count : MethodName := ⟨RX4, "count", "(I)I"⟩
abbrev cX4_setting : ByteArray := prog_1_method_18_code
def yX4_setting : MethodName := ⟨RX4, "setting", "(I)I"⟩
abbrev cX4_worstLamp : ByteArray := prog_1_method_20_code
def yX4_worstLamp : MethodName := ⟨RX4, "worstLamp", "(I)I"⟩
abbrev cX4_strictest : ByteArray := prog_1_method_21_code
def yX4_strictest : MethodName := ⟨RX4, "strictest", "(I)I"⟩
abbrev cX4_nextBurn : ByteArray := prog_1_method_22_code
def yX4_nextBurn : MethodName := ⟨RX4, "nextBurn", "()I"⟩
abbrev cX4_clarity : ByteArray := prog_1_method_23_code
def yX4_clarity : MethodName := ⟨RX4, "clarity", "()D"⟩
abbrev cX4_isField : ByteArray := prog_1_method_28_code
def yX4_isField : MethodName := ⟨RX4, "isField", "(I)Z"⟩
abbrev cX4_isLamp : ByteArray := prog_1_method_29_code
def yX4_isLamp : MethodName := ⟨RX4, "isLamp", "(I)Z"⟩
abbrev cX4_isDigit : ByteArray := prog_1_method_30_code
def yX4_isDigit : MethodName := ⟨RX4, "isDigit", "(I)Z"⟩
abbrev cX4_isSetting : ByteArray := prog_1_method_31_code
def yX4_isSetting : MethodName := ⟨RX4, "isSetting", "(I)Z"⟩
abbrev cX4_isValueOf : ByteArray := prog_1_method_32_code
def yX4_isValueOf : MethodName := ⟨RX4, "isValueOf", "(II)Z"⟩
abbrev cX4_maskOf : ByteArray := prog_1_method_33_code
def yX4_maskOf : MethodName := ⟨RX4, "maskOf", "(I)I"⟩
abbrev cX4_has : ByteArray := prog_1_method_34_code
def yX4_has : MethodName := ⟨RX4, "has", "(II)Z"⟩
abbrev cX4_digitAt : ByteArray := prog_1_method_35_code
def yX4_digitAt : MethodName := ⟨RX4, "digitAt", "(II)I"⟩
abbrev cX4_canShowNumber : ByteArray := prog_1_method_36_code
def yX4_canShowNumber : MethodName := ⟨RX4, "canShowNumber", "(I)Z"⟩
abbrev cX4_chooseTable : ByteArray := prog_1_method_37_code
def yX4_chooseTable : MethodName := ⟨RX4, "chooseTable", "(I)V"⟩
abbrev cX4_chooseAllTables : ByteArray := prog_1_method_38_code
def yX4_chooseAllTables : MethodName := ⟨RX4, "chooseAllTables", "()V"⟩
abbrev cX4_tryBurning : ByteArray := prog_1_method_39_code
def yX4_tryBurning : MethodName := ⟨RX4, "tryBurning", "(II)V"⟩
abbrev cX4_light : ByteArray := prog_1_method_40_code
def yX4_light : MethodName := ⟨RX4, "light", "(I)V"⟩
abbrev cX4_burnWorn : ByteArray := prog_1_method_41_code
def yX4_burnWorn : MethodName := ⟨RX4, "burnWorn", "()I"⟩
abbrev cX4_isWorn : ByteArray := prog_1_method_42_code
def yX4_isWorn : MethodName := ⟨RX4, "isWorn", "(II)Z"⟩
abbrev cX4_hoursUntilBurning : ByteArray := prog_1_method_43_code
def yX4_hoursUntilBurning : MethodName := ⟨RX4, "hoursUntilBurning", "(II)I"⟩
abbrev cX4_isShown : ByteArray := prog_1_method_45_code
def yX4_isShown : MethodName := ⟨RX4, "isShown", "(I)Z"⟩
abbrev cX4_litOf : ByteArray := prog_1_method_46_code
def yX4_litOf : MethodName := ⟨RX4, "litOf", "(I)I"⟩
abbrev cX4_burntLamps : ByteArray := prog_1_method_47_code
def yX4_burntLamps : MethodName := ⟨RX4, "burntLamps", "()I"⟩
abbrev cX4_litLamps : ByteArray := prog_1_method_48_code
def yX4_litLamps : MethodName := ⟨RX4, "litLamps", "()I"⟩
abbrev cX4_fieldsWithDigit : ByteArray := prog_1_method_49_code
def yX4_fieldsWithDigit : MethodName := ⟨RX4, "fieldsWithDigit", "()I"⟩
abbrev cX4_fieldsShown : ByteArray := prog_1_method_50_code
def yX4_fieldsShown : MethodName := ⟨RX4, "fieldsShown", "()I"⟩
abbrev cX4_numberShown : ByteArray := prog_1_method_51_code
def yX4_numberShown : MethodName := ⟨RX4, "numberShown", "()I"⟩
def RJ6 : String := "java/lang/Integer"
def TJ6 : u_T := fun k => match k with
  | _ => ("", "", "", false)
def tyJ6 : Nat → FieldType := fun k => match k with
  | _ => .int
theorem nmJ6 : ∀ a, a < 0 → ∀ b, b < 0 → a ≠ b → (TJ6 a).2.1 ≠ (TJ6 b).2.1 := by decide +kernel
theorem tyJ6_ok : ∀ k, k < 0 → parseFieldDescriptor (TJ6 k).2.2.1 = some (tyJ6 k) := by decide +kernel
abbrev cJ6_bitCount_0f7a4 : ByteArray := prog_12_method_49_code
def yJ6_bitCount_0f7a4 : MethodName := ⟨RJ6, "bitCount", "(I)I"⟩
def RL : String := "BulbShapesLaw"
abbrev cL_low : ByteArray := method_2_code
def yL_low : MethodName := ⟨RL, "low", "(II)I"⟩
abbrev cL_cell : ByteArray := method_3_code
def yL_cell : MethodName := ⟨RL, "cell", "([II)I"⟩
abbrev cL_ones : ByteArray := method_4_code
def yL_ones : MethodName := ⟨RL, "ones", "(I)I"⟩
abbrev cL_show : ByteArray := method_5_code
def yL_show : MethodName := ⟨RL, "show", "(LBulbShapes;II)I"⟩
abbrev cL_number : ByteArray := method_6_code
def yL_number : MethodName := ⟨RL, "number", "(LBulbShapes;I)I"⟩
abbrev cL_undo : ByteArray := method_7_code
def yL_undo : MethodName := ⟨RL, "undo", "(LBulbShapes;)I"⟩
abbrev cL_field : ByteArray := method_8_code
def yL_field : MethodName := ⟨RL, "field", "(LBulbShapes;I)Z"⟩
abbrev cL_board : ByteArray := method_9_code
def yL_board : MethodName := ⟨RL, "board", "(LBulbShapes;)Z"⟩
abbrev cL_act : ByteArray := method_10_code
def yL_act : MethodName := ⟨RL, "act", "(LBulbShapes;[II)I"⟩
abbrev cL_law : ByteArray := code
def yL_law : MethodName := ⟨RL, "law", "([I)Z"⟩
abbrev mm_cl : List vw_C := [(RX0, TX0, 6), (RX1, TX1, 3), (RX2, TX2, 3), (RX3, TX3, 2), (RX4, TX4, 5)]
end
section
/-! the program table of the mini machine, by my own program: instruction, next place, constant, numbers (targets, fields, callees, places of words) -/
abbrev mm_En : Type := Instr × Nat × Value × List Nat
def mm_k0 : Nat → Option mm_En := fun pc => (bif Nat.ble pc 35 then (bif Nat.ble pc 15 then (bif Nat.ble pc 6 then (bif Nat.ble pc 1 then (bif Nat.ble pc 0 then (bif Nat.beq pc 0 then some (.aload_n 0, 1, .null, [0]) else none) else (bif Nat.beq pc 1 then some (.invokespecial 3, 4, .null, [0, 46, 39, 40]) else none)) else (bif Nat.ble pc 4 then (bif Nat.beq pc 4 then some (.aload_n 0, 5, .null, [0]) else none) else (bif Nat.ble pc 5 then (bif Nat.beq pc 5 then some (.iconst 4, 6, .int 4, []) else none) else (bif Nat.beq pc 6 then some (.newarray .int, 8, .null, [10, 71]) else none)))) else (bif Nat.ble pc 11 then (bif Nat.ble pc 8 then (bif Nat.beq pc 8 then some (.putfield 9, 11, .null, [0, 0, 1, 0, 47, 1]) else none) else (bif Nat.beq pc 11 then some (.aload_n 0, 12, .null, [0]) else none)) else (bif Nat.ble pc 12 then (bif Nat.beq pc 12 then some (.iconst 4, 13, .int 4, []) else none) else (bif Nat.ble pc 13 then (bif Nat.beq pc 13 then some (.newarray .int, 15, .null, [10, 71]) else none) else (bif Nat.beq pc 15 then some (.putfield 15, 18, .null, [0, 1, 1, 0, 49, 1]) else none))))) else (bif Nat.ble pc 26 then (bif Nat.ble pc 19 then (bif Nat.ble pc 18 then (bif Nat.beq pc 18 then some (.aload_n 0, 19, .null, [0]) else none) else (bif Nat.beq pc 19 then some (.bipush 60, 21, .int 60, []) else none)) else (bif Nat.ble pc 21 then (bif Nat.beq pc 21 then some (.newarray .int, 23, .null, [10, 71]) else none) else (bif Nat.ble pc 23 then (bif Nat.beq pc 23 then some (.putfield 18, 26, .null, [0, 2, 1, 0, 51, 1]) else none) else (bif Nat.beq pc 26 then some (.aload_n 0, 27, .null, [0]) else none)))) else (bif Nat.ble pc 30 then (bif Nat.ble pc 27 then (bif Nat.beq pc 27 then some (.iconst 2, 28, .int 2, []) else none) else (bif Nat.ble pc 28 then (bif Nat.beq pc 28 then some (.newarray .int, 30, .null, [10, 71]) else none) else (bif Nat.beq pc 30 then some (.putfield 21, 33, .null, [0, 3, 1, 0, 52, 1]) else none))) else (bif Nat.ble pc 33 then (bif Nat.beq pc 33 then some (.aload_n 0, 34, .null, [0]) else none) else (bif Nat.ble pc 34 then (bif Nat.beq pc 34 then some (.iconst 0, 35, .int 0, []) else none) else (bif Nat.beq pc 35 then some (.putfield 24, 38, .null, [0, 4, 0, 0, 54, 0]) else none)))))) else (bif Nat.ble pc 51 then (bif Nat.ble pc 44 then (bif Nat.ble pc 39 then (bif Nat.ble pc 38 then (bif Nat.beq pc 38 then some (.aload_n 0, 39, .null, [0]) else none) else (bif Nat.beq pc 39 then some (.iconst 0, 40, .int 0, []) else none)) else (bif Nat.ble pc 40 then (bif Nat.beq pc 40 then some (.putfield 28, 43, .null, [0, 5, 0, 0, 56, 0]) else none) else (bif Nat.ble pc 43 then (bif Nat.beq pc 43 then some (.iconst 0, 44, .int 0, []) else none) else (bif Nat.beq pc 44 then some (.istore_n 1, 45, .null, [1]) else none)))) else (bif Nat.ble pc 46 then (bif Nat.ble pc 45 then (bif Nat.beq pc 45 then some (.iload_n 1, 46, .null, [1]) else none) else (bif Nat.beq pc 46 then some (.iconst 4, 47, .int 4, []) else none)) else (bif Nat.ble pc 47 then (bif Nat.beq pc 47 then some (.if_icmp .ge 16, 50, .null, [63]) else none) else (bif Nat.ble pc 50 then (bif Nat.beq pc 50 then some (.aload_n 0, 51, .null, [0]) else none) else (bif Nat.beq pc 51 then some (.getfield 9, 54, .null, [0, 0, 1, 0, 47, 1]) else none))))) else (bif Nat.ble pc 60 then (bif Nat.ble pc 55 then (bif Nat.ble pc 54 then (bif Nat.beq pc 54 then some (.iload_n 1, 55, .null, [1]) else none) else (bif Nat.beq pc 55 then some (.iconst (-1), 56, .int (-1), []) else none)) else (bif Nat.ble pc 56 then (bif Nat.beq pc 56 then some (.iastore, 57, .null, []) else none) else (bif Nat.ble pc 57 then (bif Nat.beq pc 57 then some (.iinc 1 1, 60, .int 1, [1]) else none) else (bif Nat.beq pc 60 then some (.goto (-15), 63, .null, [45]) else none)))) else (bif Nat.ble pc 67 then (bif Nat.ble pc 63 then (bif Nat.beq pc 63 then some (.aload_n 0, 64, .null, [0]) else none) else (bif Nat.ble pc 64 then (bif Nat.beq pc 64 then some (.getfield 21, 67, .null, [0, 3, 1, 0, 52, 1]) else none) else (bif Nat.beq pc 67 then some (.iconst 0, 68, .int 0, []) else none))) else (bif Nat.ble pc 68 then (bif Nat.beq pc 68 then some (.iconst 2, 69, .int 2, []) else none) else (bif Nat.ble pc 69 then (bif Nat.beq pc 69 then some (.iastore, 70, .null, []) else none) else (bif Nat.beq pc 70 then some (.return_, 71, .null, []) else none)))))))
def mm_k1 : Nat → Option mm_En := fun pc => (bif Nat.ble pc 33 then (bif Nat.ble pc 15 then (bif Nat.ble pc 6 then (bif Nat.ble pc 1 then (bif Nat.ble pc 0 then (bif Nat.beq pc 0 then some (.aload_n 1, 1, .null, [1]) else none) else (bif Nat.beq pc 1 then some (.getfield 9, 4, .null, [0, 0, 1, 0, 47, 1]) else none)) else (bif Nat.ble pc 4 then (bif Nat.beq pc 4 then some (.iconst 0, 5, .int 0, []) else none) else (bif Nat.ble pc 5 then (bif Nat.beq pc 5 then some (.aload_n 0, 6, .null, [0]) else none) else (bif Nat.beq pc 6 then some (.getfield 9, 9, .null, [0, 0, 1, 0, 47, 1]) else none)))) else (bif Nat.ble pc 10 then (bif Nat.ble pc 9 then (bif Nat.beq pc 9 then some (.iconst 0, 10, .int 0, []) else none) else (bif Nat.beq pc 10 then some (.iconst 4, 11, .int 4, []) else none)) else (bif Nat.ble pc 11 then (bif Nat.beq pc 11 then some (.invokestatic 31, 14, .null, [7, 448, 450, 449, 31]) else none) else (bif Nat.ble pc 14 then (bif Nat.beq pc 14 then some (.aload_n 1, 15, .null, [1]) else none) else (bif Nat.beq pc 15 then some (.getfield 15, 18, .null, [0, 1, 1, 0, 49, 1]) else none))))) else (bif Nat.ble pc 24 then (bif Nat.ble pc 19 then (bif Nat.ble pc 18 then (bif Nat.beq pc 18 then some (.iconst 0, 19, .int 0, []) else none) else (bif Nat.beq pc 19 then some (.aload_n 0, 20, .null, [0]) else none)) else (bif Nat.ble pc 20 then (bif Nat.beq pc 20 then some (.getfield 15, 23, .null, [0, 1, 1, 0, 49, 1]) else none) else (bif Nat.ble pc 23 then (bif Nat.beq pc 23 then some (.iconst 0, 24, .int 0, []) else none) else (bif Nat.beq pc 24 then some (.iconst 4, 25, .int 4, []) else none)))) else (bif Nat.ble pc 28 then (bif Nat.ble pc 25 then (bif Nat.beq pc 25 then some (.invokestatic 31, 28, .null, [7, 448, 450, 449, 31]) else none) else (bif Nat.beq pc 28 then some (.aload_n 1, 29, .null, [1]) else none)) else (bif Nat.ble pc 29 then (bif Nat.beq pc 29 then some (.getfield 18, 32, .null, [0, 2, 1, 0, 51, 1]) else none) else (bif Nat.ble pc 32 then (bif Nat.beq pc 32 then some (.iconst 0, 33, .int 0, []) else none) else (bif Nat.beq pc 33 then some (.aload_n 0, 34, .null, [0]) else none)))))) else (bif Nat.ble pc 52 then (bif Nat.ble pc 43 then (bif Nat.ble pc 37 then (bif Nat.ble pc 34 then (bif Nat.beq pc 34 then some (.getfield 18, 37, .null, [0, 2, 1, 0, 51, 1]) else none) else (bif Nat.beq pc 37 then some (.iconst 0, 38, .int 0, []) else none)) else (bif Nat.ble pc 38 then (bif Nat.beq pc 38 then some (.bipush 60, 40, .int 60, []) else none) else (bif Nat.ble pc 40 then (bif Nat.beq pc 40 then some (.invokestatic 31, 43, .null, [7, 448, 450, 449, 31]) else none) else (bif Nat.beq pc 43 then some (.aload_n 1, 44, .null, [1]) else none)))) else (bif Nat.ble pc 47 then (bif Nat.ble pc 44 then (bif Nat.beq pc 44 then some (.getfield 21, 47, .null, [0, 3, 1, 0, 52, 1]) else none) else (bif Nat.beq pc 47 then some (.iconst 0, 48, .int 0, []) else none)) else (bif Nat.ble pc 48 then (bif Nat.beq pc 48 then some (.aload_n 0, 49, .null, [0]) else none) else (bif Nat.ble pc 49 then (bif Nat.beq pc 49 then some (.getfield 21, 52, .null, [0, 3, 1, 0, 52, 1]) else none) else (bif Nat.beq pc 52 then some (.iconst 0, 53, .int 0, []) else none))))) else (bif Nat.ble pc 59 then (bif Nat.ble pc 54 then (bif Nat.ble pc 53 then (bif Nat.beq pc 53 then some (.iconst 2, 54, .int 2, []) else none) else (bif Nat.beq pc 54 then some (.invokestatic 31, 57, .null, [7, 448, 450, 449, 31]) else none)) else (bif Nat.ble pc 57 then (bif Nat.beq pc 57 then some (.aload_n 0, 58, .null, [0]) else none) else (bif Nat.ble pc 58 then (bif Nat.beq pc 58 then some (.aload_n 1, 59, .null, [1]) else none) else (bif Nat.beq pc 59 then some (.getfield 24, 62, .null, [0, 4, 0, 0, 54, 0]) else none)))) else (bif Nat.ble pc 66 then (bif Nat.ble pc 62 then (bif Nat.beq pc 62 then some (.putfield 24, 65, .null, [0, 4, 0, 0, 54, 0]) else none) else (bif Nat.ble pc 65 then (bif Nat.beq pc 65 then some (.aload_n 0, 66, .null, [0]) else none) else (bif Nat.beq pc 66 then some (.aload_n 1, 67, .null, [1]) else none))) else (bif Nat.ble pc 67 then (bif Nat.beq pc 67 then some (.getfield 28, 70, .null, [0, 5, 0, 0, 56, 0]) else none) else (bif Nat.ble pc 70 then (bif Nat.beq pc 70 then some (.putfield 28, 73, .null, [0, 5, 0, 0, 56, 0]) else none) else (bif Nat.beq pc 73 then some (.return_, 74, .null, []) else none)))))))
def mm_k2 : Nat → Option mm_En := fun pc => (bif Nat.ble pc 25 then (bif Nat.ble pc 11 then (bif Nat.ble pc 5 then (bif Nat.ble pc 1 then (bif Nat.ble pc 0 then (bif Nat.beq pc 0 then some (.iload_n 3, 1, .null, [3]) else none) else (bif Nat.beq pc 1 then some (.ifCond .eq 19, 4, .null, [20]) else none)) else (bif Nat.ble pc 4 then (bif Nat.beq pc 4 then some (.aload_n 0, 5, .null, [0]) else none) else (bif Nat.beq pc 5 then some (.getfield 15, 8, .null, [0, 1, 1, 0, 49, 1]) else none))) else (bif Nat.ble pc 9 then (bif Nat.ble pc 8 then (bif Nat.beq pc 8 then some (.iload_n 1, 9, .null, [1]) else none) else (bif Nat.beq pc 9 then some (.dup2, 10, .null, []) else none)) else (bif Nat.ble pc 10 then (bif Nat.beq pc 10 then some (.iaload, 11, .null, [0]) else none) else (bif Nat.beq pc 11 then some (.iload_n 2, 12, .null, [2]) else none)))) else (bif Nat.ble pc 17 then (bif Nat.ble pc 15 then (bif Nat.ble pc 12 then (bif Nat.beq pc 12 then some (.invokestatic 37, 15, .null, [5, 49, 1, 1, 99, 455, 296, 20, 295]) else none) else (bif Nat.beq pc 15 then some (.ior, 16, .null, []) else none)) else (bif Nat.ble pc 16 then (bif Nat.beq pc 16 then some (.iastore, 17, .null, []) else none) else (bif Nat.beq pc 17 then some (.goto 30, 20, .null, [47]) else none))) else (bif Nat.ble pc 21 then (bif Nat.ble pc 20 then (bif Nat.beq pc 20 then some (.aload_n 0, 21, .null, [0]) else none) else (bif Nat.beq pc 21 then some (.getfield 15, 24, .null, [0, 1, 1, 0, 49, 1]) else none)) else (bif Nat.ble pc 24 then (bif Nat.beq pc 24 then some (.iload_n 1, 25, .null, [1]) else none) else (bif Nat.beq pc 25 then some (.dup2, 26, .null, []) else none))))) else (bif Nat.ble pc 35 then (bif Nat.ble pc 31 then (bif Nat.ble pc 27 then (bif Nat.ble pc 26 then (bif Nat.beq pc 26 then some (.iaload, 27, .null, [0]) else none) else (bif Nat.beq pc 27 then some (.iload_n 2, 28, .null, [2]) else none)) else (bif Nat.ble pc 28 then (bif Nat.beq pc 28 then some (.invokestatic 37, 31, .null, [5, 49, 1, 1, 99, 455, 296, 20, 295]) else none) else (bif Nat.beq pc 31 then some (.iconst (-1), 32, .int (-1), []) else none))) else (bif Nat.ble pc 33 then (bif Nat.ble pc 32 then (bif Nat.beq pc 32 then some (.ixor, 33, .null, []) else none) else (bif Nat.beq pc 33 then some (.iand, 34, .null, []) else none)) else (bif Nat.ble pc 34 then (bif Nat.beq pc 34 then some (.iastore, 35, .null, []) else none) else (bif Nat.beq pc 35 then some (.aload_n 0, 36, .null, [0]) else none)))) else (bif Nat.ble pc 42 then (bif Nat.ble pc 39 then (bif Nat.ble pc 36 then (bif Nat.beq pc 36 then some (.getfield 18, 39, .null, [0, 2, 1, 0, 51, 1]) else none) else (bif Nat.beq pc 39 then some (.bipush 15, 41, .int 15, []) else none)) else (bif Nat.ble pc 41 then (bif Nat.beq pc 41 then some (.iload_n 1, 42, .null, [1]) else none) else (bif Nat.beq pc 42 then some (.imul, 43, .null, []) else none))) else (bif Nat.ble pc 44 then (bif Nat.ble pc 43 then (bif Nat.beq pc 43 then some (.iload_n 2, 44, .null, [2]) else none) else (bif Nat.beq pc 44 then some (.iadd, 45, .null, []) else none)) else (bif Nat.ble pc 45 then (bif Nat.beq pc 45 then some (.iconst 0, 46, .int 0, []) else none) else (bif Nat.ble pc 46 then (bif Nat.beq pc 46 then some (.iastore, 47, .null, []) else none) else (bif Nat.beq pc 47 then some (.return_, 48, .null, []) else none)))))))
def mm_k3 : Nat → Option mm_En := fun pc => (bif Nat.ble pc 6 then (bif Nat.ble pc 1 then (bif Nat.ble pc 0 then (bif Nat.beq pc 0 then some (.aload_n 0, 1, .null, [0]) else none) else (bif Nat.beq pc 1 then some (.getfield 18, 4, .null, [0, 2, 1, 0, 51, 1]) else none)) else (bif Nat.ble pc 4 then (bif Nat.beq pc 4 then some (.bipush 15, 6, .int 15, []) else none) else (bif Nat.beq pc 6 then some (.iload_n 1, 7, .null, [1]) else none))) else (bif Nat.ble pc 8 then (bif Nat.ble pc 7 then (bif Nat.beq pc 7 then some (.imul, 8, .null, []) else none) else (bif Nat.beq pc 8 then some (.iload_n 2, 9, .null, [2]) else none)) else (bif Nat.ble pc 9 then (bif Nat.beq pc 9 then some (.iadd, 10, .null, []) else none) else (bif Nat.ble pc 10 then (bif Nat.beq pc 10 then some (.iaload, 11, .null, [0]) else none) else (bif Nat.beq pc 11 then some (.ireturn, 12, .null, [0]) else none)))))
def mm_k4 : Nat → Option mm_En := fun pc => (bif Nat.ble pc 8 then (bif Nat.ble pc 4 then (bif Nat.ble pc 0 then (bif Nat.beq pc 0 then some (.aload_n 0, 1, .null, [0]) else none) else (bif Nat.ble pc 1 then (bif Nat.beq pc 1 then some (.getfield 18, 4, .null, [0, 2, 1, 0, 51, 1]) else none) else (bif Nat.beq pc 4 then some (.bipush 15, 6, .int 15, []) else none))) else (bif Nat.ble pc 6 then (bif Nat.beq pc 6 then some (.iload_n 1, 7, .null, [1]) else none) else (bif Nat.ble pc 7 then (bif Nat.beq pc 7 then some (.imul, 8, .null, []) else none) else (bif Nat.beq pc 8 then some (.iload_n 2, 9, .null, [2]) else none)))) else (bif Nat.ble pc 11 then (bif Nat.ble pc 9 then (bif Nat.beq pc 9 then some (.iadd, 10, .null, []) else none) else (bif Nat.ble pc 10 then (bif Nat.beq pc 10 then some (.dup2, 11, .null, []) else none) else (bif Nat.beq pc 11 then some (.iaload, 12, .null, [0]) else none))) else (bif Nat.ble pc 13 then (bif Nat.ble pc 12 then (bif Nat.beq pc 12 then some (.iload_n 3, 13, .null, [3]) else none) else (bif Nat.beq pc 13 then some (.iadd, 14, .null, []) else none)) else (bif Nat.ble pc 14 then (bif Nat.beq pc 14 then some (.iastore, 15, .null, []) else none) else (bif Nat.beq pc 15 then some (.return_, 16, .null, []) else none)))))
def mm_k5 : Nat → Option mm_En := fun pc => (bif Nat.ble pc 23 then (bif Nat.ble pc 10 then (bif Nat.ble pc 4 then (bif Nat.ble pc 0 then (bif Nat.beq pc 0 then some (.aload_n 0, 1, .null, [0]) else none) else (bif Nat.ble pc 1 then (bif Nat.beq pc 1 then some (.invokespecial 3, 4, .null, [0, 108, 39, 40]) else none) else (bif Nat.beq pc 4 then some (.aload_n 0, 5, .null, [0]) else none))) else (bif Nat.ble pc 5 then (bif Nat.beq pc 5 then some (.bipush 6, 7, .int 6, []) else none) else (bif Nat.ble pc 7 then (bif Nat.beq pc 7 then some (.anewarray 9, 10, .null, [14, 109, 110]) else none) else (bif Nat.beq pc 10 then some (.putfield 11, 13, .null, [1, 0, 1, 0, 112, 1]) else none)))) else (bif Nat.ble pc 15 then (bif Nat.ble pc 13 then (bif Nat.beq pc 13 then some (.aload_n 0, 14, .null, [0]) else none) else (bif Nat.ble pc 14 then (bif Nat.beq pc 14 then some (.iconst 0, 15, .int 0, []) else none) else (bif Nat.beq pc 15 then some (.putfield 17, 18, .null, [1, 1, 0, 0, 113, 0]) else none))) else (bif Nat.ble pc 19 then (bif Nat.ble pc 18 then (bif Nat.beq pc 18 then some (.aload_n 0, 19, .null, [0]) else none) else (bif Nat.beq pc 19 then some (.iconst 0, 20, .int 0, []) else none)) else (bif Nat.ble pc 20 then (bif Nat.beq pc 20 then some (.putfield 21, 23, .null, [1, 2, 0, 0, 114, 0]) else none) else (bif Nat.beq pc 23 then some (.iconst 0, 24, .int 0, []) else none))))) else (bif Nat.ble pc 35 then (bif Nat.ble pc 26 then (bif Nat.ble pc 24 then (bif Nat.beq pc 24 then some (.istore_n 1, 25, .null, [1]) else none) else (bif Nat.ble pc 25 then (bif Nat.beq pc 25 then some (.iload_n 1, 26, .null, [1]) else none) else (bif Nat.beq pc 26 then some (.bipush 6, 28, .int 6, []) else none))) else (bif Nat.ble pc 31 then (bif Nat.ble pc 28 then (bif Nat.beq pc 28 then some (.if_icmp .ge 22, 31, .null, [50]) else none) else (bif Nat.beq pc 31 then some (.aload_n 0, 32, .null, [0]) else none)) else (bif Nat.ble pc 32 then (bif Nat.beq pc 32 then some (.getfield 11, 35, .null, [1, 0, 1, 0, 112, 1]) else none) else (bif Nat.beq pc 35 then some (.iload_n 1, 36, .null, [1]) else none)))) else (bif Nat.ble pc 40 then (bif Nat.ble pc 36 then (bif Nat.beq pc 36 then some (.new 9, 39, .null, [0, 0, 6, 109, 42, 21]) else none) else (bif Nat.ble pc 39 then (bif Nat.beq pc 39 then some (.dup, 40, .null, []) else none) else (bif Nat.beq pc 40 then some (.invokespecial 24, 43, .null, [3, 0, 1, 2, 0, 111, 45, 21, 44]) else none))) else (bif Nat.ble pc 44 then (bif Nat.ble pc 43 then (bif Nat.beq pc 43 then some (.aastore, 44, .null, []) else none) else (bif Nat.beq pc 44 then some (.iinc 1 1, 47, .int 1, [1]) else none)) else (bif Nat.ble pc 47 then (bif Nat.beq pc 47 then some (.goto (-22), 50, .null, [25]) else none) else (bif Nat.beq pc 50 then some (.return_, 51, .null, []) else none))))))
def mm_k6 : Nat → Option mm_En := fun pc => (bif Nat.ble pc 23 then (bif Nat.ble pc 9 then (bif Nat.ble pc 4 then (bif Nat.ble pc 0 then (bif Nat.beq pc 0 then some (.aload_n 0, 1, .null, [0]) else none) else (bif Nat.ble pc 1 then (bif Nat.beq pc 1 then some (.getfield 11, 4, .null, [1, 0, 1, 0, 112, 1]) else none) else (bif Nat.beq pc 4 then some (.aload_n 0, 5, .null, [0]) else none))) else (bif Nat.ble pc 5 then (bif Nat.beq pc 5 then some (.aload_n 0, 6, .null, [0]) else none) else (bif Nat.ble pc 6 then (bif Nat.beq pc 6 then some (.getfield 21, 9, .null, [1, 2, 0, 0, 114, 0]) else none) else (bif Nat.beq pc 9 then some (.invokevirtual 25, 12, .null, [1, 8, 2, 2, 1, 440, 443, 24, 442, 15]) else none)))) else (bif Nat.ble pc 14 then (bif Nat.ble pc 12 then (bif Nat.beq pc 12 then some (.aaload, 13, .null, []) else none) else (bif Nat.ble pc 13 then (bif Nat.beq pc 13 then some (.aload_n 1, 14, .null, [1]) else none) else (bif Nat.beq pc 14 then some (.invokevirtual 29, 17, .null, [1, 1, 2, 2, 0, 444, 447, 21, 445, 446]) else none))) else (bif Nat.ble pc 18 then (bif Nat.ble pc 17 then (bif Nat.beq pc 17 then some (.aload_n 0, 18, .null, [0]) else none) else (bif Nat.beq pc 18 then some (.getfield 21, 21, .null, [1, 2, 0, 0, 114, 0]) else none)) else (bif Nat.ble pc 21 then (bif Nat.beq pc 21 then some (.bipush 6, 23, .int 6, []) else none) else (bif Nat.beq pc 23 then some (.if_icmp .ge 16, 26, .null, [39]) else none))))) else (bif Nat.ble pc 33 then (bif Nat.ble pc 28 then (bif Nat.ble pc 26 then (bif Nat.beq pc 26 then some (.aload_n 0, 27, .null, [0]) else none) else (bif Nat.ble pc 27 then (bif Nat.beq pc 27 then some (.dup, 28, .null, []) else none) else (bif Nat.beq pc 28 then some (.getfield 21, 31, .null, [1, 2, 0, 0, 114, 0]) else none))) else (bif Nat.ble pc 31 then (bif Nat.beq pc 31 then some (.iconst 1, 32, .int 1, []) else none) else (bif Nat.ble pc 32 then (bif Nat.beq pc 32 then some (.iadd, 33, .null, []) else none) else (bif Nat.beq pc 33 then some (.putfield 21, 36, .null, [1, 2, 0, 0, 114, 0]) else none)))) else (bif Nat.ble pc 40 then (bif Nat.ble pc 36 then (bif Nat.beq pc 36 then some (.goto 12, 39, .null, [48]) else none) else (bif Nat.ble pc 39 then (bif Nat.beq pc 39 then some (.aload_n 0, 40, .null, [0]) else none) else (bif Nat.beq pc 40 then some (.aload_n 0, 41, .null, [0]) else none))) else (bif Nat.ble pc 42 then (bif Nat.ble pc 41 then (bif Nat.beq pc 41 then some (.iconst 1, 42, .int 1, []) else none) else (bif Nat.beq pc 42 then some (.invokevirtual 25, 45, .null, [1, 8, 2, 2, 1, 440, 443, 24, 442, 15]) else none)) else (bif Nat.ble pc 45 then (bif Nat.beq pc 45 then some (.putfield 17, 48, .null, [1, 1, 0, 0, 113, 0]) else none) else (bif Nat.beq pc 48 then some (.return_, 49, .null, []) else none))))))
def mm_k7 : Nat → Option mm_En := fun pc => (bif Nat.ble pc 14 then (bif Nat.ble pc 7 then (bif Nat.ble pc 1 then (bif Nat.ble pc 0 then (bif Nat.beq pc 0 then some (.aload_n 0, 1, .null, [0]) else none) else (bif Nat.beq pc 1 then some (.getfield 21, 4, .null, [1, 2, 0, 0, 114, 0]) else none)) else (bif Nat.ble pc 4 then (bif Nat.beq pc 4 then some (.ifCond .le 30, 7, .null, [34]) else none) else (bif Nat.beq pc 7 then some (.aload_n 0, 8, .null, [0]) else none))) else (bif Nat.ble pc 9 then (bif Nat.ble pc 8 then (bif Nat.beq pc 8 then some (.dup, 9, .null, []) else none) else (bif Nat.beq pc 9 then some (.getfield 21, 12, .null, [1, 2, 0, 0, 114, 0]) else none)) else (bif Nat.ble pc 12 then (bif Nat.beq pc 12 then some (.iconst 1, 13, .int 1, []) else none) else (bif Nat.ble pc 13 then (bif Nat.beq pc 13 then some (.isub, 14, .null, []) else none) else (bif Nat.beq pc 14 then some (.putfield 21, 17, .null, [1, 2, 0, 0, 114, 0]) else none))))) else (bif Nat.ble pc 23 then (bif Nat.ble pc 18 then (bif Nat.ble pc 17 then (bif Nat.beq pc 17 then some (.aload_n 1, 18, .null, [1]) else none) else (bif Nat.beq pc 18 then some (.aload_n 0, 19, .null, [0]) else none)) else (bif Nat.ble pc 19 then (bif Nat.beq pc 19 then some (.getfield 11, 22, .null, [1, 0, 1, 0, 112, 1]) else none) else (bif Nat.ble pc 22 then (bif Nat.beq pc 22 then some (.aload_n 0, 23, .null, [0]) else none) else (bif Nat.beq pc 23 then some (.aload_n 0, 24, .null, [0]) else none)))) else (bif Nat.ble pc 27 then (bif Nat.ble pc 24 then (bif Nat.beq pc 24 then some (.getfield 21, 27, .null, [1, 2, 0, 0, 114, 0]) else none) else (bif Nat.beq pc 27 then some (.invokevirtual 25, 30, .null, [1, 8, 2, 2, 1, 440, 443, 24, 442, 15]) else none)) else (bif Nat.ble pc 30 then (bif Nat.beq pc 30 then some (.aaload, 31, .null, []) else none) else (bif Nat.ble pc 31 then (bif Nat.beq pc 31 then some (.invokevirtual 29, 34, .null, [1, 1, 2, 2, 0, 444, 447, 21, 445, 446]) else none) else (bif Nat.beq pc 34 then some (.return_, 35, .null, []) else none))))))
def mm_k8 : Nat → Option mm_En := fun pc => (bif Nat.ble pc 4 then (bif Nat.ble pc 0 then (bif Nat.beq pc 0 then some (.aload_n 0, 1, .null, [0]) else none) else (bif Nat.ble pc 1 then (bif Nat.beq pc 1 then some (.getfield 17, 4, .null, [1, 1, 0, 0, 113, 0]) else none) else (bif Nat.beq pc 4 then some (.iload_n 1, 5, .null, [1]) else none))) else (bif Nat.ble pc 6 then (bif Nat.ble pc 5 then (bif Nat.beq pc 5 then some (.iadd, 6, .null, []) else none) else (bif Nat.beq pc 6 then some (.bipush 6, 8, .int 6, []) else none)) else (bif Nat.ble pc 8 then (bif Nat.beq pc 8 then some (.irem, 9, .null, []) else none) else (bif Nat.beq pc 9 then some (.ireturn, 10, .null, [0]) else none))))
def mm_k9 : Nat → Option mm_En := fun pc => (bif Nat.ble pc 12 then (bif Nat.ble pc 4 then (bif Nat.ble pc 0 then (bif Nat.beq pc 0 then some (.aload_n 0, 1, .null, [0]) else none) else (bif Nat.ble pc 1 then (bif Nat.beq pc 1 then some (.invokespecial 3, 4, .null, [0, 78, 39, 40]) else none) else (bif Nat.beq pc 4 then some (.aload_n 0, 5, .null, [0]) else none))) else (bif Nat.ble pc 7 then (bif Nat.ble pc 5 then (bif Nat.beq pc 5 then some (.bipush 10, 7, .int 10, []) else none) else (bif Nat.beq pc 7 then some (.newarray .int, 9, .null, [10, 71]) else none)) else (bif Nat.ble pc 9 then (bif Nat.beq pc 9 then some (.putfield 9, 12, .null, [2, 0, 1, 0, 79, 1]) else none) else (bif Nat.beq pc 12 then some (.aload_n 0, 13, .null, [0]) else none)))) else (bif Nat.ble pc 20 then (bif Nat.ble pc 15 then (bif Nat.ble pc 13 then (bif Nat.beq pc 13 then some (.bipush 10, 15, .int 10, []) else none) else (bif Nat.beq pc 15 then some (.newarray .int, 17, .null, [10, 71]) else none)) else (bif Nat.ble pc 17 then (bif Nat.beq pc 17 then some (.putfield 15, 20, .null, [2, 1, 1, 0, 80, 1]) else none) else (bif Nat.beq pc 20 then some (.aload_n 0, 21, .null, [0]) else none))) else (bif Nat.ble pc 23 then (bif Nat.ble pc 21 then (bif Nat.beq pc 21 then some (.bipush 10, 23, .int 10, []) else none) else (bif Nat.beq pc 23 then some (.newarray .int, 25, .null, [10, 71]) else none)) else (bif Nat.ble pc 25 then (bif Nat.beq pc 25 then some (.putfield 18, 28, .null, [2, 2, 1, 0, 81, 1]) else none) else (bif Nat.beq pc 28 then some (.return_, 29, .null, []) else none)))))
def mm_k10 : Nat → Option mm_En := fun pc => (bif Nat.ble pc 8 then (bif Nat.ble pc 2 then (bif Nat.ble pc 0 then (bif Nat.beq pc 0 then some (.iconst 0, 1, .int 0, []) else none) else (bif Nat.ble pc 1 then (bif Nat.beq pc 1 then some (.istore_n 3, 2, .null, [3]) else none) else (bif Nat.beq pc 2 then some (.iload_n 3, 3, .null, [3]) else none))) else (bif Nat.ble pc 3 then (bif Nat.beq pc 3 then some (.bipush 10, 5, .int 10, []) else none) else (bif Nat.ble pc 5 then (bif Nat.beq pc 5 then some (.if_icmp .ge 16, 8, .null, [21]) else none) else (bif Nat.beq pc 8 then some (.aload_n 0, 9, .null, [0]) else none)))) else (bif Nat.ble pc 11 then (bif Nat.ble pc 9 then (bif Nat.beq pc 9 then some (.iload_n 3, 10, .null, [3]) else none) else (bif Nat.ble pc 10 then (bif Nat.beq pc 10 then some (.iload_n 1, 11, .null, [1]) else none) else (bif Nat.beq pc 11 then some (.iload_n 2, 12, .null, [2]) else none))) else (bif Nat.ble pc 15 then (bif Nat.ble pc 12 then (bif Nat.beq pc 12 then some (.invokevirtual 21, 15, .null, [1, 11, 4, 8, 2, 135, 138, 22, 137, 2]) else none) else (bif Nat.beq pc 15 then some (.iinc 3 1, 18, .int 1, [3]) else none)) else (bif Nat.ble pc 18 then (bif Nat.beq pc 18 then some (.goto (-16), 21, .null, [2]) else none) else (bif Nat.beq pc 21 then some (.return_, 22, .null, []) else none)))))
def mm_k11 : Nat → Option mm_En := fun pc => (bif Nat.ble pc 63 then (bif Nat.ble pc 26 then (bif Nat.ble pc 12 then (bif Nat.ble pc 5 then (bif Nat.ble pc 1 then (bif Nat.ble pc 0 then (bif Nat.beq pc 0 then some (.aload_n 0, 1, .null, [0]) else none) else (bif Nat.beq pc 1 then some (.getfield 9, 4, .null, [2, 0, 1, 0, 79, 1]) else none)) else (bif Nat.ble pc 4 then (bif Nat.beq pc 4 then some (.iload_n 1, 5, .null, [1]) else none) else (bif Nat.beq pc 5 then some (.iconst (-1), 6, .int (-1), []) else none))) else (bif Nat.ble pc 7 then (bif Nat.ble pc 6 then (bif Nat.beq pc 6 then some (.iastore, 7, .null, []) else none) else (bif Nat.beq pc 7 then some (.aload_n 0, 8, .null, [0]) else none)) else (bif Nat.ble pc 8 then (bif Nat.beq pc 8 then some (.getfield 15, 11, .null, [2, 1, 1, 0, 80, 1]) else none) else (bif Nat.ble pc 11 then (bif Nat.beq pc 11 then some (.iload_n 1, 12, .null, [1]) else none) else (bif Nat.beq pc 12 then some (.iconst (-1), 13, .int (-1), []) else none))))) else (bif Nat.ble pc 19 then (bif Nat.ble pc 14 then (bif Nat.ble pc 13 then (bif Nat.beq pc 13 then some (.iastore, 14, .null, []) else none) else (bif Nat.beq pc 14 then some (.aload_n 0, 15, .null, [0]) else none)) else (bif Nat.ble pc 15 then (bif Nat.beq pc 15 then some (.getfield 18, 18, .null, [2, 2, 1, 0, 81, 1]) else none) else (bif Nat.ble pc 18 then (bif Nat.beq pc 18 then some (.iload_n 1, 19, .null, [1]) else none) else (bif Nat.beq pc 19 then some (.iconst (-1), 20, .int (-1), []) else none)))) else (bif Nat.ble pc 21 then (bif Nat.ble pc 20 then (bif Nat.beq pc 20 then some (.iastore, 21, .null, []) else none) else (bif Nat.beq pc 21 then some (.iconst 0, 22, .int 0, []) else none)) else (bif Nat.ble pc 22 then (bif Nat.beq pc 22 then some (.istore 4, 24, .null, [4]) else none) else (bif Nat.ble pc 24 then (bif Nat.beq pc 24 then some (.iload 4, 26, .null, [4]) else none) else (bif Nat.beq pc 26 then some (.iconst 3, 27, .int 3, []) else none)))))) else (bif Nat.ble pc 45 then (bif Nat.ble pc 36 then (bif Nat.ble pc 30 then (bif Nat.ble pc 27 then (bif Nat.beq pc 27 then some (.if_icmp .ge 102, 30, .null, [129]) else none) else (bif Nat.beq pc 30 then some (.iload_n 1, 31, .null, [1]) else none)) else (bif Nat.ble pc 31 then (bif Nat.beq pc 31 then some (.iload 4, 33, .null, [4]) else none) else (bif Nat.ble pc 33 then (bif Nat.beq pc 33 then some (.invokestatic 25, 36, .null, [2, 13, 2, 2, 99, 139, 141, 22, 140]) else none) else (bif Nat.beq pc 36 then some (.istore 5, 38, .null, [5]) else none)))) else (bif Nat.ble pc 40 then (bif Nat.ble pc 38 then (bif Nat.beq pc 38 then some (.iload 5, 40, .null, [5]) else none) else (bif Nat.beq pc 40 then some (.iload_n 2, 41, .null, [2]) else none)) else (bif Nat.ble pc 41 then (bif Nat.beq pc 41 then some (.iand, 42, .null, []) else none) else (bif Nat.ble pc 42 then (bif Nat.beq pc 42 then some (.invokestatic 29, 45, .null, [2, 67, 1, 1, 99, 144, 146, 25, 145]) else none) else (bif Nat.beq pc 45 then some (.istore 6, 47, .null, [6]) else none))))) else (bif Nat.ble pc 53 then (bif Nat.ble pc 48 then (bif Nat.ble pc 47 then (bif Nat.beq pc 47 then some (.aload_n 0, 48, .null, [0]) else none) else (bif Nat.beq pc 48 then some (.getfield 9, 51, .null, [2, 0, 1, 0, 79, 1]) else none)) else (bif Nat.ble pc 51 then (bif Nat.beq pc 51 then some (.iload_n 1, 52, .null, [1]) else none) else (bif Nat.ble pc 52 then (bif Nat.beq pc 52 then some (.iaload, 53, .null, [0]) else none) else (bif Nat.beq pc 53 then some (.iconst (-1), 54, .int (-1), []) else none)))) else (bif Nat.ble pc 57 then (bif Nat.ble pc 54 then (bif Nat.beq pc 54 then some (.if_icmp .eq 14, 57, .null, [68]) else none) else (bif Nat.beq pc 57 then some (.iload 6, 59, .null, [6]) else none)) else (bif Nat.ble pc 59 then (bif Nat.beq pc 59 then some (.aload_n 0, 60, .null, [0]) else none) else (bif Nat.ble pc 60 then (bif Nat.beq pc 60 then some (.getfield 18, 63, .null, [2, 2, 1, 0, 81, 1]) else none) else (bif Nat.beq pc 63 then some (.iload_n 1, 64, .null, [1]) else none))))))) else (bif Nat.ble pc 96 then (bif Nat.ble pc 81 then (bif Nat.ble pc 72 then (bif Nat.ble pc 65 then (bif Nat.ble pc 64 then (bif Nat.beq pc 64 then some (.iaload, 65, .null, [0]) else none) else (bif Nat.beq pc 65 then some (.if_icmp .ge 7, 68, .null, [72]) else none)) else (bif Nat.ble pc 68 then (bif Nat.beq pc 68 then some (.iconst 1, 69, .int 1, []) else none) else (bif Nat.ble pc 69 then (bif Nat.beq pc 69 then some (.goto 4, 72, .null, [73]) else none) else (bif Nat.beq pc 72 then some (.iconst 0, 73, .int 0, []) else none)))) else (bif Nat.ble pc 75 then (bif Nat.ble pc 73 then (bif Nat.beq pc 73 then some (.istore 7, 75, .null, [7]) else none) else (bif Nat.beq pc 75 then some (.iload 7, 77, .null, [7]) else none)) else (bif Nat.ble pc 77 then (bif Nat.beq pc 77 then some (.ifCond .eq 46, 80, .null, [123]) else none) else (bif Nat.ble pc 80 then (bif Nat.beq pc 80 then some (.aload_n 0, 81, .null, [0]) else none) else (bif Nat.beq pc 81 then some (.iload 5, 83, .null, [5]) else none))))) else (bif Nat.ble pc 87 then (bif Nat.ble pc 84 then (bif Nat.ble pc 83 then (bif Nat.beq pc 83 then some (.iload_n 2, 84, .null, [2]) else none) else (bif Nat.beq pc 84 then some (.iconst (-1), 85, .int (-1), []) else none)) else (bif Nat.ble pc 85 then (bif Nat.beq pc 85 then some (.ixor, 86, .null, []) else none) else (bif Nat.ble pc 86 then (bif Nat.beq pc 86 then some (.iand, 87, .null, []) else none) else (bif Nat.beq pc 87 then some (.iload_n 1, 88, .null, [1]) else none)))) else (bif Nat.ble pc 89 then (bif Nat.ble pc 88 then (bif Nat.beq pc 88 then some (.iload_n 3, 89, .null, [3]) else none) else (bif Nat.beq pc 89 then some (.invokevirtual 35, 92, .null, [1, 12, 4, 5, 2, 150, 153, 22, 152, 3]) else none)) else (bif Nat.ble pc 92 then (bif Nat.beq pc 92 then some (.ifCond .eq 31, 95, .null, [123]) else none) else (bif Nat.ble pc 95 then (bif Nat.beq pc 95 then some (.aload_n 0, 96, .null, [0]) else none) else (bif Nat.beq pc 96 then some (.getfield 9, 99, .null, [2, 0, 1, 0, 79, 1]) else none)))))) else (bif Nat.ble pc 112 then (bif Nat.ble pc 104 then (bif Nat.ble pc 100 then (bif Nat.ble pc 99 then (bif Nat.beq pc 99 then some (.iload_n 1, 100, .null, [1]) else none) else (bif Nat.beq pc 100 then some (.iload 4, 102, .null, [4]) else none)) else (bif Nat.ble pc 102 then (bif Nat.beq pc 102 then some (.iastore, 103, .null, []) else none) else (bif Nat.ble pc 103 then (bif Nat.beq pc 103 then some (.aload_n 0, 104, .null, [0]) else none) else (bif Nat.beq pc 104 then some (.getfield 15, 107, .null, [2, 1, 1, 0, 80, 1]) else none)))) else (bif Nat.ble pc 108 then (bif Nat.ble pc 107 then (bif Nat.beq pc 107 then some (.iload_n 1, 108, .null, [1]) else none) else (bif Nat.beq pc 108 then some (.iload 5, 110, .null, [5]) else none)) else (bif Nat.ble pc 110 then (bif Nat.beq pc 110 then some (.iload_n 2, 111, .null, [2]) else none) else (bif Nat.ble pc 111 then (bif Nat.beq pc 111 then some (.iconst (-1), 112, .int (-1), []) else none) else (bif Nat.beq pc 112 then some (.ixor, 113, .null, []) else none))))) else (bif Nat.ble pc 119 then (bif Nat.ble pc 114 then (bif Nat.ble pc 113 then (bif Nat.beq pc 113 then some (.iand, 114, .null, []) else none) else (bif Nat.beq pc 114 then some (.iastore, 115, .null, []) else none)) else (bif Nat.ble pc 115 then (bif Nat.beq pc 115 then some (.aload_n 0, 116, .null, [0]) else none) else (bif Nat.ble pc 116 then (bif Nat.beq pc 116 then some (.getfield 18, 119, .null, [2, 2, 1, 0, 81, 1]) else none) else (bif Nat.beq pc 119 then some (.iload_n 1, 120, .null, [1]) else none)))) else (bif Nat.ble pc 122 then (bif Nat.ble pc 120 then (bif Nat.beq pc 120 then some (.iload 6, 122, .null, [6]) else none) else (bif Nat.beq pc 122 then some (.iastore, 123, .null, []) else none)) else (bif Nat.ble pc 123 then (bif Nat.beq pc 123 then some (.iinc 4 1, 126, .int 1, [4]) else none) else (bif Nat.ble pc 126 then (bif Nat.beq pc 126 then some (.goto (-102), 129, .null, [24]) else none) else (bif Nat.beq pc 129 then some (.return_, 130, .null, []) else none))))))))
def mm_k12 : Nat → Option mm_En := fun pc => (bif Nat.ble pc 21 then (bif Nat.ble pc 9 then (bif Nat.ble pc 3 then (bif Nat.ble pc 0 then (bif Nat.beq pc 0 then some (.iconst 0, 1, .int 0, []) else none) else (bif Nat.ble pc 1 then (bif Nat.beq pc 1 then some (.istore 4, 3, .null, [4]) else none) else (bif Nat.beq pc 3 then some (.iload 4, 5, .null, [4]) else none))) else (bif Nat.ble pc 5 then (bif Nat.beq pc 5 then some (.iload_n 2, 6, .null, [2]) else none) else (bif Nat.ble pc 6 then (bif Nat.beq pc 6 then some (.if_icmp .ge 38, 9, .null, [44]) else none) else (bif Nat.beq pc 9 then some (.aload_n 0, 10, .null, [0]) else none)))) else (bif Nat.ble pc 15 then (bif Nat.ble pc 10 then (bif Nat.beq pc 10 then some (.getfield 9, 13, .null, [2, 0, 1, 0, 79, 1]) else none) else (bif Nat.ble pc 13 then (bif Nat.beq pc 13 then some (.iload 4, 15, .null, [4]) else none) else (bif Nat.beq pc 15 then some (.iaload, 16, .null, [0]) else none))) else (bif Nat.ble pc 17 then (bif Nat.ble pc 16 then (bif Nat.beq pc 16 then some (.iconst (-1), 17, .int (-1), []) else none) else (bif Nat.beq pc 17 then some (.if_icmp .eq 21, 20, .null, [38]) else none)) else (bif Nat.ble pc 20 then (bif Nat.beq pc 20 then some (.iload_n 1, 21, .null, [1]) else none) else (bif Nat.beq pc 21 then some (.aload_n 0, 22, .null, [0]) else none))))) else (bif Nat.ble pc 32 then (bif Nat.ble pc 27 then (bif Nat.ble pc 22 then (bif Nat.beq pc 22 then some (.getfield 15, 25, .null, [2, 1, 1, 0, 80, 1]) else none) else (bif Nat.ble pc 25 then (bif Nat.beq pc 25 then some (.iload 4, 27, .null, [4]) else none) else (bif Nat.beq pc 27 then some (.iaload, 28, .null, [0]) else none))) else (bif Nat.ble pc 28 then (bif Nat.beq pc 28 then some (.ixor, 29, .null, []) else none) else (bif Nat.ble pc 29 then (bif Nat.beq pc 29 then some (.invokestatic 29, 32, .null, [2, 67, 1, 1, 99, 144, 146, 25, 145]) else none) else (bif Nat.beq pc 32 then some (.iload_n 3, 33, .null, [3]) else none)))) else (bif Nat.ble pc 37 then (bif Nat.ble pc 33 then (bif Nat.beq pc 33 then some (.if_icmp .ge 5, 36, .null, [38]) else none) else (bif Nat.ble pc 36 then (bif Nat.beq pc 36 then some (.iconst 0, 37, .int 0, []) else none) else (bif Nat.beq pc 37 then some (.ireturn, 38, .null, [1]) else none))) else (bif Nat.ble pc 41 then (bif Nat.ble pc 38 then (bif Nat.beq pc 38 then some (.iinc 4 1, 41, .int 1, [4]) else none) else (bif Nat.beq pc 41 then some (.goto (-38), 44, .null, [3]) else none)) else (bif Nat.ble pc 44 then (bif Nat.beq pc 44 then some (.iconst 1, 45, .int 1, []) else none) else (bif Nat.beq pc 45 then some (.ireturn, 46, .null, [1]) else none))))))
def mm_k13 : Nat → Option mm_En := fun pc => (bif Nat.ble pc 5 then (bif Nat.ble pc 3 then (bif Nat.ble pc 0 then (bif Nat.beq pc 0 then some (.getstatic 39, 3, .null, [142, 1]) else none) else (bif Nat.beq pc 3 then some (.iconst 3, 4, .int 3, []) else none)) else (bif Nat.ble pc 4 then (bif Nat.beq pc 4 then some (.iload_n 0, 5, .null, [0]) else none) else (bif Nat.beq pc 5 then some (.imul, 6, .null, []) else none))) else (bif Nat.ble pc 7 then (bif Nat.ble pc 6 then (bif Nat.beq pc 6 then some (.iload_n 1, 7, .null, [1]) else none) else (bif Nat.beq pc 7 then some (.iadd, 8, .null, []) else none)) else (bif Nat.ble pc 8 then (bif Nat.beq pc 8 then some (.iaload, 9, .null, [2]) else none) else (bif Nat.beq pc 9 then some (.ireturn, 10, .null, [0]) else none))))
def mm_k14 : Nat → Option mm_En := fun pc => (bif Nat.ble pc 11 then (bif Nat.ble pc 4 then (bif Nat.ble pc 0 then (bif Nat.beq pc 0 then some (.iload_n 1, 1, .null, [1]) else none) else (bif Nat.ble pc 1 then (bif Nat.beq pc 1 then some (.invokestatic 42, 4, .null, [5, 46, 1, 1, 99, 263, 265, 20, 264]) else none) else (bif Nat.beq pc 4 then some (.ifCond .eq 17, 7, .null, [21]) else none))) else (bif Nat.ble pc 7 then (bif Nat.beq pc 7 then some (.aload_n 0, 8, .null, [0]) else none) else (bif Nat.ble pc 8 then (bif Nat.beq pc 8 then some (.getfield 9, 11, .null, [2, 0, 1, 0, 79, 1]) else none) else (bif Nat.beq pc 11 then some (.iload_n 1, 12, .null, [1]) else none)))) else (bif Nat.ble pc 14 then (bif Nat.ble pc 12 then (bif Nat.beq pc 12 then some (.iaload, 13, .null, [0]) else none) else (bif Nat.ble pc 13 then (bif Nat.beq pc 13 then some (.iconst (-1), 14, .int (-1), []) else none) else (bif Nat.beq pc 14 then some (.if_icmp .eq 7, 17, .null, [21]) else none))) else (bif Nat.ble pc 18 then (bif Nat.ble pc 17 then (bif Nat.beq pc 17 then some (.iconst 1, 18, .int 1, []) else none) else (bif Nat.beq pc 18 then some (.goto 4, 21, .null, [22]) else none)) else (bif Nat.ble pc 21 then (bif Nat.beq pc 21 then some (.iconst 0, 22, .int 0, []) else none) else (bif Nat.beq pc 22 then some (.ireturn, 23, .null, [1]) else none)))))
def mm_k15 : Nat → Option mm_En := fun pc => (bif Nat.ble pc 8 then (bif Nat.ble pc 1 then (bif Nat.ble pc 0 then (bif Nat.beq pc 0 then some (.aload_n 0, 1, .null, [0]) else none) else (bif Nat.beq pc 1 then some (.iload_n 1, 2, .null, [1]) else none)) else (bif Nat.ble pc 2 then (bif Nat.beq pc 2 then some (.invokevirtual 46, 5, .null, [1, 14, 2, 2, 2, 278, 262, 22, 260, 261]) else none) else (bif Nat.ble pc 5 then (bif Nat.beq pc 5 then some (.ifCond .eq 12, 8, .null, [17]) else none) else (bif Nat.beq pc 8 then some (.aload_n 0, 9, .null, [0]) else none)))) else (bif Nat.ble pc 13 then (bif Nat.ble pc 9 then (bif Nat.beq pc 9 then some (.getfield 9, 12, .null, [2, 0, 1, 0, 79, 1]) else none) else (bif Nat.ble pc 12 then (bif Nat.beq pc 12 then some (.iload_n 1, 13, .null, [1]) else none) else (bif Nat.beq pc 13 then some (.iaload, 14, .null, [0]) else none))) else (bif Nat.ble pc 14 then (bif Nat.beq pc 14 then some (.goto 4, 17, .null, [18]) else none) else (bif Nat.ble pc 17 then (bif Nat.beq pc 17 then some (.iconst (-1), 18, .int (-1), []) else none) else (bif Nat.beq pc 18 then some (.ireturn, 19, .null, [0]) else none)))))
def mm_k16 : Nat → Option mm_En := fun pc => (bif Nat.ble pc 8 then (bif Nat.ble pc 1 then (bif Nat.ble pc 0 then (bif Nat.beq pc 0 then some (.aload_n 0, 1, .null, [0]) else none) else (bif Nat.beq pc 1 then some (.iload_n 1, 2, .null, [1]) else none)) else (bif Nat.ble pc 2 then (bif Nat.beq pc 2 then some (.invokevirtual 46, 5, .null, [1, 14, 2, 2, 2, 278, 262, 22, 260, 261]) else none) else (bif Nat.ble pc 5 then (bif Nat.beq pc 5 then some (.ifCond .eq 12, 8, .null, [17]) else none) else (bif Nat.beq pc 8 then some (.aload_n 0, 9, .null, [0]) else none)))) else (bif Nat.ble pc 13 then (bif Nat.ble pc 9 then (bif Nat.beq pc 9 then some (.getfield 15, 12, .null, [2, 1, 1, 0, 80, 1]) else none) else (bif Nat.ble pc 12 then (bif Nat.beq pc 12 then some (.iload_n 1, 13, .null, [1]) else none) else (bif Nat.beq pc 13 then some (.iaload, 14, .null, [0]) else none))) else (bif Nat.ble pc 14 then (bif Nat.beq pc 14 then some (.goto 4, 17, .null, [18]) else none) else (bif Nat.ble pc 17 then (bif Nat.beq pc 17 then some (.iconst (-1), 18, .int (-1), []) else none) else (bif Nat.beq pc 18 then some (.ireturn, 19, .null, [0]) else none)))))
def mm_k17 : Nat → Option mm_En := fun pc => (bif Nat.ble pc 8 then (bif Nat.ble pc 1 then (bif Nat.ble pc 0 then (bif Nat.beq pc 0 then some (.aload_n 0, 1, .null, [0]) else none) else (bif Nat.beq pc 1 then some (.iload_n 1, 2, .null, [1]) else none)) else (bif Nat.ble pc 2 then (bif Nat.beq pc 2 then some (.invokevirtual 46, 5, .null, [1, 14, 2, 2, 2, 278, 262, 22, 260, 261]) else none) else (bif Nat.ble pc 5 then (bif Nat.beq pc 5 then some (.ifCond .eq 12, 8, .null, [17]) else none) else (bif Nat.beq pc 8 then some (.aload_n 0, 9, .null, [0]) else none)))) else (bif Nat.ble pc 13 then (bif Nat.ble pc 9 then (bif Nat.beq pc 9 then some (.getfield 18, 12, .null, [2, 2, 1, 0, 81, 1]) else none) else (bif Nat.ble pc 12 then (bif Nat.beq pc 12 then some (.iload_n 1, 13, .null, [1]) else none) else (bif Nat.beq pc 13 then some (.iaload, 14, .null, [0]) else none))) else (bif Nat.ble pc 14 then (bif Nat.beq pc 14 then some (.goto 4, 17, .null, [18]) else none) else (bif Nat.ble pc 17 then (bif Nat.beq pc 17 then some (.iconst (-1), 18, .int (-1), []) else none) else (bif Nat.beq pc 18 then some (.ireturn, 19, .null, [0]) else none)))))
def mm_k18 : Nat → Option mm_En := fun pc => (bif Nat.ble pc 16 then (bif Nat.ble pc 5 then (bif Nat.ble pc 2 then (bif Nat.ble pc 0 then (bif Nat.beq pc 0 then some (.iconst 0, 1, .int 0, []) else none) else (bif Nat.ble pc 1 then (bif Nat.beq pc 1 then some (.istore_n 1, 2, .null, [1]) else none) else (bif Nat.beq pc 2 then some (.iconst 0, 3, .int 0, []) else none))) else (bif Nat.ble pc 3 then (bif Nat.beq pc 3 then some (.istore_n 2, 4, .null, [2]) else none) else (bif Nat.ble pc 4 then (bif Nat.beq pc 4 then some (.iload_n 2, 5, .null, [2]) else none) else (bif Nat.beq pc 5 then some (.bipush 10, 7, .int 10, []) else none)))) else (bif Nat.ble pc 11 then (bif Nat.ble pc 7 then (bif Nat.beq pc 7 then some (.if_icmp .ge 29, 10, .null, [36]) else none) else (bif Nat.ble pc 10 then (bif Nat.beq pc 10 then some (.iload_n 1, 11, .null, [1]) else none) else (bif Nat.beq pc 11 then some (.aload_n 0, 12, .null, [0]) else none))) else (bif Nat.ble pc 12 then (bif Nat.beq pc 12 then some (.getfield 9, 15, .null, [2, 0, 1, 0, 79, 1]) else none) else (bif Nat.ble pc 15 then (bif Nat.beq pc 15 then some (.iload_n 2, 16, .null, [2]) else none) else (bif Nat.beq pc 16 then some (.iaload, 17, .null, [0]) else none))))) else (bif Nat.ble pc 26 then (bif Nat.ble pc 21 then (bif Nat.ble pc 17 then (bif Nat.beq pc 17 then some (.iconst (-1), 18, .int (-1), []) else none) else (bif Nat.ble pc 18 then (bif Nat.beq pc 18 then some (.if_icmp .ne 7, 21, .null, [25]) else none) else (bif Nat.beq pc 21 then some (.iconst 0, 22, .int 0, []) else none))) else (bif Nat.ble pc 22 then (bif Nat.beq pc 22 then some (.goto 6, 25, .null, [28]) else none) else (bif Nat.ble pc 25 then (bif Nat.beq pc 25 then some (.iconst 1, 26, .int 1, []) else none) else (bif Nat.beq pc 26 then some (.iload_n 2, 27, .null, [2]) else none)))) else (bif Nat.ble pc 29 then (bif Nat.ble pc 27 then (bif Nat.beq pc 27 then some (.ishl, 28, .null, []) else none) else (bif Nat.ble pc 28 then (bif Nat.beq pc 28 then some (.ior, 29, .null, []) else none) else (bif Nat.beq pc 29 then some (.istore_n 1, 30, .null, [1]) else none))) else (bif Nat.ble pc 33 then (bif Nat.ble pc 30 then (bif Nat.beq pc 30 then some (.iinc 2 1, 33, .int 1, [2]) else none) else (bif Nat.beq pc 33 then some (.goto (-29), 36, .null, [4]) else none)) else (bif Nat.ble pc 36 then (bif Nat.beq pc 36 then some (.iload_n 1, 37, .null, [1]) else none) else (bif Nat.beq pc 37 then some (.ireturn, 38, .null, [0]) else none))))))
def mm_k19 : Nat → Option mm_En := fun pc => (bif Nat.ble pc 3 then (bif Nat.ble pc 0 then (bif Nat.beq pc 0 then some (.bipush 10, 2, .int 10, []) else none) else (bif Nat.ble pc 2 then (bif Nat.beq pc 2 then some (.aload_n 0, 3, .null, [0]) else none) else (bif Nat.beq pc 3 then some (.invokevirtual 49, 6, .null, [1, 18, 1, 3, 2, 410, 354, 22, 352, 353]) else none))) else (bif Nat.ble pc 6 then (bif Nat.beq pc 6 then some (.invokestatic 29, 9, .null, [2, 67, 1, 1, 99, 144, 146, 25, 145]) else none) else (bif Nat.ble pc 9 then (bif Nat.beq pc 9 then some (.isub, 10, .null, []) else none) else (bif Nat.beq pc 10 then some (.ireturn, 11, .null, [0]) else none))))
def mm_k20 : Nat → Option mm_En := fun pc => (bif Nat.ble pc 12 then (bif Nat.ble pc 3 then (bif Nat.ble pc 1 then (bif Nat.ble pc 0 then (bif Nat.beq pc 0 then some (.iconst 0, 1, .int 0, []) else none) else (bif Nat.beq pc 1 then some (.istore_n 1, 2, .null, [1]) else none)) else (bif Nat.ble pc 2 then (bif Nat.beq pc 2 then some (.iload_n 1, 3, .null, [1]) else none) else (bif Nat.beq pc 3 then some (.bipush 10, 5, .int 10, []) else none))) else (bif Nat.ble pc 8 then (bif Nat.ble pc 5 then (bif Nat.beq pc 5 then some (.if_icmp .ge 21, 8, .null, [26]) else none) else (bif Nat.beq pc 8 then some (.aload_n 0, 9, .null, [0]) else none)) else (bif Nat.ble pc 9 then (bif Nat.beq pc 9 then some (.getfield 9, 12, .null, [2, 0, 1, 0, 79, 1]) else none) else (bif Nat.beq pc 12 then some (.iload_n 1, 13, .null, [1]) else none)))) else (bif Nat.ble pc 18 then (bif Nat.ble pc 14 then (bif Nat.ble pc 13 then (bif Nat.beq pc 13 then some (.iaload, 14, .null, [0]) else none) else (bif Nat.beq pc 14 then some (.iconst (-1), 15, .int (-1), []) else none)) else (bif Nat.ble pc 15 then (bif Nat.beq pc 15 then some (.if_icmp .ne 5, 18, .null, [20]) else none) else (bif Nat.beq pc 18 then some (.iload_n 1, 19, .null, [1]) else none))) else (bif Nat.ble pc 20 then (bif Nat.ble pc 19 then (bif Nat.beq pc 19 then some (.ireturn, 20, .null, [0]) else none) else (bif Nat.beq pc 20 then some (.iinc 1 1, 23, .int 1, [1]) else none)) else (bif Nat.ble pc 23 then (bif Nat.beq pc 23 then some (.goto (-21), 26, .null, [2]) else none) else (bif Nat.ble pc 26 then (bif Nat.beq pc 26 then some (.iconst (-1), 27, .int (-1), []) else none) else (bif Nat.beq pc 27 then some (.ireturn, 28, .null, [0]) else none))))))
def mm_k21 : Nat → Option mm_En := fun pc => (bif Nat.ble pc 37 then (bif Nat.ble pc 14 then (bif Nat.ble pc 5 then (bif Nat.ble pc 2 then (bif Nat.ble pc 0 then (bif Nat.beq pc 0 then some (.iconst (-1), 1, .int (-1), []) else none) else (bif Nat.ble pc 1 then (bif Nat.beq pc 1 then some (.istore_n 1, 2, .null, [1]) else none) else (bif Nat.beq pc 2 then some (.iconst 0, 3, .int 0, []) else none))) else (bif Nat.ble pc 3 then (bif Nat.beq pc 3 then some (.istore_n 2, 4, .null, [2]) else none) else (bif Nat.ble pc 4 then (bif Nat.beq pc 4 then some (.iload_n 2, 5, .null, [2]) else none) else (bif Nat.beq pc 5 then some (.bipush 10, 7, .int 10, []) else none)))) else (bif Nat.ble pc 11 then (bif Nat.ble pc 7 then (bif Nat.beq pc 7 then some (.if_icmp .ge 77, 10, .null, [84]) else none) else (bif Nat.ble pc 10 then (bif Nat.beq pc 10 then some (.iconst 0, 11, .int 0, []) else none) else (bif Nat.beq pc 11 then some (.istore_n 3, 12, .null, [3]) else none))) else (bif Nat.ble pc 12 then (bif Nat.beq pc 12 then some (.iload_n 3, 13, .null, [3]) else none) else (bif Nat.ble pc 13 then (bif Nat.beq pc 13 then some (.iload_n 2, 14, .null, [2]) else none) else (bif Nat.beq pc 14 then some (.if_icmp .ge 64, 17, .null, [78]) else none))))) else (bif Nat.ble pc 24 then (bif Nat.ble pc 21 then (bif Nat.ble pc 17 then (bif Nat.beq pc 17 then some (.aload_n 0, 18, .null, [0]) else none) else (bif Nat.ble pc 18 then (bif Nat.beq pc 18 then some (.getfield 9, 21, .null, [2, 0, 1, 0, 79, 1]) else none) else (bif Nat.beq pc 21 then some (.iload_n 2, 22, .null, [2]) else none))) else (bif Nat.ble pc 22 then (bif Nat.beq pc 22 then some (.iaload, 23, .null, [0]) else none) else (bif Nat.ble pc 23 then (bif Nat.beq pc 23 then some (.iconst (-1), 24, .int (-1), []) else none) else (bif Nat.beq pc 24 then some (.if_icmp .eq 48, 27, .null, [72]) else none)))) else (bif Nat.ble pc 31 then (bif Nat.ble pc 27 then (bif Nat.beq pc 27 then some (.aload_n 0, 28, .null, [0]) else none) else (bif Nat.ble pc 28 then (bif Nat.beq pc 28 then some (.getfield 9, 31, .null, [2, 0, 1, 0, 79, 1]) else none) else (bif Nat.beq pc 31 then some (.iload_n 3, 32, .null, [3]) else none))) else (bif Nat.ble pc 33 then (bif Nat.ble pc 32 then (bif Nat.beq pc 32 then some (.iaload, 33, .null, [0]) else none) else (bif Nat.beq pc 33 then some (.iconst (-1), 34, .int (-1), []) else none)) else (bif Nat.ble pc 34 then (bif Nat.beq pc 34 then some (.if_icmp .ne 6, 37, .null, [40]) else none) else (bif Nat.beq pc 37 then some (.goto 35, 40, .null, [72]) else none)))))) else (bif Nat.ble pc 58 then (bif Nat.ble pc 47 then (bif Nat.ble pc 44 then (bif Nat.ble pc 40 then (bif Nat.beq pc 40 then some (.aload_n 0, 41, .null, [0]) else none) else (bif Nat.ble pc 41 then (bif Nat.beq pc 41 then some (.getfield 15, 44, .null, [2, 1, 1, 0, 80, 1]) else none) else (bif Nat.beq pc 44 then some (.iload_n 2, 45, .null, [2]) else none))) else (bif Nat.ble pc 45 then (bif Nat.beq pc 45 then some (.iaload, 46, .null, [0]) else none) else (bif Nat.ble pc 46 then (bif Nat.beq pc 46 then some (.aload_n 0, 47, .null, [0]) else none) else (bif Nat.beq pc 47 then some (.getfield 15, 50, .null, [2, 1, 1, 0, 80, 1]) else none)))) else (bif Nat.ble pc 52 then (bif Nat.ble pc 50 then (bif Nat.beq pc 50 then some (.iload_n 3, 51, .null, [3]) else none) else (bif Nat.ble pc 51 then (bif Nat.beq pc 51 then some (.iaload, 52, .null, [0]) else none) else (bif Nat.beq pc 52 then some (.ixor, 53, .null, []) else none))) else (bif Nat.ble pc 53 then (bif Nat.beq pc 53 then some (.invokestatic 29, 56, .null, [2, 67, 1, 1, 99, 144, 146, 25, 145]) else none) else (bif Nat.ble pc 56 then (bif Nat.beq pc 56 then some (.istore 4, 58, .null, [4]) else none) else (bif Nat.beq pc 58 then some (.iload_n 1, 59, .null, [1]) else none))))) else (bif Nat.ble pc 69 then (bif Nat.ble pc 63 then (bif Nat.ble pc 59 then (bif Nat.beq pc 59 then some (.iconst (-1), 60, .int (-1), []) else none) else (bif Nat.ble pc 60 then (bif Nat.beq pc 60 then some (.if_icmp .eq 9, 63, .null, [69]) else none) else (bif Nat.beq pc 63 then some (.iload 4, 65, .null, [4]) else none))) else (bif Nat.ble pc 65 then (bif Nat.beq pc 65 then some (.iload_n 1, 66, .null, [1]) else none) else (bif Nat.ble pc 66 then (bif Nat.beq pc 66 then some (.if_icmp .ge 6, 69, .null, [72]) else none) else (bif Nat.beq pc 69 then some (.iload 4, 71, .null, [4]) else none)))) else (bif Nat.ble pc 75 then (bif Nat.ble pc 71 then (bif Nat.beq pc 71 then some (.istore_n 1, 72, .null, [1]) else none) else (bif Nat.ble pc 72 then (bif Nat.beq pc 72 then some (.iinc 3 1, 75, .int 1, [3]) else none) else (bif Nat.beq pc 75 then some (.goto (-63), 78, .null, [12]) else none))) else (bif Nat.ble pc 81 then (bif Nat.ble pc 78 then (bif Nat.beq pc 78 then some (.iinc 2 1, 81, .int 1, [2]) else none) else (bif Nat.beq pc 81 then some (.goto (-77), 84, .null, [4]) else none)) else (bif Nat.ble pc 84 then (bif Nat.beq pc 84 then some (.iload_n 1, 85, .null, [1]) else none) else (bif Nat.beq pc 85 then some (.ireturn, 86, .null, [0]) else none)))))))
def mm_k22 : Nat → Option mm_En := fun pc => (bif Nat.ble pc 17 then (bif Nat.ble pc 5 then (bif Nat.ble pc 2 then (bif Nat.ble pc 0 then (bif Nat.beq pc 0 then some (.iconst 0, 1, .int 0, []) else none) else (bif Nat.ble pc 1 then (bif Nat.beq pc 1 then some (.istore_n 2, 2, .null, [2]) else none) else (bif Nat.beq pc 2 then some (.iconst 0, 3, .int 0, []) else none))) else (bif Nat.ble pc 3 then (bif Nat.beq pc 3 then some (.istore_n 3, 4, .null, [3]) else none) else (bif Nat.ble pc 4 then (bif Nat.beq pc 4 then some (.iload_n 3, 5, .null, [3]) else none) else (bif Nat.beq pc 5 then some (.bipush 10, 7, .int 10, []) else none)))) else (bif Nat.ble pc 11 then (bif Nat.ble pc 7 then (bif Nat.beq pc 7 then some (.if_icmp .ge 39, 10, .null, [46]) else none) else (bif Nat.ble pc 10 then (bif Nat.beq pc 10 then some (.aload_n 0, 11, .null, [0]) else none) else (bif Nat.beq pc 11 then some (.getfield 9, 14, .null, [2, 0, 1, 0, 79, 1]) else none))) else (bif Nat.ble pc 15 then (bif Nat.ble pc 14 then (bif Nat.beq pc 14 then some (.iload_n 3, 15, .null, [3]) else none) else (bif Nat.beq pc 15 then some (.iaload, 16, .null, [0]) else none)) else (bif Nat.ble pc 16 then (bif Nat.beq pc 16 then some (.iconst (-1), 17, .int (-1), []) else none) else (bif Nat.beq pc 17 then some (.if_icmp .eq 23, 20, .null, [40]) else none))))) else (bif Nat.ble pc 30 then (bif Nat.ble pc 22 then (bif Nat.ble pc 20 then (bif Nat.beq pc 20 then some (.iload_n 3, 21, .null, [3]) else none) else (bif Nat.ble pc 21 then (bif Nat.beq pc 21 then some (.aload_n 0, 22, .null, [0]) else none) else (bif Nat.beq pc 22 then some (.getfield 9, 25, .null, [2, 0, 1, 0, 79, 1]) else none))) else (bif Nat.ble pc 26 then (bif Nat.ble pc 25 then (bif Nat.beq pc 25 then some (.iload_n 3, 26, .null, [3]) else none) else (bif Nat.beq pc 26 then some (.iaload, 27, .null, [0]) else none)) else (bif Nat.ble pc 27 then (bif Nat.beq pc 27 then some (.invokestatic 25, 30, .null, [2, 13, 2, 2, 99, 139, 141, 22, 140]) else none) else (bif Nat.beq pc 30 then some (.iload_n 1, 31, .null, [1]) else none)))) else (bif Nat.ble pc 37 then (bif Nat.ble pc 31 then (bif Nat.beq pc 31 then some (.invokestatic 53, 34, .null, [5, 50, 2, 2, 99, 375, 293, 20, 292]) else none) else (bif Nat.ble pc 34 then (bif Nat.beq pc 34 then some (.ifCond .eq 6, 37, .null, [40]) else none) else (bif Nat.beq pc 37 then some (.iinc 2 1, 40, .int 1, [2]) else none))) else (bif Nat.ble pc 43 then (bif Nat.ble pc 40 then (bif Nat.beq pc 40 then some (.iinc 3 1, 43, .int 1, [3]) else none) else (bif Nat.beq pc 43 then some (.goto (-39), 46, .null, [4]) else none)) else (bif Nat.ble pc 46 then (bif Nat.beq pc 46 then some (.iload_n 2, 47, .null, [2]) else none) else (bif Nat.beq pc 47 then some (.ireturn, 48, .null, [0]) else none))))))
def mm_k23 : Nat → Option mm_En := fun pc => (bif Nat.ble pc 17 then (bif Nat.ble pc 5 then (bif Nat.ble pc 2 then (bif Nat.ble pc 0 then (bif Nat.beq pc 0 then some (.iconst 0, 1, .int 0, []) else none) else (bif Nat.ble pc 1 then (bif Nat.beq pc 1 then some (.istore_n 2, 2, .null, [2]) else none) else (bif Nat.beq pc 2 then some (.iconst 0, 3, .int 0, []) else none))) else (bif Nat.ble pc 3 then (bif Nat.beq pc 3 then some (.istore_n 3, 4, .null, [3]) else none) else (bif Nat.ble pc 4 then (bif Nat.beq pc 4 then some (.iload_n 3, 5, .null, [3]) else none) else (bif Nat.beq pc 5 then some (.bipush 10, 7, .int 10, []) else none)))) else (bif Nat.ble pc 11 then (bif Nat.ble pc 7 then (bif Nat.beq pc 7 then some (.if_icmp .ge 32, 10, .null, [39]) else none) else (bif Nat.ble pc 10 then (bif Nat.beq pc 10 then some (.iload_n 2, 11, .null, [2]) else none) else (bif Nat.beq pc 11 then some (.aload_n 0, 12, .null, [0]) else none))) else (bif Nat.ble pc 15 then (bif Nat.ble pc 12 then (bif Nat.beq pc 12 then some (.getfield 9, 15, .null, [2, 0, 1, 0, 79, 1]) else none) else (bif Nat.beq pc 15 then some (.iload_n 3, 16, .null, [3]) else none)) else (bif Nat.ble pc 16 then (bif Nat.beq pc 16 then some (.iaload, 17, .null, [0]) else none) else (bif Nat.beq pc 17 then some (.aload_n 1, 18, .null, [1]) else none))))) else (bif Nat.ble pc 27 then (bif Nat.ble pc 22 then (bif Nat.ble pc 18 then (bif Nat.beq pc 18 then some (.getfield 9, 21, .null, [2, 0, 1, 0, 79, 1]) else none) else (bif Nat.ble pc 21 then (bif Nat.beq pc 21 then some (.iload_n 3, 22, .null, [3]) else none) else (bif Nat.beq pc 22 then some (.iaload, 23, .null, [0]) else none))) else (bif Nat.ble pc 23 then (bif Nat.beq pc 23 then some (.if_icmp .ne 7, 26, .null, [30]) else none) else (bif Nat.ble pc 26 then (bif Nat.beq pc 26 then some (.iconst 0, 27, .int 0, []) else none) else (bif Nat.beq pc 27 then some (.goto 4, 30, .null, [31]) else none)))) else (bif Nat.ble pc 32 then (bif Nat.ble pc 30 then (bif Nat.beq pc 30 then some (.iconst 1, 31, .int 1, []) else none) else (bif Nat.ble pc 31 then (bif Nat.beq pc 31 then some (.iadd, 32, .null, []) else none) else (bif Nat.beq pc 32 then some (.istore_n 2, 33, .null, [2]) else none))) else (bif Nat.ble pc 36 then (bif Nat.ble pc 33 then (bif Nat.beq pc 33 then some (.iinc 3 1, 36, .int 1, [3]) else none) else (bif Nat.beq pc 36 then some (.goto (-32), 39, .null, [4]) else none)) else (bif Nat.ble pc 39 then (bif Nat.beq pc 39 then some (.iload_n 2, 40, .null, [2]) else none) else (bif Nat.beq pc 40 then some (.ireturn, 41, .null, [0]) else none))))))
def mm_k24 : Nat → Option mm_En := fun pc => (bif Nat.ble pc 34 then (bif Nat.ble pc 15 then (bif Nat.ble pc 5 then (bif Nat.ble pc 1 then (bif Nat.ble pc 0 then (bif Nat.beq pc 0 then some (.iconst (-1), 1, .int (-1), []) else none) else (bif Nat.beq pc 1 then some (.istore_n 2, 2, .null, [2]) else none)) else (bif Nat.ble pc 2 then (bif Nat.beq pc 2 then some (.bipush 16, 4, .int 16, []) else none) else (bif Nat.ble pc 4 then (bif Nat.beq pc 4 then some (.istore_n 3, 5, .null, [3]) else none) else (bif Nat.beq pc 5 then some (.iconst 0, 6, .int 0, []) else none)))) else (bif Nat.ble pc 8 then (bif Nat.ble pc 6 then (bif Nat.beq pc 6 then some (.istore 4, 8, .null, [4]) else none) else (bif Nat.beq pc 8 then some (.iload 4, 10, .null, [4]) else none)) else (bif Nat.ble pc 10 then (bif Nat.beq pc 10 then some (.bipush 10, 12, .int 10, []) else none) else (bif Nat.ble pc 12 then (bif Nat.beq pc 12 then some (.if_icmp .ge 60, 15, .null, [72]) else none) else (bif Nat.beq pc 15 then some (.aload_n 0, 16, .null, [0]) else none))))) else (bif Nat.ble pc 23 then (bif Nat.ble pc 19 then (bif Nat.ble pc 16 then (bif Nat.beq pc 16 then some (.getfield 9, 19, .null, [2, 0, 1, 0, 79, 1]) else none) else (bif Nat.beq pc 19 then some (.iload 4, 21, .null, [4]) else none)) else (bif Nat.ble pc 21 then (bif Nat.beq pc 21 then some (.iaload, 22, .null, [0]) else none) else (bif Nat.ble pc 22 then (bif Nat.beq pc 22 then some (.iconst (-1), 23, .int (-1), []) else none) else (bif Nat.beq pc 23 then some (.if_icmp .ne 6, 26, .null, [29]) else none)))) else (bif Nat.ble pc 29 then (bif Nat.ble pc 26 then (bif Nat.beq pc 26 then some (.goto 40, 29, .null, [66]) else none) else (bif Nat.beq pc 29 then some (.iload_n 1, 30, .null, [1]) else none)) else (bif Nat.ble pc 30 then (bif Nat.beq pc 30 then some (.aload_n 0, 31, .null, [0]) else none) else (bif Nat.ble pc 31 then (bif Nat.beq pc 31 then some (.getfield 15, 34, .null, [2, 1, 1, 0, 80, 1]) else none) else (bif Nat.beq pc 34 then some (.iload 4, 36, .null, [4]) else none)))))) else (bif Nat.ble pc 52 then (bif Nat.ble pc 43 then (bif Nat.ble pc 37 then (bif Nat.ble pc 36 then (bif Nat.beq pc 36 then some (.iaload, 37, .null, [0]) else none) else (bif Nat.beq pc 37 then some (.ixor, 38, .null, []) else none)) else (bif Nat.ble pc 38 then (bif Nat.beq pc 38 then some (.invokestatic 29, 41, .null, [2, 67, 1, 1, 99, 144, 146, 25, 145]) else none) else (bif Nat.ble pc 41 then (bif Nat.beq pc 41 then some (.istore 5, 43, .null, [5]) else none) else (bif Nat.beq pc 43 then some (.iload 5, 45, .null, [5]) else none)))) else (bif Nat.ble pc 46 then (bif Nat.ble pc 45 then (bif Nat.beq pc 45 then some (.iload_n 3, 46, .null, [3]) else none) else (bif Nat.beq pc 46 then some (.if_icmp .ge 12, 49, .null, [58]) else none)) else (bif Nat.ble pc 49 then (bif Nat.beq pc 49 then some (.iload 5, 51, .null, [5]) else none) else (bif Nat.ble pc 51 then (bif Nat.beq pc 51 then some (.istore_n 3, 52, .null, [3]) else none) else (bif Nat.beq pc 52 then some (.iload 4, 54, .null, [4]) else none))))) else (bif Nat.ble pc 61 then (bif Nat.ble pc 55 then (bif Nat.ble pc 54 then (bif Nat.beq pc 54 then some (.istore_n 2, 55, .null, [2]) else none) else (bif Nat.beq pc 55 then some (.goto 11, 58, .null, [66]) else none)) else (bif Nat.ble pc 58 then (bif Nat.beq pc 58 then some (.iload 5, 60, .null, [5]) else none) else (bif Nat.ble pc 60 then (bif Nat.beq pc 60 then some (.iload_n 3, 61, .null, [3]) else none) else (bif Nat.beq pc 61 then some (.if_icmp .ne 5, 64, .null, [66]) else none)))) else (bif Nat.ble pc 66 then (bif Nat.ble pc 64 then (bif Nat.beq pc 64 then some (.iconst (-1), 65, .int (-1), []) else none) else (bif Nat.ble pc 65 then (bif Nat.beq pc 65 then some (.istore_n 2, 66, .null, [2]) else none) else (bif Nat.beq pc 66 then some (.iinc 4 1, 69, .int 1, [4]) else none))) else (bif Nat.ble pc 69 then (bif Nat.beq pc 69 then some (.goto (-61), 72, .null, [8]) else none) else (bif Nat.ble pc 72 then (bif Nat.beq pc 72 then some (.iload_n 2, 73, .null, [2]) else none) else (bif Nat.beq pc 73 then some (.ireturn, 74, .null, [0]) else none)))))))
def mm_k25 : Nat → Option mm_En := fun pc => (bif Nat.ble pc 7 then (bif Nat.ble pc 1 then (bif Nat.ble pc 0 then (bif Nat.beq pc 0 then some (.aload_n 0, 1, .null, [0]) else none) else (bif Nat.beq pc 1 then some (.invokespecial 3, 4, .null, [0, 94, 39, 40]) else none)) else (bif Nat.ble pc 4 then (bif Nat.beq pc 4 then some (.aload_n 0, 5, .null, [0]) else none) else (bif Nat.ble pc 5 then (bif Nat.beq pc 5 then some (.bipush 60, 7, .int 60, []) else none) else (bif Nat.beq pc 7 then some (.newarray .char, 9, .null, [11, 102]) else none)))) else (bif Nat.ble pc 12 then (bif Nat.ble pc 9 then (bif Nat.beq pc 9 then some (.putfield 9, 12, .null, [3, 0, 1, 0, 95, 1]) else none) else (bif Nat.beq pc 12 then some (.aload_n 0, 13, .null, [0]) else none)) else (bif Nat.ble pc 13 then (bif Nat.beq pc 13 then some (.iconst 0, 14, .int 0, []) else none) else (bif Nat.ble pc 14 then (bif Nat.beq pc 14 then some (.putfield 15, 17, .null, [3, 1, 0, 0, 96, 0]) else none) else (bif Nat.beq pc 17 then some (.return_, 18, .null, []) else none)))))
def mm_k26 : Nat → Option mm_En := fun pc => (bif Nat.ble pc 42 then (bif Nat.ble pc 17 then (bif Nat.ble pc 8 then (bif Nat.ble pc 1 then (bif Nat.ble pc 0 then (bif Nat.beq pc 0 then some (.aload_n 0, 1, .null, [0]) else none) else (bif Nat.beq pc 1 then some (.invokespecial 1, 4, .null, [0, 38, 39, 40]) else none)) else (bif Nat.ble pc 4 then (bif Nat.beq pc 4 then some (.aload_n 0, 5, .null, [0]) else none) else (bif Nat.ble pc 5 then (bif Nat.beq pc 5 then some (.new 7, 8, .null, [0, 0, 6, 41, 42, 21]) else none) else (bif Nat.beq pc 8 then some (.dup, 9, .null, []) else none)))) else (bif Nat.ble pc 12 then (bif Nat.ble pc 9 then (bif Nat.beq pc 9 then some (.invokespecial 9, 12, .null, [3, 0, 1, 2, 0, 43, 45, 21, 44]) else none) else (bif Nat.beq pc 12 then some (.putfield 10, 15, .null, [4, 0, 1, 0, 154, 1]) else none)) else (bif Nat.ble pc 15 then (bif Nat.beq pc 15 then some (.aload_n 0, 16, .null, [0]) else none) else (bif Nat.ble pc 16 then (bif Nat.beq pc 16 then some (.iconst 4, 17, .int 4, []) else none) else (bif Nat.beq pc 17 then some (.anewarray 16, 20, .null, [13, 72, 73]) else none))))) else (bif Nat.ble pc 28 then (bif Nat.ble pc 23 then (bif Nat.ble pc 20 then (bif Nat.beq pc 20 then some (.putfield 18, 23, .null, [4, 1, 1, 0, 155, 1]) else none) else (bif Nat.beq pc 23 then some (.aload_n 0, 24, .null, [0]) else none)) else (bif Nat.ble pc 24 then (bif Nat.beq pc 24 then some (.new 16, 27, .null, [0, 2, 3, 72, 74, 22]) else none) else (bif Nat.ble pc 27 then (bif Nat.beq pc 27 then some (.dup, 28, .null, []) else none) else (bif Nat.beq pc 28 then some (.invokespecial 22, 31, .null, [6, 9, 1, 1, 2, 75, 77, 22, 76]) else none)))) else (bif Nat.ble pc 35 then (bif Nat.ble pc 31 then (bif Nat.beq pc 31 then some (.putfield 23, 34, .null, [4, 2, 1, 0, 156, 1]) else none) else (bif Nat.ble pc 34 then (bif Nat.beq pc 34 then some (.aload_n 0, 35, .null, [0]) else none) else (bif Nat.beq pc 35 then some (.new 27, 38, .null, [0, 3, 2, 89, 90, 23]) else none))) else (bif Nat.ble pc 38 then (bif Nat.beq pc 38 then some (.dup, 39, .null, []) else none) else (bif Nat.ble pc 39 then (bif Nat.beq pc 39 then some (.invokespecial 29, 42, .null, [6, 25, 1, 1, 3, 91, 93, 23, 92]) else none) else (bif Nat.beq pc 42 then some (.putfield 30, 45, .null, [4, 3, 1, 0, 157, 1]) else none)))))) else (bif Nat.ble pc 63 then (bif Nat.ble pc 53 then (bif Nat.ble pc 46 then (bif Nat.ble pc 45 then (bif Nat.beq pc 45 then some (.aload_n 0, 46, .null, [0]) else none) else (bif Nat.beq pc 46 then some (.new 34, 49, .null, [0, 1, 3, 103, 104, 24]) else none)) else (bif Nat.ble pc 49 then (bif Nat.beq pc 49 then some (.dup, 50, .null, []) else none) else (bif Nat.ble pc 50 then (bif Nat.beq pc 50 then some (.invokespecial 36, 53, .null, [3, 5, 1, 2, 1, 105, 107, 24, 106]) else none) else (bif Nat.beq pc 53 then some (.putfield 37, 56, .null, [4, 4, 1, 0, 158, 1]) else none)))) else (bif Nat.ble pc 58 then (bif Nat.ble pc 56 then (bif Nat.beq pc 56 then some (.iconst 0, 57, .int 0, []) else none) else (bif Nat.ble pc 57 then (bif Nat.beq pc 57 then some (.istore_n 1, 58, .null, [1]) else none) else (bif Nat.beq pc 58 then some (.iload_n 1, 59, .null, [1]) else none))) else (bif Nat.ble pc 59 then (bif Nat.beq pc 59 then some (.iconst 4, 60, .int 4, []) else none) else (bif Nat.ble pc 60 then (bif Nat.beq pc 60 then some (.if_icmp .ge 22, 63, .null, [82]) else none) else (bif Nat.beq pc 63 then some (.aload_n 0, 64, .null, [0]) else none))))) else (bif Nat.ble pc 72 then (bif Nat.ble pc 67 then (bif Nat.ble pc 64 then (bif Nat.beq pc 64 then some (.getfield 18, 67, .null, [4, 1, 1, 0, 155, 1]) else none) else (bif Nat.beq pc 67 then some (.iload_n 1, 68, .null, [1]) else none)) else (bif Nat.ble pc 68 then (bif Nat.beq pc 68 then some (.new 16, 71, .null, [0, 2, 3, 72, 74, 22]) else none) else (bif Nat.ble pc 71 then (bif Nat.beq pc 71 then some (.dup, 72, .null, []) else none) else (bif Nat.beq pc 72 then some (.invokespecial 22, 75, .null, [6, 9, 1, 1, 2, 75, 77, 22, 76]) else none)))) else (bif Nat.ble pc 79 then (bif Nat.ble pc 75 then (bif Nat.beq pc 75 then some (.aastore, 76, .null, []) else none) else (bif Nat.ble pc 76 then (bif Nat.beq pc 76 then some (.iinc 1 1, 79, .int 1, [1]) else none) else (bif Nat.beq pc 79 then some (.goto (-21), 82, .null, [58]) else none))) else (bif Nat.ble pc 82 then (bif Nat.beq pc 82 then some (.aload_n 0, 83, .null, [0]) else none) else (bif Nat.ble pc 83 then (bif Nat.beq pc 83 then some (.invokevirtual 41, 86, .null, [1, 54, 1, 2, 4, 123, 126, 20, 125, 0]) else none) else (bif Nat.beq pc 86 then some (.return_, 87, .null, []) else none)))))))
def mm_k27 : Nat → Option mm_En := fun pc => (bif Nat.ble pc 51 then (bif Nat.ble pc 26 then (bif Nat.ble pc 17 then (bif Nat.ble pc 1 then (bif Nat.ble pc 0 then (bif Nat.beq pc 0 then some (.iload_n 1, 1, .null, [1]) else none) else (bif Nat.beq pc 1 then some (.invokestatic 44, 4, .null, [2, 44, 1, 1, 99, 323, 325, 20, 324]) else none)) else (bif Nat.ble pc 4 then (bif Nat.beq pc 4 then some (.ifCond .ne 13, 7, .null, [17]) else none) else (bif Nat.ble pc 7 then (bif Nat.beq pc 7 then some (.new 48, 10, .null, [1, 1, 326, 50, 52, 30, 335]) else none) else (bif Nat.beq pc 17 then some (.iload_n 2, 18, .null, [2]) else none)))) else (bif Nat.ble pc 19 then (bif Nat.ble pc 18 then (bif Nat.beq pc 18 then some (.iconst (-1), 19, .int (-1), []) else none) else (bif Nat.beq pc 19 then some (.if_icmp .eq 20, 22, .null, [39]) else none)) else (bif Nat.ble pc 22 then (bif Nat.beq pc 22 then some (.iload_n 2, 23, .null, [2]) else none) else (bif Nat.ble pc 23 then (bif Nat.beq pc 23 then some (.invokestatic 55, 26, .null, [2, 46, 1, 1, 99, 383, 265, 20, 264]) else none) else (bif Nat.beq pc 26 then some (.ifCond .ne 13, 29, .null, [39]) else none))))) else (bif Nat.ble pc 44 then (bif Nat.ble pc 39 then (bif Nat.ble pc 29 then (bif Nat.beq pc 29 then some (.new 58, 32, .null, [1, 2, 174, 60, 62, 29, 468]) else none) else (bif Nat.beq pc 39 then some (.iload_n 2, 40, .null, [2]) else none)) else (bif Nat.ble pc 40 then (bif Nat.beq pc 40 then some (.iconst (-1), 41, .int (-1), []) else none) else (bif Nat.ble pc 41 then (bif Nat.beq pc 41 then some (.if_icmp .eq 26, 44, .null, [67]) else none) else (bif Nat.beq pc 44 then some (.aload_n 0, 45, .null, [0]) else none)))) else (bif Nat.ble pc 48 then (bif Nat.ble pc 45 then (bif Nat.beq pc 45 then some (.getfield 18, 48, .null, [4, 1, 1, 0, 155, 1]) else none) else (bif Nat.beq pc 48 then some (.iload_n 1, 49, .null, [1]) else none)) else (bif Nat.ble pc 49 then (bif Nat.beq pc 49 then some (.aaload, 50, .null, []) else none) else (bif Nat.ble pc 50 then (bif Nat.beq pc 50 then some (.iload_n 2, 51, .null, [2]) else none) else (bif Nat.beq pc 51 then some (.invokevirtual 63, 54, .null, [1, 14, 2, 2, 2, 259, 262, 22, 260, 261]) else none)))))) else (bif Nat.ble pc 82 then (bif Nat.ble pc 71 then (bif Nat.ble pc 57 then (bif Nat.ble pc 54 then (bif Nat.beq pc 54 then some (.ifCond .ne 13, 57, .null, [67]) else none) else (bif Nat.beq pc 57 then some (.new 66, 60, .null, [1, 3, 469, 68, 70, 32, 478]) else none)) else (bif Nat.ble pc 67 then (bif Nat.beq pc 67 then some (.aload_n 0, 68, .null, [0]) else none) else (bif Nat.ble pc 68 then (bif Nat.beq pc 68 then some (.getfield 37, 71, .null, [4, 4, 1, 0, 158, 1]) else none) else (bif Nat.beq pc 71 then some (.aload_n 0, 72, .null, [0]) else none)))) else (bif Nat.ble pc 75 then (bif Nat.ble pc 72 then (bif Nat.beq pc 72 then some (.getfield 10, 75, .null, [4, 0, 1, 0, 154, 1]) else none) else (bif Nat.beq pc 75 then some (.invokevirtual 71, 78, .null, [1, 6, 2, 2, 1, 436, 439, 24, 437, 438]) else none)) else (bif Nat.ble pc 78 then (bif Nat.beq pc 78 then some (.aload_n 0, 79, .null, [0]) else none) else (bif Nat.ble pc 79 then (bif Nat.beq pc 79 then some (.getfield 10, 82, .null, [4, 0, 1, 0, 154, 1]) else none) else (bif Nat.beq pc 82 then some (.getfield 75, 85, .null, [0, 0, 1, 1, 48, 1]) else none))))) else (bif Nat.ble pc 89 then (bif Nat.ble pc 86 then (bif Nat.ble pc 85 then (bif Nat.beq pc 85 then some (.iload_n 1, 86, .null, [1]) else none) else (bif Nat.beq pc 86 then some (.iaload, 87, .null, [0]) else none)) else (bif Nat.ble pc 87 then (bif Nat.beq pc 87 then some (.istore_n 3, 88, .null, [3]) else none) else (bif Nat.ble pc 88 then (bif Nat.beq pc 88 then some (.aload_n 0, 89, .null, [0]) else none) else (bif Nat.beq pc 89 then some (.getfield 10, 92, .null, [4, 0, 1, 0, 154, 1]) else none)))) else (bif Nat.ble pc 96 then (bif Nat.ble pc 92 then (bif Nat.beq pc 92 then some (.getfield 75, 95, .null, [0, 0, 1, 1, 48, 1]) else none) else (bif Nat.ble pc 95 then (bif Nat.beq pc 95 then some (.iload_n 1, 96, .null, [1]) else none) else (bif Nat.beq pc 96 then some (.iload_n 2, 97, .null, [2]) else none))) else (bif Nat.ble pc 97 then (bif Nat.beq pc 97 then some (.iastore, 98, .null, []) else none) else (bif Nat.ble pc 98 then (bif Nat.beq pc 98 then some (.iload_n 3, 99, .null, [3]) else none) else (bif Nat.beq pc 99 then some (.ireturn, 100, .null, [0]) else none)))))))
def mm_k28 : Nat → Option mm_En := fun pc => (bif Nat.ble pc 50 then (bif Nat.ble pc 22 then (bif Nat.ble pc 5 then (bif Nat.ble pc 1 then (bif Nat.ble pc 0 then (bif Nat.beq pc 0 then some (.iload_n 1, 1, .null, [1]) else none) else (bif Nat.beq pc 1 then some (.ifCond .lt 10, 4, .null, [11]) else none)) else (bif Nat.ble pc 4 then (bif Nat.beq pc 4 then some (.iload_n 1, 5, .null, [1]) else none) else (bif Nat.beq pc 5 then some (.sipush 9999, 8, .int 9999, []) else none))) else (bif Nat.ble pc 11 then (bif Nat.ble pc 8 then (bif Nat.beq pc 8 then some (.if_icmp .le 13, 11, .null, [21]) else none) else (bif Nat.beq pc 11 then some (.new 58, 14, .null, [1, 2, 174, 79, 62, 29, 492]) else none)) else (bif Nat.ble pc 21 then (bif Nat.beq pc 21 then some (.aload_n 0, 22, .null, [0]) else none) else (bif Nat.beq pc 22 then some (.iload_n 1, 23, .null, [1]) else none)))) else (bif Nat.ble pc 39 then (bif Nat.ble pc 26 then (bif Nat.ble pc 23 then (bif Nat.beq pc 23 then some (.invokevirtual 81, 26, .null, [1, 52, 2, 4, 4, 493, 496, 20, 495, 16]) else none) else (bif Nat.beq pc 26 then some (.ifCond .ne 13, 29, .null, [39]) else none)) else (bif Nat.ble pc 29 then (bif Nat.beq pc 29 then some (.new 66, 32, .null, [1, 3, 469, 84, 70, 32, 500]) else none) else (bif Nat.beq pc 39 then some (.aload_n 0, 40, .null, [0]) else none))) else (bif Nat.ble pc 43 then (bif Nat.ble pc 40 then (bif Nat.beq pc 40 then some (.getfield 37, 43, .null, [4, 4, 1, 0, 158, 1]) else none) else (bif Nat.beq pc 43 then some (.aload_n 0, 44, .null, [0]) else none)) else (bif Nat.ble pc 44 then (bif Nat.beq pc 44 then some (.getfield 10, 47, .null, [4, 0, 1, 0, 154, 1]) else none) else (bif Nat.ble pc 47 then (bif Nat.beq pc 47 then some (.invokevirtual 71, 50, .null, [1, 6, 2, 2, 1, 436, 439, 24, 437, 438]) else none) else (bif Nat.beq pc 50 then some (.iconst 0, 51, .int 0, []) else none)))))) else (bif Nat.ble pc 64 then (bif Nat.ble pc 54 then (bif Nat.ble pc 52 then (bif Nat.ble pc 51 then (bif Nat.beq pc 51 then some (.istore_n 2, 52, .null, [2]) else none) else (bif Nat.beq pc 52 then some (.iload_n 2, 53, .null, [2]) else none)) else (bif Nat.ble pc 53 then (bif Nat.beq pc 53 then some (.iconst 4, 54, .int 4, []) else none) else (bif Nat.beq pc 54 then some (.if_icmp .ge 23, 57, .null, [77]) else none))) else (bif Nat.ble pc 58 then (bif Nat.ble pc 57 then (bif Nat.beq pc 57 then some (.aload_n 0, 58, .null, [0]) else none) else (bif Nat.beq pc 58 then some (.getfield 10, 61, .null, [4, 0, 1, 0, 154, 1]) else none)) else (bif Nat.ble pc 61 then (bif Nat.beq pc 61 then some (.getfield 75, 64, .null, [0, 0, 1, 1, 48, 1]) else none) else (bif Nat.beq pc 64 then some (.iload_n 2, 65, .null, [2]) else none)))) else (bif Nat.ble pc 70 then (bif Nat.ble pc 66 then (bif Nat.ble pc 65 then (bif Nat.beq pc 65 then some (.iload_n 1, 66, .null, [1]) else none) else (bif Nat.beq pc 66 then some (.iload_n 2, 67, .null, [2]) else none)) else (bif Nat.ble pc 67 then (bif Nat.beq pc 67 then some (.invokestatic 86, 70, .null, [2, 51, 2, 4, 99, 497, 499, 20, 498]) else none) else (bif Nat.beq pc 70 then some (.iastore, 71, .null, []) else none))) else (bif Nat.ble pc 74 then (bif Nat.ble pc 71 then (bif Nat.beq pc 71 then some (.iinc 2 1, 74, .int 1, [2]) else none) else (bif Nat.beq pc 74 then some (.goto (-22), 77, .null, [52]) else none)) else (bif Nat.ble pc 77 then (bif Nat.beq pc 77 then some (.aload_n 0, 78, .null, [0]) else none) else (bif Nat.ble pc 78 then (bif Nat.beq pc 78 then some (.invokevirtual 90, 81, .null, [1, 64, 1, 3, 4, 247, 250, 20, 249, 6]) else none) else (bif Nat.beq pc 81 then some (.ireturn, 82, .null, [0]) else none)))))))
def mm_k29 : Nat → Option mm_En := fun pc => (bif Nat.ble pc 50 then (bif Nat.ble pc 29 then (bif Nat.ble pc 8 then (bif Nat.ble pc 1 then (bif Nat.ble pc 0 then (bif Nat.beq pc 0 then some (.iload_n 1, 1, .null, [1]) else none) else (bif Nat.beq pc 1 then some (.invokestatic 44, 4, .null, [2, 44, 1, 1, 99, 323, 325, 20, 324]) else none)) else (bif Nat.ble pc 4 then (bif Nat.beq pc 4 then some (.ifCond .eq 10, 7, .null, [14]) else none) else (bif Nat.ble pc 7 then (bif Nat.beq pc 7 then some (.iload_n 2, 8, .null, [2]) else none) else (bif Nat.beq pc 8 then some (.invokestatic 94, 11, .null, [2, 45, 1, 1, 99, 367, 369, 20, 368]) else none)))) else (bif Nat.ble pc 24 then (bif Nat.ble pc 11 then (bif Nat.beq pc 11 then some (.ifCond .ne 13, 14, .null, [24]) else none) else (bif Nat.ble pc 14 then (bif Nat.beq pc 14 then some (.new 48, 17, .null, [1, 1, 326, 97, 52, 30, 370]) else none) else (bif Nat.beq pc 24 then some (.aload_n 0, 25, .null, [0]) else none))) else (bif Nat.ble pc 25 then (bif Nat.beq pc 25 then some (.getfield 37, 28, .null, [4, 4, 1, 0, 158, 1]) else none) else (bif Nat.ble pc 28 then (bif Nat.beq pc 28 then some (.aload_n 0, 29, .null, [0]) else none) else (bif Nat.beq pc 29 then some (.getfield 10, 32, .null, [4, 0, 1, 0, 154, 1]) else none))))) else (bif Nat.ble pc 40 then (bif Nat.ble pc 35 then (bif Nat.ble pc 32 then (bif Nat.beq pc 32 then some (.invokevirtual 71, 35, .null, [1, 6, 2, 2, 1, 436, 439, 24, 437, 438]) else none) else (bif Nat.beq pc 35 then some (.aload_n 0, 36, .null, [0]) else none)) else (bif Nat.ble pc 36 then (bif Nat.beq pc 36 then some (.getfield 10, 39, .null, [4, 0, 1, 0, 154, 1]) else none) else (bif Nat.ble pc 39 then (bif Nat.beq pc 39 then some (.iload_n 1, 40, .null, [1]) else none) else (bif Nat.beq pc 40 then some (.iload_n 2, 41, .null, [2]) else none)))) else (bif Nat.ble pc 45 then (bif Nat.ble pc 41 then (bif Nat.beq pc 41 then some (.iload_n 3, 42, .null, [3]) else none) else (bif Nat.ble pc 42 then (bif Nat.beq pc 42 then some (.invokevirtual 99, 45, .null, [1, 2, 4, 4, 0, 451, 454, 21, 452, 453]) else none) else (bif Nat.beq pc 45 then some (.aload_n 0, 46, .null, [0]) else none))) else (bif Nat.ble pc 46 then (bif Nat.beq pc 46 then some (.getfield 23, 49, .null, [4, 2, 1, 0, 156, 1]) else none) else (bif Nat.ble pc 49 then (bif Nat.beq pc 49 then some (.aload_n 0, 50, .null, [0]) else none) else (bif Nat.beq pc 50 then some (.getfield 10, 53, .null, [4, 0, 1, 0, 154, 1]) else none)))))) else (bif Nat.ble pc 71 then (bif Nat.ble pc 59 then (bif Nat.ble pc 56 then (bif Nat.ble pc 53 then (bif Nat.beq pc 53 then some (.getfield 103, 56, .null, [0, 1, 1, 1, 50, 1]) else none) else (bif Nat.beq pc 56 then some (.iload_n 1, 57, .null, [1]) else none)) else (bif Nat.ble pc 57 then (bif Nat.beq pc 57 then some (.iaload, 58, .null, [0]) else none) else (bif Nat.ble pc 58 then (bif Nat.beq pc 58 then some (.aload_n 0, 59, .null, [0]) else none) else (bif Nat.beq pc 59 then some (.getfield 10, 62, .null, [4, 0, 1, 0, 154, 1]) else none)))) else (bif Nat.ble pc 66 then (bif Nat.ble pc 62 then (bif Nat.beq pc 62 then some (.getfield 106, 65, .null, [0, 3, 1, 1, 53, 1]) else none) else (bif Nat.ble pc 65 then (bif Nat.beq pc 65 then some (.iconst 0, 66, .int 0, []) else none) else (bif Nat.beq pc 66 then some (.iaload, 67, .null, [0]) else none))) else (bif Nat.ble pc 67 then (bif Nat.beq pc 67 then some (.invokevirtual 109, 70, .null, [1, 10, 3, 4, 2, 131, 134, 22, 132, 133]) else none) else (bif Nat.ble pc 70 then (bif Nat.beq pc 70 then some (.aload_n 0, 71, .null, [0]) else none) else (bif Nat.beq pc 71 then some (.getfield 23, 74, .null, [4, 2, 1, 0, 156, 1]) else none))))) else (bif Nat.ble pc 80 then (bif Nat.ble pc 75 then (bif Nat.ble pc 74 then (bif Nat.beq pc 74 then some (.aload_n 0, 75, .null, [0]) else none) else (bif Nat.beq pc 75 then some (.getfield 18, 78, .null, [4, 1, 1, 0, 155, 1]) else none)) else (bif Nat.ble pc 78 then (bif Nat.beq pc 78 then some (.iload_n 1, 79, .null, [1]) else none) else (bif Nat.ble pc 79 then (bif Nat.beq pc 79 then some (.aaload, 80, .null, []) else none) else (bif Nat.beq pc 80 then some (.invokevirtual 113, 83, .null, [1, 23, 2, 4, 2, 419, 422, 22, 420, 421]) else none)))) else (bif Nat.ble pc 86 then (bif Nat.ble pc 83 then (bif Nat.beq pc 83 then some (.istore 4, 85, .null, [4]) else none) else (bif Nat.ble pc 85 then (bif Nat.beq pc 85 then some (.aload_n 0, 86, .null, [0]) else none) else (bif Nat.beq pc 86 then some (.iload_n 1, 87, .null, [1]) else none))) else (bif Nat.ble pc 87 then (bif Nat.beq pc 87 then some (.invokevirtual 117, 90, .null, [1, 53, 2, 2, 4, 127, 130, 20, 129, 1]) else none) else (bif Nat.ble pc 90 then (bif Nat.beq pc 90 then some (.iload 4, 92, .null, [4]) else none) else (bif Nat.beq pc 92 then some (.ireturn, 93, .null, [0]) else none)))))))
def mm_k30 : Nat → Option mm_En := fun pc => (bif Nat.ble pc 41 then (bif Nat.ble pc 22 then (bif Nat.ble pc 7 then (bif Nat.ble pc 1 then (bif Nat.ble pc 0 then (bif Nat.beq pc 0 then some (.iload_n 1, 1, .null, [1]) else none) else (bif Nat.beq pc 1 then some (.invokestatic 44, 4, .null, [2, 44, 1, 1, 99, 323, 325, 20, 324]) else none)) else (bif Nat.ble pc 4 then (bif Nat.beq pc 4 then some (.ifCond .ne 13, 7, .null, [17]) else none) else (bif Nat.beq pc 7 then some (.new 48, 10, .null, [1, 1, 326, 50, 52, 30, 335]) else none))) else (bif Nat.ble pc 18 then (bif Nat.ble pc 17 then (bif Nat.beq pc 17 then some (.aload_n 0, 18, .null, [0]) else none) else (bif Nat.beq pc 18 then some (.getfield 37, 21, .null, [4, 4, 1, 0, 158, 1]) else none)) else (bif Nat.ble pc 21 then (bif Nat.beq pc 21 then some (.aload_n 0, 22, .null, [0]) else none) else (bif Nat.beq pc 22 then some (.getfield 10, 25, .null, [4, 0, 1, 0, 154, 1]) else none)))) else (bif Nat.ble pc 32 then (bif Nat.ble pc 28 then (bif Nat.ble pc 25 then (bif Nat.beq pc 25 then some (.invokevirtual 71, 28, .null, [1, 6, 2, 2, 1, 436, 439, 24, 437, 438]) else none) else (bif Nat.beq pc 28 then some (.aload_n 0, 29, .null, [0]) else none)) else (bif Nat.ble pc 29 then (bif Nat.beq pc 29 then some (.getfield 10, 32, .null, [4, 0, 1, 0, 154, 1]) else none) else (bif Nat.beq pc 32 then some (.getfield 103, 35, .null, [0, 1, 1, 1, 50, 1]) else none))) else (bif Nat.ble pc 36 then (bif Nat.ble pc 35 then (bif Nat.beq pc 35 then some (.iload_n 1, 36, .null, [1]) else none) else (bif Nat.beq pc 36 then some (.iaload, 37, .null, [0]) else none)) else (bif Nat.ble pc 37 then (bif Nat.beq pc 37 then some (.invokestatic 121, 40, .null, [2, 67, 1, 1, 99, 246, 146, 25, 145]) else none) else (bif Nat.ble pc 40 then (bif Nat.beq pc 40 then some (.istore_n 2, 41, .null, [2]) else none) else (bif Nat.beq pc 41 then some (.iconst 0, 42, .int 0, []) else none)))))) else (bif Nat.ble pc 54 then (bif Nat.ble pc 46 then (bif Nat.ble pc 43 then (bif Nat.ble pc 42 then (bif Nat.beq pc 42 then some (.istore_n 3, 43, .null, [3]) else none) else (bif Nat.beq pc 43 then some (.iload_n 3, 44, .null, [3]) else none)) else (bif Nat.ble pc 44 then (bif Nat.beq pc 44 then some (.bipush 15, 46, .int 15, []) else none) else (bif Nat.beq pc 46 then some (.if_icmp .ge 19, 49, .null, [65]) else none))) else (bif Nat.ble pc 50 then (bif Nat.ble pc 49 then (bif Nat.beq pc 49 then some (.aload_n 0, 50, .null, [0]) else none) else (bif Nat.beq pc 50 then some (.getfield 10, 53, .null, [4, 0, 1, 0, 154, 1]) else none)) else (bif Nat.ble pc 53 then (bif Nat.beq pc 53 then some (.iload_n 1, 54, .null, [1]) else none) else (bif Nat.beq pc 54 then some (.iload_n 3, 55, .null, [3]) else none)))) else (bif Nat.ble pc 62 then (bif Nat.ble pc 56 then (bif Nat.ble pc 55 then (bif Nat.beq pc 55 then some (.iconst 0, 56, .int 0, []) else none) else (bif Nat.beq pc 56 then some (.invokevirtual 99, 59, .null, [1, 2, 4, 4, 0, 451, 454, 21, 452, 453]) else none)) else (bif Nat.ble pc 59 then (bif Nat.beq pc 59 then some (.iinc 3 1, 62, .int 1, [3]) else none) else (bif Nat.beq pc 62 then some (.goto (-19), 65, .null, [43]) else none))) else (bif Nat.ble pc 66 then (bif Nat.ble pc 65 then (bif Nat.beq pc 65 then some (.aload_n 0, 66, .null, [0]) else none) else (bif Nat.beq pc 66 then some (.iload_n 1, 67, .null, [1]) else none)) else (bif Nat.ble pc 67 then (bif Nat.beq pc 67 then some (.invokevirtual 117, 70, .null, [1, 53, 2, 2, 4, 127, 130, 20, 129, 1]) else none) else (bif Nat.ble pc 70 then (bif Nat.beq pc 70 then some (.iload_n 2, 71, .null, [2]) else none) else (bif Nat.beq pc 71 then some (.ireturn, 72, .null, [0]) else none)))))))
def mm_k31 : Nat → Option mm_En := fun pc => (bif Nat.ble pc 83 then (bif Nat.ble pc 50 then (bif Nat.ble pc 23 then (bif Nat.ble pc 5 then (bif Nat.ble pc 1 then (bif Nat.ble pc 0 then (bif Nat.beq pc 0 then some (.iload_n 1, 1, .null, [1]) else none) else (bif Nat.beq pc 1 then some (.iconst 1, 2, .int 1, []) else none)) else (bif Nat.ble pc 2 then (bif Nat.beq pc 2 then some (.if_icmp .lt 10, 5, .null, [12]) else none) else (bif Nat.beq pc 5 then some (.iload_n 1, 6, .null, [1]) else none))) else (bif Nat.ble pc 9 then (bif Nat.ble pc 6 then (bif Nat.beq pc 6 then some (.sipush 500, 9, .int 500, []) else none) else (bif Nat.beq pc 9 then some (.if_icmp .le 13, 12, .null, [22]) else none)) else (bif Nat.ble pc 12 then (bif Nat.beq pc 12 then some (.new 58, 15, .null, [1, 2, 174, 127, 62, 29, 525]) else none) else (bif Nat.ble pc 22 then (bif Nat.beq pc 22 then some (.aload_n 0, 23, .null, [0]) else none) else (bif Nat.beq pc 23 then some (.getfield 10, 26, .null, [4, 0, 1, 0, 154, 1]) else none))))) else (bif Nat.ble pc 31 then (bif Nat.ble pc 29 then (bif Nat.ble pc 26 then (bif Nat.beq pc 26 then some (.getfield 129, 29, .null, [0, 4, 0, 1, 55, 0]) else none) else (bif Nat.beq pc 29 then some (.iload_n 1, 30, .null, [1]) else none)) else (bif Nat.ble pc 30 then (bif Nat.beq pc 30 then some (.iadd, 31, .null, []) else none) else (bif Nat.beq pc 31 then some (.ldc 133, 33, .int 99999, [526]) else none))) else (bif Nat.ble pc 36 then (bif Nat.ble pc 33 then (bif Nat.beq pc 33 then some (.if_icmp .le 13, 36, .null, [46]) else none) else (bif Nat.beq pc 36 then some (.new 66, 39, .null, [1, 3, 469, 134, 70, 32, 527]) else none)) else (bif Nat.ble pc 46 then (bif Nat.beq pc 46 then some (.aload_n 0, 47, .null, [0]) else none) else (bif Nat.ble pc 47 then (bif Nat.beq pc 47 then some (.getfield 37, 50, .null, [4, 4, 1, 0, 158, 1]) else none) else (bif Nat.beq pc 50 then some (.aload_n 0, 51, .null, [0]) else none)))))) else (bif Nat.ble pc 64 then (bif Nat.ble pc 58 then (bif Nat.ble pc 54 then (bif Nat.ble pc 51 then (bif Nat.beq pc 51 then some (.getfield 10, 54, .null, [4, 0, 1, 0, 154, 1]) else none) else (bif Nat.beq pc 54 then some (.invokevirtual 71, 57, .null, [1, 6, 2, 2, 1, 436, 439, 24, 437, 438]) else none)) else (bif Nat.ble pc 57 then (bif Nat.beq pc 57 then some (.iconst 0, 58, .int 0, []) else none) else (bif Nat.beq pc 58 then some (.istore_n 2, 59, .null, [2]) else none))) else (bif Nat.ble pc 60 then (bif Nat.ble pc 59 then (bif Nat.beq pc 59 then some (.iload_n 1, 60, .null, [1]) else none) else (bif Nat.beq pc 60 then some (.istore_n 3, 61, .null, [3]) else none)) else (bif Nat.ble pc 61 then (bif Nat.beq pc 61 then some (.iconst 0, 62, .int 0, []) else none) else (bif Nat.ble pc 62 then (bif Nat.beq pc 62 then some (.istore 4, 64, .null, [4]) else none) else (bif Nat.beq pc 64 then some (.iload 4, 66, .null, [4]) else none))))) else (bif Nat.ble pc 74 then (bif Nat.ble pc 67 then (bif Nat.ble pc 66 then (bif Nat.beq pc 66 then some (.iload_n 1, 67, .null, [1]) else none) else (bif Nat.beq pc 67 then some (.if_icmp .ge 57, 70, .null, [124]) else none)) else (bif Nat.ble pc 70 then (bif Nat.beq pc 70 then some (.iload_n 3, 71, .null, [3]) else none) else (bif Nat.ble pc 71 then (bif Nat.beq pc 71 then some (.ifCond .le 53, 74, .null, [124]) else none) else (bif Nat.beq pc 74 then some (.aload_n 0, 75, .null, [0]) else none)))) else (bif Nat.ble pc 78 then (bif Nat.ble pc 75 then (bif Nat.beq pc 75 then some (.invokevirtual 136, 78, .null, [1, 42, 1, 5, 4, 528, 286, 20, 284, 285]) else none) else (bif Nat.beq pc 78 then some (.istore 5, 80, .null, [5]) else none)) else (bif Nat.ble pc 80 then (bif Nat.beq pc 80 then some (.iload 5, 82, .null, [5]) else none) else (bif Nat.ble pc 82 then (bif Nat.beq pc 82 then some (.iconst (-1), 83, .int (-1), []) else none) else (bif Nat.beq pc 83 then some (.if_icmp .eq 9, 86, .null, [92]) else none))))))) else (bif Nat.ble pc 116 then (bif Nat.ble pc 101 then (bif Nat.ble pc 92 then (bif Nat.ble pc 88 then (bif Nat.ble pc 86 then (bif Nat.beq pc 86 then some (.iload 5, 88, .null, [5]) else none) else (bif Nat.beq pc 88 then some (.iload_n 3, 89, .null, [3]) else none)) else (bif Nat.ble pc 89 then (bif Nat.beq pc 89 then some (.if_icmp .le 7, 92, .null, [96]) else none) else (bif Nat.beq pc 92 then some (.iload_n 3, 93, .null, [3]) else none))) else (bif Nat.ble pc 96 then (bif Nat.ble pc 93 then (bif Nat.beq pc 93 then some (.goto 5, 96, .null, [98]) else none) else (bif Nat.beq pc 96 then some (.iload 5, 98, .null, [5]) else none)) else (bif Nat.ble pc 98 then (bif Nat.beq pc 98 then some (.istore 6, 100, .null, [6]) else none) else (bif Nat.ble pc 100 then (bif Nat.beq pc 100 then some (.aload_n 0, 101, .null, [0]) else none) else (bif Nat.beq pc 101 then some (.iload 6, 103, .null, [6]) else none))))) else (bif Nat.ble pc 108 then (bif Nat.ble pc 106 then (bif Nat.ble pc 103 then (bif Nat.beq pc 103 then some (.invokevirtual 139, 106, .null, [1, 56, 2, 5, 4, 529, 532, 20, 531, 17]) else none) else (bif Nat.beq pc 106 then some (.iload_n 2, 107, .null, [2]) else none)) else (bif Nat.ble pc 107 then (bif Nat.beq pc 107 then some (.aload_n 0, 108, .null, [0]) else none) else (bif Nat.beq pc 108 then some (.invokevirtual 142, 111, .null, [1, 57, 1, 4, 4, 537, 540, 20, 539, 18]) else none))) else (bif Nat.ble pc 112 then (bif Nat.ble pc 111 then (bif Nat.beq pc 111 then some (.iadd, 112, .null, []) else none) else (bif Nat.beq pc 112 then some (.istore_n 2, 113, .null, [2]) else none)) else (bif Nat.ble pc 113 then (bif Nat.beq pc 113 then some (.iload_n 3, 114, .null, [3]) else none) else (bif Nat.ble pc 114 then (bif Nat.beq pc 114 then some (.iload 6, 116, .null, [6]) else none) else (bif Nat.beq pc 116 then some (.isub, 117, .null, []) else none)))))) else (bif Nat.ble pc 133 then (bif Nat.ble pc 124 then (bif Nat.ble pc 118 then (bif Nat.ble pc 117 then (bif Nat.beq pc 117 then some (.istore_n 3, 118, .null, [3]) else none) else (bif Nat.beq pc 118 then some (.iinc 4 1, 121, .int 1, [4]) else none)) else (bif Nat.ble pc 121 then (bif Nat.beq pc 121 then some (.goto (-57), 124, .null, [64]) else none) else (bif Nat.beq pc 124 then some (.aload_n 0, 125, .null, [0]) else none))) else (bif Nat.ble pc 128 then (bif Nat.ble pc 125 then (bif Nat.beq pc 125 then some (.getfield 10, 128, .null, [4, 0, 1, 0, 154, 1]) else none) else (bif Nat.beq pc 128 then some (.dup, 129, .null, []) else none)) else (bif Nat.ble pc 129 then (bif Nat.beq pc 129 then some (.getfield 129, 132, .null, [0, 4, 0, 1, 55, 0]) else none) else (bif Nat.ble pc 132 then (bif Nat.beq pc 132 then some (.iload_n 1, 133, .null, [1]) else none) else (bif Nat.beq pc 133 then some (.iadd, 134, .null, []) else none))))) else (bif Nat.ble pc 142 then (bif Nat.ble pc 137 then (bif Nat.ble pc 134 then (bif Nat.beq pc 134 then some (.putfield 129, 137, .null, [0, 4, 0, 1, 55, 0]) else none) else (bif Nat.beq pc 137 then some (.aload_n 0, 138, .null, [0]) else none)) else (bif Nat.ble pc 138 then (bif Nat.beq pc 138 then some (.getfield 10, 141, .null, [4, 0, 1, 0, 154, 1]) else none) else (bif Nat.ble pc 141 then (bif Nat.beq pc 141 then some (.dup, 142, .null, []) else none) else (bif Nat.beq pc 142 then some (.getfield 145, 145, .null, [0, 5, 0, 1, 57, 0]) else none)))) else (bif Nat.ble pc 146 then (bif Nat.ble pc 145 then (bif Nat.beq pc 145 then some (.iload_n 2, 146, .null, [2]) else none) else (bif Nat.beq pc 146 then some (.iadd, 147, .null, []) else none)) else (bif Nat.ble pc 147 then (bif Nat.beq pc 147 then some (.putfield 145, 150, .null, [0, 5, 0, 1, 57, 0]) else none) else (bif Nat.ble pc 150 then (bif Nat.beq pc 150 then some (.iload_n 2, 151, .null, [2]) else none) else (bif Nat.beq pc 151 then some (.ireturn, 152, .null, [0]) else none))))))))
def mm_k32 : Nat → Option mm_En := fun pc => (bif Nat.ble pc 46 then (bif Nat.ble pc 19 then (bif Nat.ble pc 4 then (bif Nat.ble pc 0 then (bif Nat.beq pc 0 then some (.iload_n 1, 1, .null, [1]) else none) else (bif Nat.ble pc 1 then (bif Nat.beq pc 1 then some (.invokestatic 148, 4, .null, [2, 47, 1, 1, 99, 398, 400, 20, 399]) else none) else (bif Nat.beq pc 4 then some (.ifCond .ne 13, 7, .null, [17]) else none))) else (bif Nat.ble pc 17 then (bif Nat.ble pc 7 then (bif Nat.beq pc 7 then some (.new 48, 10, .null, [1, 1, 326, 151, 52, 30, 401]) else none) else (bif Nat.beq pc 17 then some (.iload_n 1, 18, .null, [1]) else none)) else (bif Nat.ble pc 18 then (bif Nat.beq pc 18 then some (.iload_n 2, 19, .null, [2]) else none) else (bif Nat.beq pc 19 then some (.invokestatic 153, 22, .null, [2, 48, 2, 2, 99, 505, 507, 20, 506]) else none)))) else (bif Nat.ble pc 36 then (bif Nat.ble pc 25 then (bif Nat.ble pc 22 then (bif Nat.beq pc 22 then some (.ifCond .ne 13, 25, .null, [35]) else none) else (bif Nat.beq pc 25 then some (.new 58, 28, .null, [1, 2, 174, 157, 62, 29, 508]) else none)) else (bif Nat.ble pc 35 then (bif Nat.beq pc 35 then some (.aload_n 0, 36, .null, [0]) else none) else (bif Nat.beq pc 36 then some (.getfield 37, 39, .null, [4, 4, 1, 0, 158, 1]) else none))) else (bif Nat.ble pc 40 then (bif Nat.ble pc 39 then (bif Nat.beq pc 39 then some (.aload_n 0, 40, .null, [0]) else none) else (bif Nat.beq pc 40 then some (.getfield 10, 43, .null, [4, 0, 1, 0, 154, 1]) else none)) else (bif Nat.ble pc 43 then (bif Nat.beq pc 43 then some (.invokevirtual 71, 46, .null, [1, 6, 2, 2, 1, 436, 439, 24, 437, 438]) else none) else (bif Nat.beq pc 46 then some (.aload_n 0, 47, .null, [0]) else none))))) else (bif Nat.ble pc 57 then (bif Nat.ble pc 53 then (bif Nat.ble pc 47 then (bif Nat.beq pc 47 then some (.getfield 10, 50, .null, [4, 0, 1, 0, 154, 1]) else none) else (bif Nat.ble pc 50 then (bif Nat.beq pc 50 then some (.getfield 106, 53, .null, [0, 3, 1, 1, 53, 1]) else none) else (bif Nat.beq pc 53 then some (.iload_n 1, 54, .null, [1]) else none))) else (bif Nat.ble pc 55 then (bif Nat.ble pc 54 then (bif Nat.beq pc 54 then some (.iaload, 55, .null, [0]) else none) else (bif Nat.beq pc 55 then some (.istore_n 3, 56, .null, [3]) else none)) else (bif Nat.ble pc 56 then (bif Nat.beq pc 56 then some (.aload_n 0, 57, .null, [0]) else none) else (bif Nat.beq pc 57 then some (.getfield 10, 60, .null, [4, 0, 1, 0, 154, 1]) else none)))) else (bif Nat.ble pc 65 then (bif Nat.ble pc 63 then (bif Nat.ble pc 60 then (bif Nat.beq pc 60 then some (.getfield 106, 63, .null, [0, 3, 1, 1, 53, 1]) else none) else (bif Nat.beq pc 63 then some (.iload_n 1, 64, .null, [1]) else none)) else (bif Nat.ble pc 64 then (bif Nat.beq pc 64 then some (.iload_n 2, 65, .null, [2]) else none) else (bif Nat.beq pc 65 then some (.iastore, 66, .null, []) else none))) else (bif Nat.ble pc 67 then (bif Nat.ble pc 66 then (bif Nat.beq pc 66 then some (.aload_n 0, 67, .null, [0]) else none) else (bif Nat.beq pc 67 then some (.invokevirtual 41, 70, .null, [1, 54, 1, 2, 4, 123, 126, 20, 125, 0]) else none)) else (bif Nat.ble pc 70 then (bif Nat.beq pc 70 then some (.iload_n 3, 71, .null, [3]) else none) else (bif Nat.beq pc 71 then some (.ireturn, 72, .null, [0]) else none))))))
def mm_k33 : Nat → Option mm_En := fun pc => (bif Nat.ble pc 24 then (bif Nat.ble pc 7 then (bif Nat.ble pc 1 then (bif Nat.ble pc 0 then (bif Nat.beq pc 0 then some (.aload_n 0, 1, .null, [0]) else none) else (bif Nat.beq pc 1 then some (.getfield 37, 4, .null, [4, 4, 1, 0, 158, 1]) else none)) else (bif Nat.ble pc 4 then (bif Nat.beq pc 4 then some (.getfield 191, 7, .null, [1, 2, 0, 1, 115, 0]) else none) else (bif Nat.beq pc 7 then some (.ifCond .ne 13, 10, .null, [20]) else none))) else (bif Nat.ble pc 20 then (bif Nat.ble pc 10 then (bif Nat.beq pc 10 then some (.new 66, 13, .null, [1, 3, 469, 194, 70, 32, 516]) else none) else (bif Nat.beq pc 20 then some (.aload_n 0, 21, .null, [0]) else none)) else (bif Nat.ble pc 21 then (bif Nat.beq pc 21 then some (.getfield 37, 24, .null, [4, 4, 1, 0, 158, 1]) else none) else (bif Nat.beq pc 24 then some (.aload_n 0, 25, .null, [0]) else none)))) else (bif Nat.ble pc 32 then (bif Nat.ble pc 28 then (bif Nat.ble pc 25 then (bif Nat.beq pc 25 then some (.getfield 10, 28, .null, [4, 0, 1, 0, 154, 1]) else none) else (bif Nat.beq pc 28 then some (.invokevirtual 196, 31, .null, [1, 7, 2, 2, 1, 517, 520, 24, 518, 519]) else none)) else (bif Nat.ble pc 31 then (bif Nat.beq pc 31 then some (.aload_n 0, 32, .null, [0]) else none) else (bif Nat.beq pc 32 then some (.invokevirtual 41, 35, .null, [1, 54, 1, 2, 4, 123, 126, 20, 125, 0]) else none))) else (bif Nat.ble pc 36 then (bif Nat.ble pc 35 then (bif Nat.beq pc 35 then some (.aload_n 0, 36, .null, [0]) else none) else (bif Nat.beq pc 36 then some (.getfield 37, 39, .null, [4, 4, 1, 0, 158, 1]) else none)) else (bif Nat.ble pc 39 then (bif Nat.beq pc 39 then some (.getfield 191, 42, .null, [1, 2, 0, 1, 115, 0]) else none) else (bif Nat.beq pc 42 then some (.ireturn, 43, .null, [0]) else none)))))
def mm_k34 : Nat → Option mm_En := fun pc => (bif Nat.ble pc 108 then (bif Nat.ble pc 44 then (bif Nat.ble pc 21 then (bif Nat.ble pc 4 then (bif Nat.ble pc 0 then (bif Nat.beq pc 0 then some (.iload_n 1, 1, .null, [1]) else none) else (bif Nat.ble pc 1 then (bif Nat.beq pc 1 then some (.invokestatic 44, 4, .null, [2, 44, 1, 1, 99, 323, 325, 20, 324]) else none) else (bif Nat.beq pc 4 then some (.ifCond .ne 13, 7, .null, [17]) else none))) else (bif Nat.ble pc 17 then (bif Nat.ble pc 7 then (bif Nat.beq pc 7 then some (.new 48, 10, .null, [1, 1, 326, 50, 52, 30, 335]) else none) else (bif Nat.beq pc 17 then some (.iload_n 2, 18, .null, [2]) else none)) else (bif Nat.ble pc 18 then (bif Nat.beq pc 18 then some (.ifCond .lt 9, 21, .null, [27]) else none) else (bif Nat.beq pc 21 then some (.iload_n 2, 22, .null, [2]) else none)))) else (bif Nat.ble pc 27 then (bif Nat.ble pc 22 then (bif Nat.beq pc 22 then some (.bipush 8, 24, .int 8, []) else none) else (bif Nat.ble pc 24 then (bif Nat.beq pc 24 then some (.if_icmp .lt 13, 27, .null, [37]) else none) else (bif Nat.beq pc 27 then some (.new 58, 30, .null, [1, 2, 174, 199, 62, 29, 342]) else none))) else (bif Nat.ble pc 38 then (bif Nat.ble pc 37 then (bif Nat.beq pc 37 then some (.aload_n 0, 38, .null, [0]) else none) else (bif Nat.beq pc 38 then some (.getfield 10, 41, .null, [4, 0, 1, 0, 154, 1]) else none)) else (bif Nat.ble pc 41 then (bif Nat.beq pc 41 then some (.getfield 75, 44, .null, [0, 0, 1, 1, 48, 1]) else none) else (bif Nat.beq pc 44 then some (.iload_n 1, 45, .null, [1]) else none))))) else (bif Nat.ble pc 53 then (bif Nat.ble pc 47 then (bif Nat.ble pc 45 then (bif Nat.beq pc 45 then some (.iaload, 46, .null, [0]) else none) else (bif Nat.ble pc 46 then (bif Nat.beq pc 46 then some (.istore_n 3, 47, .null, [3]) else none) else (bif Nat.beq pc 47 then some (.aload_n 0, 48, .null, [0]) else none))) else (bif Nat.ble pc 51 then (bif Nat.ble pc 48 then (bif Nat.beq pc 48 then some (.getfield 18, 51, .null, [4, 1, 1, 0, 155, 1]) else none) else (bif Nat.beq pc 51 then some (.iload_n 1, 52, .null, [1]) else none)) else (bif Nat.ble pc 52 then (bif Nat.beq pc 52 then some (.aaload, 53, .null, []) else none) else (bif Nat.beq pc 53 then some (.astore 4, 55, .null, [4]) else none)))) else (bif Nat.ble pc 101 then (bif Nat.ble pc 56 then (bif Nat.ble pc 55 then (bif Nat.beq pc 55 then some (.iload_n 2, 56, .null, [2]) else none) else (bif Nat.beq pc 56 then some (.tableswitch 103 0 6 #[44, 46, 53, 59, 72, 91, 97], 100, .null, [159, 100, 102, 109, 115, 128, 147, 153]) else none)) else (bif Nat.ble pc 100 then (bif Nat.beq pc 100 then some (.iload_n 3, 101, .null, [3]) else none) else (bif Nat.beq pc 101 then some (.ireturn, 102, .null, [0]) else none))) else (bif Nat.ble pc 104 then (bif Nat.ble pc 102 then (bif Nat.beq pc 102 then some (.aload 4, 104, .null, [4]) else none) else (bif Nat.beq pc 104 then some (.iload_n 3, 105, .null, [3]) else none)) else (bif Nat.ble pc 105 then (bif Nat.beq pc 105 then some (.invokevirtual 201, 108, .null, [1, 15, 2, 2, 2, 343, 346, 22, 344, 345]) else none) else (bif Nat.beq pc 108 then some (.ireturn, 109, .null, [0]) else none)))))) else (bif Nat.ble pc 133 then (bif Nat.ble pc 119 then (bif Nat.ble pc 111 then (bif Nat.ble pc 109 then (bif Nat.beq pc 109 then some (.aload_n 0, 110, .null, [0]) else none) else (bif Nat.ble pc 110 then (bif Nat.beq pc 110 then some (.iload_n 1, 111, .null, [1]) else none) else (bif Nat.beq pc 111 then some (.invokevirtual 204, 114, .null, [1, 61, 2, 2, 4, 270, 273, 20, 272, 10]) else none))) else (bif Nat.ble pc 115 then (bif Nat.ble pc 114 then (bif Nat.beq pc 114 then some (.ireturn, 115, .null, [0]) else none) else (bif Nat.beq pc 115 then some (.aload_n 0, 116, .null, [0]) else none)) else (bif Nat.ble pc 116 then (bif Nat.beq pc 116 then some (.getfield 10, 119, .null, [4, 0, 1, 0, 154, 1]) else none) else (bif Nat.beq pc 119 then some (.getfield 103, 122, .null, [0, 1, 1, 1, 50, 1]) else none)))) else (bif Nat.ble pc 127 then (bif Nat.ble pc 123 then (bif Nat.ble pc 122 then (bif Nat.beq pc 122 then some (.iload_n 1, 123, .null, [1]) else none) else (bif Nat.beq pc 123 then some (.iaload, 124, .null, [0]) else none)) else (bif Nat.ble pc 124 then (bif Nat.beq pc 124 then some (.invokestatic 121, 127, .null, [2, 67, 1, 1, 99, 246, 146, 25, 145]) else none) else (bif Nat.beq pc 127 then some (.ireturn, 128, .null, [0]) else none))) else (bif Nat.ble pc 129 then (bif Nat.ble pc 128 then (bif Nat.beq pc 128 then some (.aload_n 0, 129, .null, [0]) else none) else (bif Nat.beq pc 129 then some (.iload_n 1, 130, .null, [1]) else none)) else (bif Nat.ble pc 130 then (bif Nat.beq pc 130 then some (.invokevirtual 207, 133, .null, [1, 60, 2, 2, 4, 255, 258, 20, 257, 8]) else none) else (bif Nat.beq pc 133 then some (.ifCond .eq 12, 136, .null, [145]) else none))))) else (bif Nat.ble pc 147 then (bif Nat.ble pc 139 then (bif Nat.ble pc 136 then (bif Nat.beq pc 136 then some (.aload 4, 138, .null, [4]) else none) else (bif Nat.ble pc 138 then (bif Nat.beq pc 138 then some (.iload_n 3, 139, .null, [3]) else none) else (bif Nat.beq pc 139 then some (.invokevirtual 210, 142, .null, [1, 17, 2, 2, 2, 347, 350, 22, 348, 349]) else none))) else (bif Nat.ble pc 145 then (bif Nat.ble pc 142 then (bif Nat.beq pc 142 then some (.goto 4, 145, .null, [146]) else none) else (bif Nat.beq pc 145 then some (.iconst 0, 146, .int 0, []) else none)) else (bif Nat.ble pc 146 then (bif Nat.beq pc 146 then some (.ireturn, 147, .null, [0]) else none) else (bif Nat.beq pc 147 then some (.aload 4, 149, .null, [4]) else none)))) else (bif Nat.ble pc 155 then (bif Nat.ble pc 152 then (bif Nat.ble pc 149 then (bif Nat.beq pc 149 then some (.invokevirtual 213, 152, .null, [1, 18, 1, 3, 2, 351, 354, 22, 352, 353]) else none) else (bif Nat.beq pc 152 then some (.ireturn, 153, .null, [0]) else none)) else (bif Nat.ble pc 153 then (bif Nat.beq pc 153 then some (.aload 4, 155, .null, [4]) else none) else (bif Nat.beq pc 155 then some (.invokevirtual 216, 158, .null, [1, 21, 1, 5, 2, 355, 358, 22, 356, 357]) else none))) else (bif Nat.ble pc 159 then (bif Nat.ble pc 158 then (bif Nat.beq pc 158 then some (.ireturn, 159, .null, [0]) else none) else (bif Nat.beq pc 159 then some (.aload 4, 161, .null, [4]) else none)) else (bif Nat.ble pc 161 then (bif Nat.beq pc 161 then some (.invokevirtual 219, 164, .null, [1, 20, 1, 2, 2, 359, 362, 22, 360, 361]) else none) else (bif Nat.beq pc 164 then some (.ireturn, 165, .null, [0]) else none)))))))
def mm_k35 : Nat → Option mm_En := fun pc => (bif Nat.ble pc 89 then (bif Nat.ble pc 30 then (bif Nat.ble pc 11 then (bif Nat.ble pc 4 then (bif Nat.ble pc 0 then (bif Nat.beq pc 0 then some (.iload_n 1, 1, .null, [1]) else none) else (bif Nat.ble pc 1 then (bif Nat.beq pc 1 then some (.invokestatic 44, 4, .null, [2, 44, 1, 1, 99, 323, 325, 20, 324]) else none) else (bif Nat.beq pc 4 then some (.ifCond .eq 10, 7, .null, [14]) else none))) else (bif Nat.ble pc 7 then (bif Nat.beq pc 7 then some (.iload_n 2, 8, .null, [2]) else none) else (bif Nat.ble pc 8 then (bif Nat.beq pc 8 then some (.invokestatic 94, 11, .null, [2, 45, 1, 1, 99, 367, 369, 20, 368]) else none) else (bif Nat.beq pc 11 then some (.ifCond .ne 13, 14, .null, [24]) else none)))) else (bif Nat.ble pc 25 then (bif Nat.ble pc 14 then (bif Nat.beq pc 14 then some (.new 48, 17, .null, [1, 1, 326, 97, 52, 30, 370]) else none) else (bif Nat.ble pc 24 then (bif Nat.beq pc 24 then some (.iload_n 3, 25, .null, [3]) else none) else (bif Nat.beq pc 25 then some (.ifCond .lt 8, 28, .null, [33]) else none))) else (bif Nat.ble pc 28 then (bif Nat.beq pc 28 then some (.iload_n 3, 29, .null, [3]) else none) else (bif Nat.ble pc 29 then (bif Nat.beq pc 29 then some (.iconst 4, 30, .int 4, []) else none) else (bif Nat.beq pc 30 then some (.if_icmp .lt 13, 33, .null, [43]) else none))))) else (bif Nat.ble pc 76 then (bif Nat.ble pc 44 then (bif Nat.ble pc 33 then (bif Nat.beq pc 33 then some (.new 58, 36, .null, [1, 2, 174, 199, 62, 29, 342]) else none) else (bif Nat.ble pc 43 then (bif Nat.beq pc 43 then some (.iload_n 3, 44, .null, [3]) else none) else (bif Nat.beq pc 44 then some (.tableswitch 78 0 2 #[28, 50, 60], 72, .null, [122, 72, 94, 104]) else none))) else (bif Nat.ble pc 72 then (bif Nat.beq pc 72 then some (.aload_n 0, 73, .null, [0]) else none) else (bif Nat.ble pc 73 then (bif Nat.beq pc 73 then some (.getfield 10, 76, .null, [4, 0, 1, 0, 154, 1]) else none) else (bif Nat.beq pc 76 then some (.getfield 103, 79, .null, [0, 1, 1, 1, 50, 1]) else none)))) else (bif Nat.ble pc 81 then (bif Nat.ble pc 79 then (bif Nat.beq pc 79 then some (.iload_n 1, 80, .null, [1]) else none) else (bif Nat.ble pc 80 then (bif Nat.beq pc 80 then some (.iaload, 81, .null, [0]) else none) else (bif Nat.beq pc 81 then some (.iload_n 2, 82, .null, [2]) else none))) else (bif Nat.ble pc 85 then (bif Nat.ble pc 82 then (bif Nat.beq pc 82 then some (.invokestatic 222, 85, .null, [2, 50, 2, 2, 99, 291, 293, 20, 292]) else none) else (bif Nat.beq pc 85 then some (.ifCond .eq 7, 88, .null, [92]) else none)) else (bif Nat.ble pc 88 then (bif Nat.beq pc 88 then some (.iconst 1, 89, .int 1, []) else none) else (bif Nat.beq pc 89 then some (.goto 4, 92, .null, [93]) else none)))))) else (bif Nat.ble pc 109 then (bif Nat.ble pc 99 then (bif Nat.ble pc 94 then (bif Nat.ble pc 92 then (bif Nat.beq pc 92 then some (.iconst 0, 93, .int 0, []) else none) else (bif Nat.ble pc 93 then (bif Nat.beq pc 93 then some (.ireturn, 94, .null, [0]) else none) else (bif Nat.beq pc 94 then some (.aload_n 0, 95, .null, [0]) else none))) else (bif Nat.ble pc 95 then (bif Nat.beq pc 95 then some (.getfield 10, 98, .null, [4, 0, 1, 0, 154, 1]) else none) else (bif Nat.ble pc 98 then (bif Nat.beq pc 98 then some (.iload_n 1, 99, .null, [1]) else none) else (bif Nat.beq pc 99 then some (.iload_n 2, 100, .null, [2]) else none)))) else (bif Nat.ble pc 104 then (bif Nat.ble pc 100 then (bif Nat.beq pc 100 then some (.invokevirtual 225, 103, .null, [1, 3, 3, 3, 0, 301, 304, 21, 302, 303]) else none) else (bif Nat.ble pc 103 then (bif Nat.beq pc 103 then some (.ireturn, 104, .null, [0]) else none) else (bif Nat.beq pc 104 then some (.aload_n 0, 105, .null, [0]) else none))) else (bif Nat.ble pc 105 then (bif Nat.beq pc 105 then some (.iload_n 1, 106, .null, [1]) else none) else (bif Nat.ble pc 106 then (bif Nat.beq pc 106 then some (.invokevirtual 204, 109, .null, [1, 61, 2, 2, 4, 270, 273, 20, 272, 10]) else none) else (bif Nat.beq pc 109 then some (.iload_n 2, 110, .null, [2]) else none))))) else (bif Nat.ble pc 121 then (bif Nat.ble pc 116 then (bif Nat.ble pc 110 then (bif Nat.beq pc 110 then some (.invokestatic 222, 113, .null, [2, 50, 2, 2, 99, 291, 293, 20, 292]) else none) else (bif Nat.ble pc 113 then (bif Nat.beq pc 113 then some (.ifCond .eq 7, 116, .null, [120]) else none) else (bif Nat.beq pc 116 then some (.iconst 1, 117, .int 1, []) else none))) else (bif Nat.ble pc 117 then (bif Nat.beq pc 117 then some (.goto 4, 120, .null, [121]) else none) else (bif Nat.ble pc 120 then (bif Nat.beq pc 120 then some (.iconst 0, 121, .int 0, []) else none) else (bif Nat.beq pc 121 then some (.ireturn, 122, .null, [0]) else none)))) else (bif Nat.ble pc 126 then (bif Nat.ble pc 122 then (bif Nat.beq pc 122 then some (.aload_n 0, 123, .null, [0]) else none) else (bif Nat.ble pc 123 then (bif Nat.beq pc 123 then some (.getfield 18, 126, .null, [4, 1, 1, 0, 155, 1]) else none) else (bif Nat.beq pc 126 then some (.iload_n 1, 127, .null, [1]) else none))) else (bif Nat.ble pc 128 then (bif Nat.ble pc 127 then (bif Nat.beq pc 127 then some (.aaload, 128, .null, []) else none) else (bif Nat.beq pc 128 then some (.iload_n 2, 129, .null, [2]) else none)) else (bif Nat.ble pc 129 then (bif Nat.beq pc 129 then some (.invokevirtual 228, 132, .null, [1, 22, 2, 4, 2, 371, 374, 22, 372, 373]) else none) else (bif Nat.beq pc 132 then some (.ireturn, 133, .null, [0]) else none)))))))
def mm_k36 : Nat → Option mm_En := fun pc => (bif Nat.ble pc 47 then (bif Nat.ble pc 24 then (bif Nat.ble pc 7 then (bif Nat.ble pc 1 then (bif Nat.ble pc 0 then (bif Nat.beq pc 0 then some (.iload_n 1, 1, .null, [1]) else none) else (bif Nat.beq pc 1 then some (.invokestatic 44, 4, .null, [2, 44, 1, 1, 99, 323, 325, 20, 324]) else none)) else (bif Nat.ble pc 4 then (bif Nat.beq pc 4 then some (.ifCond .ne 13, 7, .null, [17]) else none) else (bif Nat.beq pc 7 then some (.new 48, 10, .null, [1, 1, 326, 50, 52, 30, 335]) else none))) else (bif Nat.ble pc 18 then (bif Nat.ble pc 17 then (bif Nat.beq pc 17 then some (.iload_n 2, 18, .null, [2]) else none) else (bif Nat.beq pc 18 then some (.invokestatic 55, 21, .null, [2, 46, 1, 1, 99, 383, 265, 20, 264]) else none)) else (bif Nat.ble pc 21 then (bif Nat.beq pc 21 then some (.ifCond .eq 12, 24, .null, [33]) else none) else (bif Nat.beq pc 24 then some (.iload_n 3, 25, .null, [3]) else none)))) else (bif Nat.ble pc 30 then (bif Nat.ble pc 28 then (bif Nat.ble pc 25 then (bif Nat.beq pc 25 then some (.ifCond .lt 8, 28, .null, [33]) else none) else (bif Nat.beq pc 28 then some (.iload_n 3, 29, .null, [3]) else none)) else (bif Nat.ble pc 29 then (bif Nat.beq pc 29 then some (.iconst 3, 30, .int 3, []) else none) else (bif Nat.beq pc 30 then some (.if_icmp .lt 13, 33, .null, [43]) else none))) else (bif Nat.ble pc 43 then (bif Nat.ble pc 33 then (bif Nat.beq pc 33 then some (.new 58, 36, .null, [1, 2, 174, 231, 62, 29, 384]) else none) else (bif Nat.beq pc 43 then some (.aload_n 0, 44, .null, [0]) else none)) else (bif Nat.ble pc 44 then (bif Nat.beq pc 44 then some (.getfield 18, 47, .null, [4, 1, 1, 0, 155, 1]) else none) else (bif Nat.beq pc 47 then some (.iload_n 1, 48, .null, [1]) else none))))) else (bif Nat.ble pc 86 then (bif Nat.ble pc 52 then (bif Nat.ble pc 49 then (bif Nat.ble pc 48 then (bif Nat.beq pc 48 then some (.aaload, 49, .null, []) else none) else (bif Nat.beq pc 49 then some (.astore 4, 51, .null, [4]) else none)) else (bif Nat.ble pc 51 then (bif Nat.beq pc 51 then some (.iload_n 3, 52, .null, [3]) else none) else (bif Nat.beq pc 52 then some (.lookupswitch 42 #[(0, 28), (1, 35)], 80, .null, [94, 0, 80, 1, 87]) else none))) else (bif Nat.ble pc 82 then (bif Nat.ble pc 80 then (bif Nat.beq pc 80 then some (.aload 4, 82, .null, [4]) else none) else (bif Nat.beq pc 82 then some (.iload_n 2, 83, .null, [2]) else none)) else (bif Nat.ble pc 83 then (bif Nat.beq pc 83 then some (.invokevirtual 201, 86, .null, [1, 15, 2, 2, 2, 343, 346, 22, 344, 345]) else none) else (bif Nat.beq pc 86 then some (.ireturn, 87, .null, [0]) else none)))) else (bif Nat.ble pc 93 then (bif Nat.ble pc 89 then (bif Nat.ble pc 87 then (bif Nat.beq pc 87 then some (.aload 4, 89, .null, [4]) else none) else (bif Nat.beq pc 89 then some (.iload_n 2, 90, .null, [2]) else none)) else (bif Nat.ble pc 90 then (bif Nat.beq pc 90 then some (.invokevirtual 233, 93, .null, [1, 16, 2, 2, 2, 274, 277, 22, 275, 276]) else none) else (bif Nat.beq pc 93 then some (.ireturn, 94, .null, [0]) else none))) else (bif Nat.ble pc 96 then (bif Nat.ble pc 94 then (bif Nat.beq pc 94 then some (.aload 4, 96, .null, [4]) else none) else (bif Nat.beq pc 96 then some (.iload_n 2, 97, .null, [2]) else none)) else (bif Nat.ble pc 97 then (bif Nat.beq pc 97 then some (.invokevirtual 210, 100, .null, [1, 17, 2, 2, 2, 347, 350, 22, 348, 349]) else none) else (bif Nat.beq pc 100 then some (.ireturn, 101, .null, [0]) else none))))))
def mm_k37 : Nat → Option mm_En := fun pc => (bif Nat.ble pc 22 then (bif Nat.ble pc 7 then (bif Nat.ble pc 1 then (bif Nat.ble pc 0 then (bif Nat.beq pc 0 then some (.iload_n 1, 1, .null, [1]) else none) else (bif Nat.beq pc 1 then some (.invokestatic 44, 4, .null, [2, 44, 1, 1, 99, 323, 325, 20, 324]) else none)) else (bif Nat.ble pc 4 then (bif Nat.beq pc 4 then some (.ifCond .ne 13, 7, .null, [17]) else none) else (bif Nat.beq pc 7 then some (.new 48, 10, .null, [1, 1, 326, 50, 52, 30, 335]) else none))) else (bif Nat.ble pc 18 then (bif Nat.ble pc 17 then (bif Nat.beq pc 17 then some (.iload_n 2, 18, .null, [2]) else none) else (bif Nat.beq pc 18 then some (.ifCond .lt 10, 21, .null, [28]) else none)) else (bif Nat.ble pc 21 then (bif Nat.beq pc 21 then some (.iload_n 2, 22, .null, [2]) else none) else (bif Nat.beq pc 22 then some (.sipush 32767, 25, .int 32767, []) else none)))) else (bif Nat.ble pc 39 then (bif Nat.ble pc 28 then (bif Nat.ble pc 25 then (bif Nat.beq pc 25 then some (.if_icmp .le 13, 28, .null, [38]) else none) else (bif Nat.beq pc 28 then some (.new 58, 31, .null, [1, 2, 174, 236, 62, 29, 389]) else none)) else (bif Nat.ble pc 38 then (bif Nat.beq pc 38 then some (.aload_n 0, 39, .null, [0]) else none) else (bif Nat.beq pc 39 then some (.getfield 18, 42, .null, [4, 1, 1, 0, 155, 1]) else none))) else (bif Nat.ble pc 43 then (bif Nat.ble pc 42 then (bif Nat.beq pc 42 then some (.iload_n 1, 43, .null, [1]) else none) else (bif Nat.beq pc 43 then some (.aaload, 44, .null, []) else none)) else (bif Nat.ble pc 44 then (bif Nat.beq pc 44 then some (.iload_n 2, 45, .null, [2]) else none) else (bif Nat.ble pc 45 then (bif Nat.beq pc 45 then some (.invokevirtual 238, 48, .null, [1, 24, 2, 6, 2, 390, 393, 22, 391, 392]) else none) else (bif Nat.beq pc 48 then some (.ireturn, 49, .null, [0]) else none))))))
def mm_k38 : Nat → Option mm_En := fun pc => (bif Nat.ble pc 82 then (bif Nat.ble pc 64 then (bif Nat.ble pc 5 then (bif Nat.ble pc 1 then (bif Nat.ble pc 0 then (bif Nat.beq pc 0 then some (.iload_n 1, 1, .null, [1]) else none) else (bif Nat.beq pc 1 then some (.ifCond .lt 9, 4, .null, [10]) else none)) else (bif Nat.ble pc 4 then (bif Nat.beq pc 4 then some (.iload_n 1, 5, .null, [1]) else none) else (bif Nat.beq pc 5 then some (.bipush 8, 7, .int 8, []) else none))) else (bif Nat.ble pc 10 then (bif Nat.ble pc 7 then (bif Nat.beq pc 7 then some (.if_icmp .lt 13, 10, .null, [20]) else none) else (bif Nat.beq pc 10 then some (.new 58, 13, .null, [1, 2, 174, 241, 62, 29, 215]) else none)) else (bif Nat.ble pc 20 then (bif Nat.beq pc 20 then some (.iload_n 1, 21, .null, [1]) else none) else (bif Nat.ble pc 21 then (bif Nat.beq pc 21 then some (.tableswitch 89 0 6 #[43, 51, 56, 61, 71, 76, 84], 64, .null, [110, 64, 72, 77, 82, 92, 97, 105]) else none) else (bif Nat.beq pc 64 then some (.aload_n 0, 65, .null, [0]) else none))))) else (bif Nat.ble pc 73 then (bif Nat.ble pc 68 then (bif Nat.ble pc 65 then (bif Nat.beq pc 65 then some (.getfield 10, 68, .null, [4, 0, 1, 0, 154, 1]) else none) else (bif Nat.beq pc 68 then some (.getfield 129, 71, .null, [0, 4, 0, 1, 55, 0]) else none)) else (bif Nat.ble pc 71 then (bif Nat.beq pc 71 then some (.ireturn, 72, .null, [0]) else none) else (bif Nat.ble pc 72 then (bif Nat.beq pc 72 then some (.aload_n 0, 73, .null, [0]) else none) else (bif Nat.beq pc 73 then some (.invokevirtual 188, 76, .null, [1, 62, 1, 3, 4, 242, 245, 20, 244, 5]) else none)))) else (bif Nat.ble pc 77 then (bif Nat.ble pc 76 then (bif Nat.beq pc 76 then some (.ireturn, 77, .null, [0]) else none) else (bif Nat.beq pc 77 then some (.aload_n 0, 78, .null, [0]) else none)) else (bif Nat.ble pc 78 then (bif Nat.beq pc 78 then some (.invokevirtual 90, 81, .null, [1, 64, 1, 3, 4, 247, 250, 20, 249, 6]) else none) else (bif Nat.ble pc 81 then (bif Nat.beq pc 81 then some (.ireturn, 82, .null, [0]) else none) else (bif Nat.beq pc 82 then some (.aload_n 0, 83, .null, [0]) else none)))))) else (bif Nat.ble pc 97 then (bif Nat.ble pc 90 then (bif Nat.ble pc 86 then (bif Nat.ble pc 83 then (bif Nat.beq pc 83 then some (.invokevirtual 90, 86, .null, [1, 64, 1, 3, 4, 247, 250, 20, 249, 6]) else none) else (bif Nat.beq pc 86 then some (.aload_n 0, 87, .null, [0]) else none)) else (bif Nat.ble pc 87 then (bif Nat.beq pc 87 then some (.invokevirtual 243, 90, .null, [1, 65, 1, 3, 4, 251, 254, 20, 253, 7]) else none) else (bif Nat.beq pc 90 then some (.isub, 91, .null, []) else none))) else (bif Nat.ble pc 92 then (bif Nat.ble pc 91 then (bif Nat.beq pc 91 then some (.ireturn, 92, .null, [0]) else none) else (bif Nat.beq pc 92 then some (.aload_n 0, 93, .null, [0]) else none)) else (bif Nat.ble pc 93 then (bif Nat.beq pc 93 then some (.invokevirtual 246, 96, .null, [1, 63, 1, 3, 4, 266, 269, 20, 268, 9]) else none) else (bif Nat.ble pc 96 then (bif Nat.beq pc 96 then some (.ireturn, 97, .null, [0]) else none) else (bif Nat.beq pc 97 then some (.aload_n 0, 98, .null, [0]) else none))))) else (bif Nat.ble pc 106 then (bif Nat.ble pc 101 then (bif Nat.ble pc 98 then (bif Nat.beq pc 98 then some (.getfield 10, 101, .null, [4, 0, 1, 0, 154, 1]) else none) else (bif Nat.beq pc 101 then some (.getfield 145, 104, .null, [0, 5, 0, 1, 57, 0]) else none)) else (bif Nat.ble pc 104 then (bif Nat.beq pc 104 then some (.ireturn, 105, .null, [0]) else none) else (bif Nat.ble pc 105 then (bif Nat.beq pc 105 then some (.aload_n 0, 106, .null, [0]) else none) else (bif Nat.beq pc 106 then some (.invokevirtual 249, 109, .null, [1, 66, 1, 3, 4, 279, 282, 20, 281, 11]) else none)))) else (bif Nat.ble pc 110 then (bif Nat.ble pc 109 then (bif Nat.beq pc 109 then some (.ireturn, 110, .null, [0]) else none) else (bif Nat.beq pc 110 then some (.aload_n 0, 111, .null, [0]) else none)) else (bif Nat.ble pc 111 then (bif Nat.beq pc 111 then some (.getfield 37, 114, .null, [4, 4, 1, 0, 158, 1]) else none) else (bif Nat.ble pc 114 then (bif Nat.beq pc 114 then some (.getfield 191, 117, .null, [1, 2, 0, 1, 115, 0]) else none) else (bif Nat.beq pc 117 then some (.ireturn, 118, .null, [0]) else none)))))))
def mm_k39 : Nat → Option mm_En := fun pc => (bif Nat.ble pc 17 then (bif Nat.ble pc 1 then (bif Nat.ble pc 0 then (bif Nat.beq pc 0 then some (.iload_n 1, 1, .null, [1]) else none) else (bif Nat.beq pc 1 then some (.invokestatic 148, 4, .null, [2, 47, 1, 1, 99, 398, 400, 20, 399]) else none)) else (bif Nat.ble pc 4 then (bif Nat.beq pc 4 then some (.ifCond .ne 13, 7, .null, [17]) else none) else (bif Nat.ble pc 7 then (bif Nat.beq pc 7 then some (.new 48, 10, .null, [1, 1, 326, 151, 52, 30, 401]) else none) else (bif Nat.beq pc 17 then some (.aload_n 0, 18, .null, [0]) else none)))) else (bif Nat.ble pc 21 then (bif Nat.ble pc 18 then (bif Nat.beq pc 18 then some (.getfield 10, 21, .null, [4, 0, 1, 0, 154, 1]) else none) else (bif Nat.beq pc 21 then some (.getfield 106, 24, .null, [0, 3, 1, 1, 53, 1]) else none)) else (bif Nat.ble pc 24 then (bif Nat.beq pc 24 then some (.iload_n 1, 25, .null, [1]) else none) else (bif Nat.ble pc 25 then (bif Nat.beq pc 25 then some (.iaload, 26, .null, [0]) else none) else (bif Nat.beq pc 26 then some (.ireturn, 27, .null, [0]) else none)))))
def mm_k40 : Nat → Option mm_En := fun pc => (bif Nat.ble pc 61 then (bif Nat.ble pc 29 then (bif Nat.ble pc 19 then (bif Nat.ble pc 4 then (bif Nat.ble pc 0 then (bif Nat.beq pc 0 then some (.iload_n 1, 1, .null, [1]) else none) else (bif Nat.ble pc 1 then (bif Nat.beq pc 1 then some (.invokestatic 44, 4, .null, [2, 44, 1, 1, 99, 323, 325, 20, 324]) else none) else (bif Nat.beq pc 4 then some (.ifCond .ne 13, 7, .null, [17]) else none))) else (bif Nat.ble pc 17 then (bif Nat.ble pc 7 then (bif Nat.beq pc 7 then some (.new 48, 10, .null, [1, 1, 326, 50, 52, 30, 335]) else none) else (bif Nat.beq pc 17 then some (.iconst (-1), 18, .int (-1), []) else none)) else (bif Nat.ble pc 18 then (bif Nat.beq pc 18 then some (.istore_n 2, 19, .null, [2]) else none) else (bif Nat.beq pc 19 then some (.iconst (-1), 20, .int (-1), []) else none)))) else (bif Nat.ble pc 22 then (bif Nat.ble pc 20 then (bif Nat.beq pc 20 then some (.istore_n 3, 21, .null, [3]) else none) else (bif Nat.ble pc 21 then (bif Nat.beq pc 21 then some (.iconst (-1), 22, .int (-1), []) else none) else (bif Nat.beq pc 22 then some (.istore 4, 24, .null, [4]) else none))) else (bif Nat.ble pc 25 then (bif Nat.ble pc 24 then (bif Nat.beq pc 24 then some (.iconst 0, 25, .int 0, []) else none) else (bif Nat.beq pc 25 then some (.istore 5, 27, .null, [5]) else none)) else (bif Nat.ble pc 27 then (bif Nat.beq pc 27 then some (.iload 5, 29, .null, [5]) else none) else (bif Nat.beq pc 29 then some (.bipush 15, 31, .int 15, []) else none))))) else (bif Nat.ble pc 43 then (bif Nat.ble pc 35 then (bif Nat.ble pc 31 then (bif Nat.beq pc 31 then some (.if_icmp .ge 89, 34, .null, [120]) else none) else (bif Nat.ble pc 34 then (bif Nat.beq pc 34 then some (.aload_n 0, 35, .null, [0]) else none) else (bif Nat.beq pc 35 then some (.getfield 10, 38, .null, [4, 0, 1, 0, 154, 1]) else none))) else (bif Nat.ble pc 41 then (bif Nat.ble pc 38 then (bif Nat.beq pc 38 then some (.getfield 103, 41, .null, [0, 1, 1, 1, 50, 1]) else none) else (bif Nat.beq pc 41 then some (.iload_n 1, 42, .null, [1]) else none)) else (bif Nat.ble pc 42 then (bif Nat.beq pc 42 then some (.iaload, 43, .null, [0]) else none) else (bif Nat.beq pc 43 then some (.iload 5, 45, .null, [5]) else none)))) else (bif Nat.ble pc 54 then (bif Nat.ble pc 48 then (bif Nat.ble pc 45 then (bif Nat.beq pc 45 then some (.invokestatic 222, 48, .null, [2, 50, 2, 2, 99, 291, 293, 20, 292]) else none) else (bif Nat.beq pc 48 then some (.ifCond .eq 6, 51, .null, [54]) else none)) else (bif Nat.ble pc 51 then (bif Nat.beq pc 51 then some (.goto 63, 54, .null, [114]) else none) else (bif Nat.beq pc 54 then some (.aload_n 0, 55, .null, [0]) else none))) else (bif Nat.ble pc 56 then (bif Nat.ble pc 55 then (bif Nat.beq pc 55 then some (.iload_n 1, 56, .null, [1]) else none) else (bif Nat.beq pc 56 then some (.iload 5, 58, .null, [5]) else none)) else (bif Nat.ble pc 58 then (bif Nat.beq pc 58 then some (.invokevirtual 252, 61, .null, [1, 55, 3, 3, 4, 415, 418, 20, 417, 14]) else none) else (bif Nat.beq pc 61 then some (.aload_n 0, 62, .null, [0]) else none)))))) else (bif Nat.ble pc 91 then (bif Nat.ble pc 75 then (bif Nat.ble pc 68 then (bif Nat.ble pc 62 then (bif Nat.beq pc 62 then some (.getfield 23, 65, .null, [4, 2, 1, 0, 156, 1]) else none) else (bif Nat.ble pc 65 then (bif Nat.beq pc 65 then some (.invokevirtual 255, 68, .null, [1, 19, 1, 1, 2, 406, 409, 22, 407, 408]) else none) else (bif Nat.beq pc 68 then some (.istore 6, 70, .null, [6]) else none))) else (bif Nat.ble pc 71 then (bif Nat.ble pc 70 then (bif Nat.beq pc 70 then some (.aload_n 0, 71, .null, [0]) else none) else (bif Nat.beq pc 71 then some (.getfield 23, 74, .null, [4, 2, 1, 0, 156, 1]) else none)) else (bif Nat.ble pc 74 then (bif Nat.beq pc 74 then some (.aload_n 0, 75, .null, [0]) else none) else (bif Nat.beq pc 75 then some (.getfield 18, 78, .null, [4, 1, 1, 0, 155, 1]) else none)))) else (bif Nat.ble pc 83 then (bif Nat.ble pc 79 then (bif Nat.ble pc 78 then (bif Nat.beq pc 78 then some (.iload_n 1, 79, .null, [1]) else none) else (bif Nat.beq pc 79 then some (.aaload, 80, .null, []) else none)) else (bif Nat.ble pc 80 then (bif Nat.beq pc 80 then some (.invokevirtual 113, 83, .null, [1, 23, 2, 4, 2, 419, 422, 22, 420, 421]) else none) else (bif Nat.beq pc 83 then some (.istore 7, 85, .null, [7]) else none))) else (bif Nat.ble pc 87 then (bif Nat.ble pc 85 then (bif Nat.beq pc 85 then some (.iload 6, 87, .null, [6]) else none) else (bif Nat.beq pc 87 then some (.iload_n 3, 88, .null, [3]) else none)) else (bif Nat.ble pc 88 then (bif Nat.beq pc 88 then some (.if_icmp .gt 16, 91, .null, [104]) else none) else (bif Nat.beq pc 91 then some (.iload 6, 93, .null, [6]) else none))))) else (bif Nat.ble pc 106 then (bif Nat.ble pc 97 then (bif Nat.ble pc 93 then (bif Nat.beq pc 93 then some (.iload_n 3, 94, .null, [3]) else none) else (bif Nat.ble pc 94 then (bif Nat.beq pc 94 then some (.if_icmp .ne 20, 97, .null, [114]) else none) else (bif Nat.beq pc 97 then some (.iload 7, 99, .null, [7]) else none))) else (bif Nat.ble pc 101 then (bif Nat.ble pc 99 then (bif Nat.beq pc 99 then some (.iload 4, 101, .null, [4]) else none) else (bif Nat.beq pc 101 then some (.if_icmp .le 13, 104, .null, [114]) else none)) else (bif Nat.ble pc 104 then (bif Nat.beq pc 104 then some (.iload 5, 106, .null, [5]) else none) else (bif Nat.beq pc 106 then some (.istore_n 2, 107, .null, [2]) else none)))) else (bif Nat.ble pc 112 then (bif Nat.ble pc 109 then (bif Nat.ble pc 107 then (bif Nat.beq pc 107 then some (.iload 6, 109, .null, [6]) else none) else (bif Nat.beq pc 109 then some (.istore_n 3, 110, .null, [3]) else none)) else (bif Nat.ble pc 110 then (bif Nat.beq pc 110 then some (.iload 7, 112, .null, [7]) else none) else (bif Nat.beq pc 112 then some (.istore 4, 114, .null, [4]) else none))) else (bif Nat.ble pc 117 then (bif Nat.ble pc 114 then (bif Nat.beq pc 114 then some (.iinc 5 1, 117, .int 1, [5]) else none) else (bif Nat.beq pc 117 then some (.goto (-90), 120, .null, [27]) else none)) else (bif Nat.ble pc 120 then (bif Nat.beq pc 120 then some (.iload_n 2, 121, .null, [2]) else none) else (bif Nat.beq pc 121 then some (.ireturn, 122, .null, [0]) else none)))))))
def mm_k41 : Nat → Option mm_En := fun pc => (bif Nat.ble pc 32 then (bif Nat.ble pc 19 then (bif Nat.ble pc 4 then (bif Nat.ble pc 0 then (bif Nat.beq pc 0 then some (.iload_n 1, 1, .null, [1]) else none) else (bif Nat.ble pc 1 then (bif Nat.beq pc 1 then some (.invokestatic 44, 4, .null, [2, 44, 1, 1, 99, 323, 325, 20, 324]) else none) else (bif Nat.beq pc 4 then some (.ifCond .ne 13, 7, .null, [17]) else none))) else (bif Nat.ble pc 17 then (bif Nat.ble pc 7 then (bif Nat.beq pc 7 then some (.new 48, 10, .null, [1, 1, 326, 50, 52, 30, 335]) else none) else (bif Nat.beq pc 17 then some (.iconst 5, 18, .int 5, []) else none)) else (bif Nat.ble pc 18 then (bif Nat.beq pc 18 then some (.istore_n 2, 19, .null, [2]) else none) else (bif Nat.beq pc 19 then some (.iload_n 2, 20, .null, [2]) else none)))) else (bif Nat.ble pc 24 then (bif Nat.ble pc 20 then (bif Nat.beq pc 20 then some (.iconst 1, 21, .int 1, []) else none) else (bif Nat.ble pc 21 then (bif Nat.beq pc 21 then some (.if_icmp .lt 38, 24, .null, [59]) else none) else (bif Nat.beq pc 24 then some (.aload_n 0, 25, .null, [0]) else none))) else (bif Nat.ble pc 28 then (bif Nat.ble pc 25 then (bif Nat.beq pc 25 then some (.getfield 23, 28, .null, [4, 2, 1, 0, 156, 1]) else none) else (bif Nat.beq pc 28 then some (.aload_n 0, 29, .null, [0]) else none)) else (bif Nat.ble pc 29 then (bif Nat.beq pc 29 then some (.getfield 10, 32, .null, [4, 0, 1, 0, 154, 1]) else none) else (bif Nat.beq pc 32 then some (.getfield 103, 35, .null, [0, 1, 1, 1, 50, 1]) else none))))) else (bif Nat.ble pc 45 then (bif Nat.ble pc 37 then (bif Nat.ble pc 35 then (bif Nat.beq pc 35 then some (.iload_n 1, 36, .null, [1]) else none) else (bif Nat.ble pc 36 then (bif Nat.beq pc 36 then some (.iaload, 37, .null, [0]) else none) else (bif Nat.beq pc 37 then some (.iload_n 2, 38, .null, [2]) else none))) else (bif Nat.ble pc 41 then (bif Nat.ble pc 38 then (bif Nat.beq pc 38 then some (.invokevirtual 109, 41, .null, [1, 10, 3, 4, 2, 131, 134, 22, 132, 133]) else none) else (bif Nat.beq pc 41 then some (.aload_n 0, 42, .null, [0]) else none)) else (bif Nat.ble pc 42 then (bif Nat.beq pc 42 then some (.getfield 23, 45, .null, [4, 2, 1, 0, 156, 1]) else none) else (bif Nat.beq pc 45 then some (.invokevirtual 255, 48, .null, [1, 19, 1, 1, 2, 406, 409, 22, 407, 408]) else none)))) else (bif Nat.ble pc 52 then (bif Nat.ble pc 48 then (bif Nat.beq pc 48 then some (.ifCond .ne 5, 51, .null, [53]) else none) else (bif Nat.ble pc 51 then (bif Nat.beq pc 51 then some (.iload_n 2, 52, .null, [2]) else none) else (bif Nat.beq pc 52 then some (.ireturn, 53, .null, [0]) else none))) else (bif Nat.ble pc 56 then (bif Nat.ble pc 53 then (bif Nat.beq pc 53 then some (.iinc 2 (-1), 56, .int (-1), [2]) else none) else (bif Nat.beq pc 56 then some (.goto (-37), 59, .null, [19]) else none)) else (bif Nat.ble pc 59 then (bif Nat.beq pc 59 then some (.iconst 0, 60, .int 0, []) else none) else (bif Nat.beq pc 60 then some (.ireturn, 61, .null, [0]) else none))))))
def mm_k42 : Nat → Option mm_En := fun pc => (bif Nat.ble pc 23 then (bif Nat.ble pc 9 then (bif Nat.ble pc 3 then (bif Nat.ble pc 1 then (bif Nat.ble pc 0 then (bif Nat.beq pc 0 then some (.iconst (-1), 1, .int (-1), []) else none) else (bif Nat.beq pc 1 then some (.istore_n 1, 2, .null, [1]) else none)) else (bif Nat.ble pc 2 then (bif Nat.beq pc 2 then some (.iconst 0, 3, .int 0, []) else none) else (bif Nat.beq pc 3 then some (.istore_n 2, 4, .null, [2]) else none))) else (bif Nat.ble pc 5 then (bif Nat.ble pc 4 then (bif Nat.beq pc 4 then some (.iload_n 2, 5, .null, [2]) else none) else (bif Nat.beq pc 5 then some (.iconst 4, 6, .int 4, []) else none)) else (bif Nat.ble pc 6 then (bif Nat.beq pc 6 then some (.if_icmp .ge 51, 9, .null, [57]) else none) else (bif Nat.beq pc 9 then some (.iconst 0, 10, .int 0, []) else none)))) else (bif Nat.ble pc 14 then (bif Nat.ble pc 11 then (bif Nat.ble pc 10 then (bif Nat.beq pc 10 then some (.istore_n 3, 11, .null, [3]) else none) else (bif Nat.beq pc 11 then some (.iload_n 3, 12, .null, [3]) else none)) else (bif Nat.ble pc 12 then (bif Nat.beq pc 12 then some (.bipush 15, 14, .int 15, []) else none) else (bif Nat.beq pc 14 then some (.if_icmp .ge 37, 17, .null, [51]) else none))) else (bif Nat.ble pc 18 then (bif Nat.ble pc 17 then (bif Nat.beq pc 17 then some (.aload_n 0, 18, .null, [0]) else none) else (bif Nat.beq pc 18 then some (.iload_n 2, 19, .null, [2]) else none)) else (bif Nat.ble pc 19 then (bif Nat.beq pc 19 then some (.iload_n 3, 20, .null, [3]) else none) else (bif Nat.ble pc 20 then (bif Nat.beq pc 20 then some (.invokevirtual 258, 23, .null, [1, 59, 3, 4, 4, 287, 290, 20, 289, 12]) else none) else (bif Nat.beq pc 23 then some (.istore 4, 25, .null, [4]) else none)))))) else (bif Nat.ble pc 38 then (bif Nat.ble pc 31 then (bif Nat.ble pc 27 then (bif Nat.ble pc 25 then (bif Nat.beq pc 25 then some (.iload 4, 27, .null, [4]) else none) else (bif Nat.beq pc 27 then some (.iconst (-1), 28, .int (-1), []) else none)) else (bif Nat.ble pc 28 then (bif Nat.beq pc 28 then some (.if_icmp .eq 17, 31, .null, [45]) else none) else (bif Nat.beq pc 31 then some (.iload_n 1, 32, .null, [1]) else none))) else (bif Nat.ble pc 33 then (bif Nat.ble pc 32 then (bif Nat.beq pc 32 then some (.iconst (-1), 33, .int (-1), []) else none) else (bif Nat.beq pc 33 then some (.if_icmp .eq 9, 36, .null, [42]) else none)) else (bif Nat.ble pc 36 then (bif Nat.beq pc 36 then some (.iload 4, 38, .null, [4]) else none) else (bif Nat.beq pc 38 then some (.iload_n 1, 39, .null, [1]) else none)))) else (bif Nat.ble pc 45 then (bif Nat.ble pc 42 then (bif Nat.ble pc 39 then (bif Nat.beq pc 39 then some (.if_icmp .ge 6, 42, .null, [45]) else none) else (bif Nat.beq pc 42 then some (.iload 4, 44, .null, [4]) else none)) else (bif Nat.ble pc 44 then (bif Nat.beq pc 44 then some (.istore_n 1, 45, .null, [1]) else none) else (bif Nat.beq pc 45 then some (.iinc 3 1, 48, .int 1, [3]) else none))) else (bif Nat.ble pc 51 then (bif Nat.ble pc 48 then (bif Nat.beq pc 48 then some (.goto (-37), 51, .null, [11]) else none) else (bif Nat.beq pc 51 then some (.iinc 2 1, 54, .int 1, [2]) else none)) else (bif Nat.ble pc 54 then (bif Nat.beq pc 54 then some (.goto (-50), 57, .null, [4]) else none) else (bif Nat.ble pc 57 then (bif Nat.beq pc 57 then some (.iload_n 1, 58, .null, [1]) else none) else (bif Nat.beq pc 58 then some (.ireturn, 59, .null, [0]) else none)))))))
def mm_k43 : Nat → Option mm_En := fun pc => (bif Nat.ble pc 16 then (bif Nat.ble pc 5 then (bif Nat.ble pc 2 then (bif Nat.ble pc 0 then (bif Nat.beq pc 0 then some (.iconst 0, 1, .int 0, []) else none) else (bif Nat.ble pc 1 then (bif Nat.beq pc 1 then some (.istore_n 1, 2, .null, [1]) else none) else (bif Nat.beq pc 2 then some (.iconst 0, 3, .int 0, []) else none))) else (bif Nat.ble pc 3 then (bif Nat.beq pc 3 then some (.istore_n 2, 4, .null, [2]) else none) else (bif Nat.ble pc 4 then (bif Nat.beq pc 4 then some (.iload_n 2, 5, .null, [2]) else none) else (bif Nat.beq pc 5 then some (.iconst 4, 6, .int 4, []) else none)))) else (bif Nat.ble pc 10 then (bif Nat.ble pc 6 then (bif Nat.beq pc 6 then some (.if_icmp .ge 24, 9, .null, [30]) else none) else (bif Nat.ble pc 9 then (bif Nat.beq pc 9 then some (.iload_n 1, 10, .null, [1]) else none) else (bif Nat.beq pc 10 then some (.bipush 10, 12, .int 10, []) else none))) else (bif Nat.ble pc 12 then (bif Nat.beq pc 12 then some (.aload_n 0, 13, .null, [0]) else none) else (bif Nat.ble pc 13 then (bif Nat.beq pc 13 then some (.getfield 18, 16, .null, [4, 1, 1, 0, 155, 1]) else none) else (bif Nat.beq pc 16 then some (.iload_n 2, 17, .null, [2]) else none))))) else (bif Nat.ble pc 24 then (bif Nat.ble pc 21 then (bif Nat.ble pc 17 then (bif Nat.beq pc 17 then some (.aaload, 18, .null, []) else none) else (bif Nat.ble pc 18 then (bif Nat.beq pc 18 then some (.invokevirtual 255, 21, .null, [1, 19, 1, 1, 2, 406, 409, 22, 407, 408]) else none) else (bif Nat.beq pc 21 then some (.isub, 22, .null, []) else none))) else (bif Nat.ble pc 22 then (bif Nat.beq pc 22 then some (.iadd, 23, .null, []) else none) else (bif Nat.ble pc 23 then (bif Nat.beq pc 23 then some (.istore_n 1, 24, .null, [1]) else none) else (bif Nat.beq pc 24 then some (.iinc 2 1, 27, .int 1, [2]) else none)))) else (bif Nat.ble pc 31 then (bif Nat.ble pc 27 then (bif Nat.beq pc 27 then some (.goto (-23), 30, .null, [4]) else none) else (bif Nat.ble pc 30 then (bif Nat.beq pc 30 then some (.iload_n 1, 31, .null, [1]) else none) else (bif Nat.beq pc 31 then some (.i2d, 32, .null, []) else none))) else (bif Nat.ble pc 32 then (bif Nat.beq pc 32 then some (.ldc2_w 261, 35, .double 4630826316843712512, [427]) else none) else (bif Nat.ble pc 35 then (bif Nat.beq pc 35 then some (.ddiv, 36, .null, []) else none) else (bif Nat.beq pc 36 then some (.dreturn, 37, .null, []) else none))))))
def mm_k44 : Nat → Option mm_En := fun pc => (bif Nat.ble pc 5 then (bif Nat.ble pc 1 then (bif Nat.ble pc 0 then (bif Nat.beq pc 0 then some (.iload_n 0, 1, .null, [0]) else none) else (bif Nat.beq pc 1 then some (.ifCond .lt 12, 4, .null, [13]) else none)) else (bif Nat.ble pc 4 then (bif Nat.beq pc 4 then some (.iload_n 0, 5, .null, [0]) else none) else (bif Nat.beq pc 5 then some (.iconst 4, 6, .int 4, []) else none))) else (bif Nat.ble pc 9 then (bif Nat.ble pc 6 then (bif Nat.beq pc 6 then some (.if_icmp .ge 7, 9, .null, [13]) else none) else (bif Nat.beq pc 9 then some (.iconst 1, 10, .int 1, []) else none)) else (bif Nat.ble pc 10 then (bif Nat.beq pc 10 then some (.goto 4, 13, .null, [14]) else none) else (bif Nat.ble pc 13 then (bif Nat.beq pc 13 then some (.iconst 0, 14, .int 0, []) else none) else (bif Nat.beq pc 14 then some (.ireturn, 15, .null, [1]) else none)))))
def mm_k45 : Nat → Option mm_En := fun pc => (bif Nat.ble pc 5 then (bif Nat.ble pc 1 then (bif Nat.ble pc 0 then (bif Nat.beq pc 0 then some (.iload_n 0, 1, .null, [0]) else none) else (bif Nat.beq pc 1 then some (.ifCond .lt 13, 4, .null, [14]) else none)) else (bif Nat.ble pc 4 then (bif Nat.beq pc 4 then some (.iload_n 0, 5, .null, [0]) else none) else (bif Nat.beq pc 5 then some (.bipush 15, 7, .int 15, []) else none))) else (bif Nat.ble pc 10 then (bif Nat.ble pc 7 then (bif Nat.beq pc 7 then some (.if_icmp .ge 7, 10, .null, [14]) else none) else (bif Nat.beq pc 10 then some (.iconst 1, 11, .int 1, []) else none)) else (bif Nat.ble pc 11 then (bif Nat.beq pc 11 then some (.goto 4, 14, .null, [15]) else none) else (bif Nat.ble pc 14 then (bif Nat.beq pc 14 then some (.iconst 0, 15, .int 0, []) else none) else (bif Nat.beq pc 15 then some (.ireturn, 16, .null, [1]) else none)))))
def mm_k46 : Nat → Option mm_En := fun pc => (bif Nat.ble pc 5 then (bif Nat.ble pc 1 then (bif Nat.ble pc 0 then (bif Nat.beq pc 0 then some (.iload_n 0, 1, .null, [0]) else none) else (bif Nat.beq pc 1 then some (.ifCond .lt 13, 4, .null, [14]) else none)) else (bif Nat.ble pc 4 then (bif Nat.beq pc 4 then some (.iload_n 0, 5, .null, [0]) else none) else (bif Nat.beq pc 5 then some (.bipush 10, 7, .int 10, []) else none))) else (bif Nat.ble pc 10 then (bif Nat.ble pc 7 then (bif Nat.beq pc 7 then some (.if_icmp .ge 7, 10, .null, [14]) else none) else (bif Nat.beq pc 10 then some (.iconst 1, 11, .int 1, []) else none)) else (bif Nat.ble pc 11 then (bif Nat.beq pc 11 then some (.goto 4, 14, .null, [15]) else none) else (bif Nat.ble pc 14 then (bif Nat.beq pc 14 then some (.iconst 0, 15, .int 0, []) else none) else (bif Nat.beq pc 15 then some (.ireturn, 16, .null, [1]) else none)))))
def mm_k47 : Nat → Option mm_En := fun pc => (bif Nat.ble pc 5 then (bif Nat.ble pc 1 then (bif Nat.ble pc 0 then (bif Nat.beq pc 0 then some (.iload_n 0, 1, .null, [0]) else none) else (bif Nat.beq pc 1 then some (.ifCond .lt 12, 4, .null, [13]) else none)) else (bif Nat.ble pc 4 then (bif Nat.beq pc 4 then some (.iload_n 0, 5, .null, [0]) else none) else (bif Nat.beq pc 5 then some (.iconst 2, 6, .int 2, []) else none))) else (bif Nat.ble pc 9 then (bif Nat.ble pc 6 then (bif Nat.beq pc 6 then some (.if_icmp .ge 7, 9, .null, [13]) else none) else (bif Nat.beq pc 9 then some (.iconst 1, 10, .int 1, []) else none)) else (bif Nat.ble pc 10 then (bif Nat.beq pc 10 then some (.goto 4, 13, .null, [14]) else none) else (bif Nat.ble pc 13 then (bif Nat.beq pc 13 then some (.iconst 0, 14, .int 0, []) else none) else (bif Nat.beq pc 14 then some (.ireturn, 15, .null, [1]) else none)))))
def mm_k48 : Nat → Option mm_En := fun pc => (bif Nat.ble pc 15 then (bif Nat.ble pc 6 then (bif Nat.ble pc 1 then (bif Nat.ble pc 0 then (bif Nat.beq pc 0 then some (.iload_n 0, 1, .null, [0]) else none) else (bif Nat.beq pc 1 then some (.ifCond .ne 19, 4, .null, [20]) else none)) else (bif Nat.ble pc 4 then (bif Nat.beq pc 4 then some (.iload_n 1, 5, .null, [1]) else none) else (bif Nat.ble pc 5 then (bif Nat.beq pc 5 then some (.iconst 1, 6, .int 1, []) else none) else (bif Nat.beq pc 6 then some (.if_icmp .lt 12, 9, .null, [18]) else none)))) else (bif Nat.ble pc 10 then (bif Nat.ble pc 9 then (bif Nat.beq pc 9 then some (.iload_n 1, 10, .null, [1]) else none) else (bif Nat.beq pc 10 then some (.iconst 5, 11, .int 5, []) else none)) else (bif Nat.ble pc 11 then (bif Nat.beq pc 11 then some (.if_icmp .gt 7, 14, .null, [18]) else none) else (bif Nat.ble pc 14 then (bif Nat.beq pc 14 then some (.iconst 1, 15, .int 1, []) else none) else (bif Nat.beq pc 15 then some (.goto 4, 18, .null, [19]) else none))))) else (bif Nat.ble pc 24 then (bif Nat.ble pc 19 then (bif Nat.ble pc 18 then (bif Nat.beq pc 18 then some (.iconst 0, 19, .int 0, []) else none) else (bif Nat.beq pc 19 then some (.ireturn, 20, .null, [1]) else none)) else (bif Nat.ble pc 20 then (bif Nat.beq pc 20 then some (.iload_n 1, 21, .null, [1]) else none) else (bif Nat.ble pc 21 then (bif Nat.beq pc 21 then some (.ifCond .lt 13, 24, .null, [34]) else none) else (bif Nat.beq pc 24 then some (.iload_n 1, 25, .null, [1]) else none)))) else (bif Nat.ble pc 30 then (bif Nat.ble pc 25 then (bif Nat.beq pc 25 then some (.bipush 99, 27, .int 99, []) else none) else (bif Nat.ble pc 27 then (bif Nat.beq pc 27 then some (.if_icmp .gt 7, 30, .null, [34]) else none) else (bif Nat.beq pc 30 then some (.iconst 1, 31, .int 1, []) else none))) else (bif Nat.ble pc 31 then (bif Nat.beq pc 31 then some (.goto 4, 34, .null, [35]) else none) else (bif Nat.ble pc 34 then (bif Nat.beq pc 34 then some (.iconst 0, 35, .int 0, []) else none) else (bif Nat.beq pc 35 then some (.ireturn, 36, .null, [1]) else none))))))
def mm_k49 : Nat → Option mm_En := fun pc => (bif Nat.ble pc 3 then (bif Nat.ble pc 0 then (bif Nat.beq pc 0 then some (.iconst 1, 1, .int 1, []) else none) else (bif Nat.ble pc 1 then (bif Nat.beq pc 1 then some (.bipush 14, 3, .int 14, []) else none) else (bif Nat.beq pc 3 then some (.iload_n 0, 4, .null, [0]) else none))) else (bif Nat.ble pc 4 then (bif Nat.beq pc 4 then some (.isub, 5, .null, []) else none) else (bif Nat.ble pc 5 then (bif Nat.beq pc 5 then some (.ishl, 6, .null, []) else none) else (bif Nat.beq pc 6 then some (.ireturn, 7, .null, [0]) else none))))
def mm_k50 : Nat → Option mm_En := fun pc => (bif Nat.ble pc 5 then (bif Nat.ble pc 1 then (bif Nat.ble pc 0 then (bif Nat.beq pc 0 then some (.iload_n 0, 1, .null, [0]) else none) else (bif Nat.beq pc 1 then some (.iload_n 1, 2, .null, [1]) else none)) else (bif Nat.ble pc 2 then (bif Nat.beq pc 2 then some (.invokestatic 313, 5, .null, [2, 49, 1, 1, 99, 294, 296, 20, 295]) else none) else (bif Nat.beq pc 5 then some (.iand, 6, .null, []) else none))) else (bif Nat.ble pc 9 then (bif Nat.ble pc 6 then (bif Nat.beq pc 6 then some (.ifCond .eq 7, 9, .null, [13]) else none) else (bif Nat.beq pc 9 then some (.iconst 1, 10, .int 1, []) else none)) else (bif Nat.ble pc 10 then (bif Nat.beq pc 10 then some (.goto 4, 13, .null, [14]) else none) else (bif Nat.ble pc 13 then (bif Nat.beq pc 13 then some (.iconst 0, 14, .int 0, []) else none) else (bif Nat.beq pc 14 then some (.ireturn, 15, .null, [1]) else none)))))
def mm_k51 : Nat → Option mm_En := fun pc => (bif Nat.ble pc 14 then (bif Nat.ble pc 5 then (bif Nat.ble pc 2 then (bif Nat.ble pc 0 then (bif Nat.beq pc 0 then some (.iload_n 0, 1, .null, [0]) else none) else (bif Nat.ble pc 1 then (bif Nat.beq pc 1 then some (.istore_n 2, 2, .null, [2]) else none) else (bif Nat.beq pc 2 then some (.iconst 3, 3, .int 3, []) else none))) else (bif Nat.ble pc 3 then (bif Nat.beq pc 3 then some (.istore_n 3, 4, .null, [3]) else none) else (bif Nat.ble pc 4 then (bif Nat.beq pc 4 then some (.iload_n 3, 5, .null, [3]) else none) else (bif Nat.beq pc 5 then some (.iload_n 1, 6, .null, [1]) else none)))) else (bif Nat.ble pc 10 then (bif Nat.ble pc 6 then (bif Nat.beq pc 6 then some (.if_icmp .le 14, 9, .null, [20]) else none) else (bif Nat.ble pc 9 then (bif Nat.beq pc 9 then some (.iload_n 2, 10, .null, [2]) else none) else (bif Nat.beq pc 10 then some (.bipush 10, 12, .int 10, []) else none))) else (bif Nat.ble pc 12 then (bif Nat.beq pc 12 then some (.idiv, 13, .null, []) else none) else (bif Nat.ble pc 13 then (bif Nat.beq pc 13 then some (.istore_n 2, 14, .null, [2]) else none) else (bif Nat.beq pc 14 then some (.iinc 3 (-1), 17, .int (-1), [3]) else none))))) else (bif Nat.ble pc 26 then (bif Nat.ble pc 21 then (bif Nat.ble pc 17 then (bif Nat.beq pc 17 then some (.goto (-13), 20, .null, [4]) else none) else (bif Nat.ble pc 20 then (bif Nat.beq pc 20 then some (.iload_n 2, 21, .null, [2]) else none) else (bif Nat.beq pc 21 then some (.ifCond .gt 8, 24, .null, [29]) else none))) else (bif Nat.ble pc 24 then (bif Nat.beq pc 24 then some (.iload_n 1, 25, .null, [1]) else none) else (bif Nat.ble pc 25 then (bif Nat.beq pc 25 then some (.iconst 3, 26, .int 3, []) else none) else (bif Nat.beq pc 26 then some (.if_icmp .ne 10, 29, .null, [36]) else none)))) else (bif Nat.ble pc 32 then (bif Nat.ble pc 29 then (bif Nat.beq pc 29 then some (.iload_n 2, 30, .null, [2]) else none) else (bif Nat.ble pc 30 then (bif Nat.beq pc 30 then some (.bipush 10, 32, .int 10, []) else none) else (bif Nat.beq pc 32 then some (.irem, 33, .null, []) else none))) else (bif Nat.ble pc 33 then (bif Nat.beq pc 33 then some (.goto 4, 36, .null, [37]) else none) else (bif Nat.ble pc 36 then (bif Nat.beq pc 36 then some (.iconst (-1), 37, .int (-1), []) else none) else (bif Nat.beq pc 37 then some (.ireturn, 38, .null, [0]) else none))))))
def mm_k52 : Nat → Option mm_En := fun pc => (bif Nat.ble pc 15 then (bif Nat.ble pc 7 then (bif Nat.ble pc 2 then (bif Nat.ble pc 0 then (bif Nat.beq pc 0 then some (.iconst 0, 1, .int 0, []) else none) else (bif Nat.ble pc 1 then (bif Nat.beq pc 1 then some (.istore_n 2, 2, .null, [2]) else none) else (bif Nat.beq pc 2 then some (.iload_n 2, 3, .null, [2]) else none))) else (bif Nat.ble pc 3 then (bif Nat.beq pc 3 then some (.iconst 4, 4, .int 4, []) else none) else (bif Nat.ble pc 4 then (bif Nat.beq pc 4 then some (.if_icmp .ge 35, 7, .null, [39]) else none) else (bif Nat.beq pc 7 then some (.iload_n 1, 8, .null, [1]) else none)))) else (bif Nat.ble pc 12 then (bif Nat.ble pc 8 then (bif Nat.beq pc 8 then some (.iload_n 2, 9, .null, [2]) else none) else (bif Nat.ble pc 9 then (bif Nat.beq pc 9 then some (.invokestatic 86, 12, .null, [2, 51, 2, 4, 99, 497, 499, 20, 498]) else none) else (bif Nat.beq pc 12 then some (.istore_n 3, 13, .null, [3]) else none))) else (bif Nat.ble pc 13 then (bif Nat.beq pc 13 then some (.iload_n 3, 14, .null, [3]) else none) else (bif Nat.ble pc 14 then (bif Nat.beq pc 14 then some (.iconst (-1), 15, .int (-1), []) else none) else (bif Nat.beq pc 15 then some (.if_icmp .eq 18, 18, .null, [33]) else none))))) else (bif Nat.ble pc 25 then (bif Nat.ble pc 22 then (bif Nat.ble pc 18 then (bif Nat.beq pc 18 then some (.aload_n 0, 19, .null, [0]) else none) else (bif Nat.ble pc 19 then (bif Nat.beq pc 19 then some (.getfield 18, 22, .null, [4, 1, 1, 0, 155, 1]) else none) else (bif Nat.beq pc 22 then some (.iload_n 2, 23, .null, [2]) else none))) else (bif Nat.ble pc 23 then (bif Nat.beq pc 23 then some (.aaload, 24, .null, []) else none) else (bif Nat.ble pc 24 then (bif Nat.beq pc 24 then some (.iload_n 3, 25, .null, [3]) else none) else (bif Nat.beq pc 25 then some (.invokevirtual 63, 28, .null, [1, 14, 2, 2, 2, 259, 262, 22, 260, 261]) else none)))) else (bif Nat.ble pc 32 then (bif Nat.ble pc 28 then (bif Nat.beq pc 28 then some (.ifCond .ne 5, 31, .null, [33]) else none) else (bif Nat.ble pc 31 then (bif Nat.beq pc 31 then some (.iconst 0, 32, .int 0, []) else none) else (bif Nat.beq pc 32 then some (.ireturn, 33, .null, [1]) else none))) else (bif Nat.ble pc 36 then (bif Nat.ble pc 33 then (bif Nat.beq pc 33 then some (.iinc 2 1, 36, .int 1, [2]) else none) else (bif Nat.beq pc 36 then some (.goto (-34), 39, .null, [2]) else none)) else (bif Nat.ble pc 39 then (bif Nat.beq pc 39 then some (.iconst 1, 40, .int 1, []) else none) else (bif Nat.beq pc 40 then some (.ireturn, 41, .null, [1]) else none))))))
def mm_k53 : Nat → Option mm_En := fun pc => (bif Nat.ble pc 13 then (bif Nat.ble pc 5 then (bif Nat.ble pc 1 then (bif Nat.ble pc 0 then (bif Nat.beq pc 0 then some (.aload_n 0, 1, .null, [0]) else none) else (bif Nat.beq pc 1 then some (.getfield 18, 4, .null, [4, 1, 1, 0, 155, 1]) else none)) else (bif Nat.ble pc 4 then (bif Nat.beq pc 4 then some (.iload_n 1, 5, .null, [1]) else none) else (bif Nat.beq pc 5 then some (.aaload, 6, .null, []) else none))) else (bif Nat.ble pc 7 then (bif Nat.ble pc 6 then (bif Nat.beq pc 6 then some (.aload_n 0, 7, .null, [0]) else none) else (bif Nat.beq pc 7 then some (.getfield 10, 10, .null, [4, 0, 1, 0, 154, 1]) else none)) else (bif Nat.ble pc 10 then (bif Nat.beq pc 10 then some (.getfield 103, 13, .null, [0, 1, 1, 1, 50, 1]) else none) else (bif Nat.beq pc 13 then some (.iload_n 1, 14, .null, [1]) else none)))) else (bif Nat.ble pc 19 then (bif Nat.ble pc 15 then (bif Nat.ble pc 14 then (bif Nat.beq pc 14 then some (.iaload, 15, .null, [0]) else none) else (bif Nat.beq pc 15 then some (.aload_n 0, 16, .null, [0]) else none)) else (bif Nat.ble pc 16 then (bif Nat.beq pc 16 then some (.getfield 10, 19, .null, [4, 0, 1, 0, 154, 1]) else none) else (bif Nat.beq pc 19 then some (.getfield 106, 22, .null, [0, 3, 1, 1, 53, 1]) else none))) else (bif Nat.ble pc 23 then (bif Nat.ble pc 22 then (bif Nat.beq pc 22 then some (.iconst 0, 23, .int 0, []) else none) else (bif Nat.beq pc 23 then some (.iaload, 24, .null, [0]) else none)) else (bif Nat.ble pc 24 then (bif Nat.beq pc 24 then some (.invokevirtual 109, 27, .null, [1, 10, 3, 4, 2, 131, 134, 22, 132, 133]) else none) else (bif Nat.beq pc 27 then some (.return_, 28, .null, []) else none)))))
def mm_k54 : Nat → Option mm_En := fun pc => (bif Nat.ble pc 4 then (bif Nat.ble pc 1 then (bif Nat.ble pc 0 then (bif Nat.beq pc 0 then some (.iconst 0, 1, .int 0, []) else none) else (bif Nat.beq pc 1 then some (.istore_n 1, 2, .null, [1]) else none)) else (bif Nat.ble pc 2 then (bif Nat.beq pc 2 then some (.iload_n 1, 3, .null, [1]) else none) else (bif Nat.ble pc 3 then (bif Nat.beq pc 3 then some (.iconst 4, 4, .int 4, []) else none) else (bif Nat.beq pc 4 then some (.if_icmp .ge 14, 7, .null, [18]) else none)))) else (bif Nat.ble pc 9 then (bif Nat.ble pc 7 then (bif Nat.beq pc 7 then some (.aload_n 0, 8, .null, [0]) else none) else (bif Nat.ble pc 8 then (bif Nat.beq pc 8 then some (.iload_n 1, 9, .null, [1]) else none) else (bif Nat.beq pc 9 then some (.invokevirtual 117, 12, .null, [1, 53, 2, 2, 4, 127, 130, 20, 129, 1]) else none))) else (bif Nat.ble pc 12 then (bif Nat.beq pc 12 then some (.iinc 1 1, 15, .int 1, [1]) else none) else (bif Nat.ble pc 15 then (bif Nat.beq pc 15 then some (.goto (-13), 18, .null, [2]) else none) else (bif Nat.beq pc 18 then some (.return_, 19, .null, []) else none)))))
def mm_k55 : Nat → Option mm_En := fun pc => (bif Nat.ble pc 13 then (bif Nat.ble pc 5 then (bif Nat.ble pc 1 then (bif Nat.ble pc 0 then (bif Nat.beq pc 0 then some (.aload_n 0, 1, .null, [0]) else none) else (bif Nat.beq pc 1 then some (.getfield 23, 4, .null, [4, 2, 1, 0, 156, 1]) else none)) else (bif Nat.ble pc 4 then (bif Nat.beq pc 4 then some (.aload_n 0, 5, .null, [0]) else none) else (bif Nat.beq pc 5 then some (.getfield 10, 8, .null, [4, 0, 1, 0, 154, 1]) else none))) else (bif Nat.ble pc 11 then (bif Nat.ble pc 8 then (bif Nat.beq pc 8 then some (.getfield 103, 11, .null, [0, 1, 1, 1, 50, 1]) else none) else (bif Nat.beq pc 11 then some (.iload_n 1, 12, .null, [1]) else none)) else (bif Nat.ble pc 12 then (bif Nat.beq pc 12 then some (.iaload, 13, .null, [0]) else none) else (bif Nat.beq pc 13 then some (.iload_n 2, 14, .null, [2]) else none)))) else (bif Nat.ble pc 19 then (bif Nat.ble pc 17 then (bif Nat.ble pc 14 then (bif Nat.beq pc 14 then some (.invokestatic 313, 17, .null, [2, 49, 1, 1, 99, 294, 296, 20, 295]) else none) else (bif Nat.beq pc 17 then some (.ior, 18, .null, []) else none)) else (bif Nat.ble pc 18 then (bif Nat.beq pc 18 then some (.aload_n 0, 19, .null, [0]) else none) else (bif Nat.beq pc 19 then some (.getfield 10, 22, .null, [4, 0, 1, 0, 154, 1]) else none))) else (bif Nat.ble pc 25 then (bif Nat.ble pc 22 then (bif Nat.beq pc 22 then some (.getfield 106, 25, .null, [0, 3, 1, 1, 53, 1]) else none) else (bif Nat.beq pc 25 then some (.iconst 0, 26, .int 0, []) else none)) else (bif Nat.ble pc 26 then (bif Nat.beq pc 26 then some (.iaload, 27, .null, [0]) else none) else (bif Nat.ble pc 27 then (bif Nat.beq pc 27 then some (.invokevirtual 109, 30, .null, [1, 10, 3, 4, 2, 131, 134, 22, 132, 133]) else none) else (bif Nat.beq pc 30 then some (.return_, 31, .null, []) else none))))))
def mm_k56 : Nat → Option mm_En := fun pc => (bif Nat.ble pc 20 then (bif Nat.ble pc 8 then (bif Nat.ble pc 2 then (bif Nat.ble pc 0 then (bif Nat.beq pc 0 then some (.iconst 0, 1, .int 0, []) else none) else (bif Nat.ble pc 1 then (bif Nat.beq pc 1 then some (.istore_n 2, 2, .null, [2]) else none) else (bif Nat.beq pc 2 then some (.iload_n 2, 3, .null, [2]) else none))) else (bif Nat.ble pc 4 then (bif Nat.ble pc 3 then (bif Nat.beq pc 3 then some (.iconst 4, 4, .int 4, []) else none) else (bif Nat.beq pc 4 then some (.if_icmp .ge 51, 7, .null, [55]) else none)) else (bif Nat.ble pc 7 then (bif Nat.beq pc 7 then some (.aload_n 0, 8, .null, [0]) else none) else (bif Nat.beq pc 8 then some (.iload_n 2, 9, .null, [2]) else none)))) else (bif Nat.ble pc 13 then (bif Nat.ble pc 9 then (bif Nat.beq pc 9 then some (.invokevirtual 204, 12, .null, [1, 61, 2, 2, 4, 270, 273, 20, 272, 10]) else none) else (bif Nat.ble pc 12 then (bif Nat.beq pc 12 then some (.istore_n 3, 13, .null, [3]) else none) else (bif Nat.beq pc 13 then some (.iconst 0, 14, .int 0, []) else none))) else (bif Nat.ble pc 16 then (bif Nat.ble pc 14 then (bif Nat.beq pc 14 then some (.istore 4, 16, .null, [4]) else none) else (bif Nat.beq pc 16 then some (.iload 4, 18, .null, [4]) else none)) else (bif Nat.ble pc 18 then (bif Nat.beq pc 18 then some (.bipush 15, 20, .int 15, []) else none) else (bif Nat.beq pc 20 then some (.if_icmp .ge 29, 23, .null, [49]) else none))))) else (bif Nat.ble pc 36 then (bif Nat.ble pc 26 then (bif Nat.ble pc 23 then (bif Nat.beq pc 23 then some (.iload_n 3, 24, .null, [3]) else none) else (bif Nat.ble pc 24 then (bif Nat.beq pc 24 then some (.iload 4, 26, .null, [4]) else none) else (bif Nat.beq pc 26 then some (.invokestatic 222, 29, .null, [2, 50, 2, 2, 99, 291, 293, 20, 292]) else none))) else (bif Nat.ble pc 32 then (bif Nat.ble pc 29 then (bif Nat.beq pc 29 then some (.ifCond .eq 14, 32, .null, [43]) else none) else (bif Nat.beq pc 32 then some (.aload_n 0, 33, .null, [0]) else none)) else (bif Nat.ble pc 33 then (bif Nat.beq pc 33 then some (.getfield 10, 36, .null, [4, 0, 1, 0, 154, 1]) else none) else (bif Nat.beq pc 36 then some (.iload_n 2, 37, .null, [2]) else none)))) else (bif Nat.ble pc 43 then (bif Nat.ble pc 39 then (bif Nat.ble pc 37 then (bif Nat.beq pc 37 then some (.iload 4, 39, .null, [4]) else none) else (bif Nat.beq pc 39 then some (.iload_n 1, 40, .null, [1]) else none)) else (bif Nat.ble pc 40 then (bif Nat.beq pc 40 then some (.invokevirtual 316, 43, .null, [1, 4, 4, 4, 0, 533, 536, 21, 534, 535]) else none) else (bif Nat.beq pc 43 then some (.iinc 4 1, 46, .int 1, [4]) else none))) else (bif Nat.ble pc 49 then (bif Nat.ble pc 46 then (bif Nat.beq pc 46 then some (.goto (-30), 49, .null, [16]) else none) else (bif Nat.beq pc 49 then some (.iinc 2 1, 52, .int 1, [2]) else none)) else (bif Nat.ble pc 52 then (bif Nat.beq pc 52 then some (.goto (-50), 55, .null, [2]) else none) else (bif Nat.beq pc 55 then some (.return_, 56, .null, []) else none))))))
def mm_k57 : Nat → Option mm_En := fun pc => (bif Nat.ble pc 30 then (bif Nat.ble pc 11 then (bif Nat.ble pc 4 then (bif Nat.ble pc 1 then (bif Nat.ble pc 0 then (bif Nat.beq pc 0 then some (.iconst 0, 1, .int 0, []) else none) else (bif Nat.beq pc 1 then some (.istore_n 1, 2, .null, [1]) else none)) else (bif Nat.ble pc 2 then (bif Nat.beq pc 2 then some (.iconst 0, 3, .int 0, []) else none) else (bif Nat.ble pc 3 then (bif Nat.beq pc 3 then some (.istore_n 2, 4, .null, [2]) else none) else (bif Nat.beq pc 4 then some (.iload_n 2, 5, .null, [2]) else none)))) else (bif Nat.ble pc 6 then (bif Nat.ble pc 5 then (bif Nat.beq pc 5 then some (.iconst 4, 6, .int 4, []) else none) else (bif Nat.beq pc 6 then some (.if_icmp .ge 66, 9, .null, [72]) else none)) else (bif Nat.ble pc 9 then (bif Nat.beq pc 9 then some (.iconst 0, 10, .int 0, []) else none) else (bif Nat.ble pc 10 then (bif Nat.beq pc 10 then some (.istore_n 3, 11, .null, [3]) else none) else (bif Nat.beq pc 11 then some (.iload_n 3, 12, .null, [3]) else none))))) else (bif Nat.ble pc 21 then (bif Nat.ble pc 14 then (bif Nat.ble pc 12 then (bif Nat.beq pc 12 then some (.bipush 15, 14, .int 15, []) else none) else (bif Nat.beq pc 14 then some (.if_icmp .ge 47, 17, .null, [61]) else none)) else (bif Nat.ble pc 17 then (bif Nat.beq pc 17 then some (.aload_n 0, 18, .null, [0]) else none) else (bif Nat.ble pc 18 then (bif Nat.beq pc 18 then some (.getfield 10, 21, .null, [4, 0, 1, 0, 154, 1]) else none) else (bif Nat.beq pc 21 then some (.getfield 103, 24, .null, [0, 1, 1, 1, 50, 1]) else none)))) else (bif Nat.ble pc 25 then (bif Nat.ble pc 24 then (bif Nat.beq pc 24 then some (.iload_n 2, 25, .null, [2]) else none) else (bif Nat.beq pc 25 then some (.iaload, 26, .null, [0]) else none)) else (bif Nat.ble pc 26 then (bif Nat.beq pc 26 then some (.iload_n 3, 27, .null, [3]) else none) else (bif Nat.ble pc 27 then (bif Nat.beq pc 27 then some (.invokestatic 222, 30, .null, [2, 50, 2, 2, 99, 291, 293, 20, 292]) else none) else (bif Nat.beq pc 30 then some (.ifCond .ne 25, 33, .null, [55]) else none)))))) else (bif Nat.ble pc 48 then (bif Nat.ble pc 39 then (bif Nat.ble pc 34 then (bif Nat.ble pc 33 then (bif Nat.beq pc 33 then some (.aload_n 0, 34, .null, [0]) else none) else (bif Nat.beq pc 34 then some (.iload_n 2, 35, .null, [2]) else none)) else (bif Nat.ble pc 35 then (bif Nat.beq pc 35 then some (.iload_n 3, 36, .null, [3]) else none) else (bif Nat.ble pc 36 then (bif Nat.beq pc 36 then some (.invokevirtual 320, 39, .null, [1, 58, 3, 4, 4, 297, 300, 20, 299, 13]) else none) else (bif Nat.beq pc 39 then some (.ifCond .eq 16, 42, .null, [55]) else none)))) else (bif Nat.ble pc 43 then (bif Nat.ble pc 42 then (bif Nat.beq pc 42 then some (.aload_n 0, 43, .null, [0]) else none) else (bif Nat.beq pc 43 then some (.getfield 10, 46, .null, [4, 0, 1, 0, 154, 1]) else none)) else (bif Nat.ble pc 46 then (bif Nat.beq pc 46 then some (.iload_n 2, 47, .null, [2]) else none) else (bif Nat.ble pc 47 then (bif Nat.beq pc 47 then some (.iload_n 3, 48, .null, [3]) else none) else (bif Nat.beq pc 48 then some (.iconst 1, 49, .int 1, []) else none))))) else (bif Nat.ble pc 61 then (bif Nat.ble pc 52 then (bif Nat.ble pc 49 then (bif Nat.beq pc 49 then some (.invokevirtual 99, 52, .null, [1, 2, 4, 4, 0, 451, 454, 21, 452, 453]) else none) else (bif Nat.beq pc 52 then some (.iinc 1 1, 55, .int 1, [1]) else none)) else (bif Nat.ble pc 55 then (bif Nat.beq pc 55 then some (.iinc 3 1, 58, .int 1, [3]) else none) else (bif Nat.ble pc 58 then (bif Nat.beq pc 58 then some (.goto (-47), 61, .null, [11]) else none) else (bif Nat.beq pc 61 then some (.aload_n 0, 62, .null, [0]) else none)))) else (bif Nat.ble pc 66 then (bif Nat.ble pc 62 then (bif Nat.beq pc 62 then some (.iload_n 2, 63, .null, [2]) else none) else (bif Nat.ble pc 63 then (bif Nat.beq pc 63 then some (.invokevirtual 117, 66, .null, [1, 53, 2, 2, 4, 127, 130, 20, 129, 1]) else none) else (bif Nat.beq pc 66 then some (.iinc 2 1, 69, .int 1, [2]) else none))) else (bif Nat.ble pc 69 then (bif Nat.beq pc 69 then some (.goto (-65), 72, .null, [4]) else none) else (bif Nat.ble pc 72 then (bif Nat.beq pc 72 then some (.iload_n 1, 73, .null, [1]) else none) else (bif Nat.beq pc 73 then some (.ireturn, 74, .null, [0]) else none)))))))
def mm_k58 : Nat → Option mm_En := fun pc => (bif Nat.ble pc 14 then (bif Nat.ble pc 9 then (bif Nat.ble pc 2 then (bif Nat.ble pc 0 then (bif Nat.beq pc 0 then some (.bipush 100, 2, .int 100, []) else none) else (bif Nat.beq pc 2 then some (.aload_n 0, 3, .null, [0]) else none)) else (bif Nat.ble pc 3 then (bif Nat.beq pc 3 then some (.getfield 10, 6, .null, [4, 0, 1, 0, 154, 1]) else none) else (bif Nat.ble pc 6 then (bif Nat.beq pc 6 then some (.getfield 106, 9, .null, [0, 3, 1, 1, 53, 1]) else none) else (bif Nat.beq pc 9 then some (.iconst 1, 10, .int 1, []) else none)))) else (bif Nat.ble pc 11 then (bif Nat.ble pc 10 then (bif Nat.beq pc 10 then some (.iaload, 11, .null, [0]) else none) else (bif Nat.beq pc 11 then some (.imul, 12, .null, []) else none)) else (bif Nat.ble pc 12 then (bif Nat.beq pc 12 then some (.istore_n 3, 13, .null, [3]) else none) else (bif Nat.ble pc 13 then (bif Nat.beq pc 13 then some (.iload_n 3, 14, .null, [3]) else none) else (bif Nat.beq pc 14 then some (.ifCond .le 20, 17, .null, [34]) else none))))) else (bif Nat.ble pc 23 then (bif Nat.ble pc 18 then (bif Nat.ble pc 17 then (bif Nat.beq pc 17 then some (.aload_n 0, 18, .null, [0]) else none) else (bif Nat.beq pc 18 then some (.getfield 10, 21, .null, [4, 0, 1, 0, 154, 1]) else none)) else (bif Nat.ble pc 21 then (bif Nat.beq pc 21 then some (.iload_n 1, 22, .null, [1]) else none) else (bif Nat.ble pc 22 then (bif Nat.beq pc 22 then some (.iload_n 2, 23, .null, [2]) else none) else (bif Nat.beq pc 23 then some (.invokevirtual 225, 26, .null, [1, 3, 3, 3, 0, 301, 304, 21, 302, 303]) else none)))) else (bif Nat.ble pc 30 then (bif Nat.ble pc 26 then (bif Nat.beq pc 26 then some (.iload_n 3, 27, .null, [3]) else none) else (bif Nat.ble pc 27 then (bif Nat.beq pc 27 then some (.if_icmp .lt 7, 30, .null, [34]) else none) else (bif Nat.beq pc 30 then some (.iconst 1, 31, .int 1, []) else none))) else (bif Nat.ble pc 31 then (bif Nat.beq pc 31 then some (.goto 4, 34, .null, [35]) else none) else (bif Nat.ble pc 34 then (bif Nat.beq pc 34 then some (.iconst 0, 35, .int 0, []) else none) else (bif Nat.beq pc 35 then some (.ireturn, 36, .null, [1]) else none))))))
def mm_k59 : Nat → Option mm_En := fun pc => (bif Nat.ble pc 40 then (bif Nat.ble pc 20 then (bif Nat.ble pc 8 then (bif Nat.ble pc 1 then (bif Nat.ble pc 0 then (bif Nat.beq pc 0 then some (.aload_n 0, 1, .null, [0]) else none) else (bif Nat.beq pc 1 then some (.getfield 10, 4, .null, [4, 0, 1, 0, 154, 1]) else none)) else (bif Nat.ble pc 4 then (bif Nat.beq pc 4 then some (.getfield 106, 7, .null, [0, 3, 1, 1, 53, 1]) else none) else (bif Nat.ble pc 7 then (bif Nat.beq pc 7 then some (.iconst 1, 8, .int 1, []) else none) else (bif Nat.beq pc 8 then some (.iaload, 9, .null, [0]) else none)))) else (bif Nat.ble pc 13 then (bif Nat.ble pc 9 then (bif Nat.beq pc 9 then some (.ifCond .eq 19, 12, .null, [28]) else none) else (bif Nat.ble pc 12 then (bif Nat.beq pc 12 then some (.aload_n 0, 13, .null, [0]) else none) else (bif Nat.beq pc 13 then some (.getfield 10, 16, .null, [4, 0, 1, 0, 154, 1]) else none))) else (bif Nat.ble pc 16 then (bif Nat.beq pc 16 then some (.getfield 103, 19, .null, [0, 1, 1, 1, 50, 1]) else none) else (bif Nat.ble pc 19 then (bif Nat.beq pc 19 then some (.iload_n 1, 20, .null, [1]) else none) else (bif Nat.beq pc 20 then some (.iaload, 21, .null, [0]) else none))))) else (bif Nat.ble pc 30 then (bif Nat.ble pc 25 then (bif Nat.ble pc 21 then (bif Nat.beq pc 21 then some (.iload_n 2, 22, .null, [2]) else none) else (bif Nat.ble pc 22 then (bif Nat.beq pc 22 then some (.invokestatic 222, 25, .null, [2, 50, 2, 2, 99, 291, 293, 20, 292]) else none) else (bif Nat.beq pc 25 then some (.ifCond .eq 5, 28, .null, [30]) else none))) else (bif Nat.ble pc 28 then (bif Nat.beq pc 28 then some (.iconst (-1), 29, .int (-1), []) else none) else (bif Nat.ble pc 29 then (bif Nat.beq pc 29 then some (.ireturn, 30, .null, [0]) else none) else (bif Nat.beq pc 30 then some (.aload_n 0, 31, .null, [0]) else none)))) else (bif Nat.ble pc 33 then (bif Nat.ble pc 31 then (bif Nat.beq pc 31 then some (.iload_n 1, 32, .null, [1]) else none) else (bif Nat.ble pc 32 then (bif Nat.beq pc 32 then some (.iload_n 2, 33, .null, [2]) else none) else (bif Nat.beq pc 33 then some (.invokevirtual 320, 36, .null, [1, 58, 3, 4, 4, 297, 300, 20, 299, 13]) else none))) else (bif Nat.ble pc 36 then (bif Nat.beq pc 36 then some (.ifCond .eq 5, 39, .null, [41]) else none) else (bif Nat.ble pc 39 then (bif Nat.beq pc 39 then some (.iconst 1, 40, .int 1, []) else none) else (bif Nat.beq pc 40 then some (.ireturn, 41, .null, [0]) else none)))))) else (bif Nat.ble pc 59 then (bif Nat.ble pc 51 then (bif Nat.ble pc 44 then (bif Nat.ble pc 41 then (bif Nat.beq pc 41 then some (.bipush 100, 43, .int 100, []) else none) else (bif Nat.ble pc 43 then (bif Nat.beq pc 43 then some (.aload_n 0, 44, .null, [0]) else none) else (bif Nat.beq pc 44 then some (.getfield 10, 47, .null, [4, 0, 1, 0, 154, 1]) else none))) else (bif Nat.ble pc 47 then (bif Nat.beq pc 47 then some (.getfield 106, 50, .null, [0, 3, 1, 1, 53, 1]) else none) else (bif Nat.ble pc 50 then (bif Nat.beq pc 50 then some (.iconst 1, 51, .int 1, []) else none) else (bif Nat.beq pc 51 then some (.iaload, 52, .null, [0]) else none)))) else (bif Nat.ble pc 54 then (bif Nat.ble pc 52 then (bif Nat.beq pc 52 then some (.imul, 53, .null, []) else none) else (bif Nat.ble pc 53 then (bif Nat.beq pc 53 then some (.aload_n 0, 54, .null, [0]) else none) else (bif Nat.beq pc 54 then some (.getfield 10, 57, .null, [4, 0, 1, 0, 154, 1]) else none))) else (bif Nat.ble pc 57 then (bif Nat.beq pc 57 then some (.iload_n 1, 58, .null, [1]) else none) else (bif Nat.ble pc 58 then (bif Nat.beq pc 58 then some (.iload_n 2, 59, .null, [2]) else none) else (bif Nat.beq pc 59 then some (.invokevirtual 225, 62, .null, [1, 3, 3, 3, 0, 301, 304, 21, 302, 303]) else none))))) else (bif Nat.ble pc 69 then (bif Nat.ble pc 64 then (bif Nat.ble pc 62 then (bif Nat.beq pc 62 then some (.isub, 63, .null, []) else none) else (bif Nat.ble pc 63 then (bif Nat.beq pc 63 then some (.istore_n 3, 64, .null, [3]) else none) else (bif Nat.beq pc 64 then some (.aload_n 0, 65, .null, [0]) else none))) else (bif Nat.ble pc 65 then (bif Nat.beq pc 65 then some (.iload_n 1, 66, .null, [1]) else none) else (bif Nat.ble pc 66 then (bif Nat.beq pc 66 then some (.invokevirtual 204, 69, .null, [1, 61, 2, 2, 4, 270, 273, 20, 272, 10]) else none) else (bif Nat.beq pc 69 then some (.iload_n 2, 70, .null, [2]) else none)))) else (bif Nat.ble pc 76 then (bif Nat.ble pc 70 then (bif Nat.beq pc 70 then some (.invokestatic 222, 73, .null, [2, 50, 2, 2, 99, 291, 293, 20, 292]) else none) else (bif Nat.ble pc 73 then (bif Nat.beq pc 73 then some (.ifCond .eq 7, 76, .null, [80]) else none) else (bif Nat.beq pc 76 then some (.iload_n 3, 77, .null, [3]) else none))) else (bif Nat.ble pc 77 then (bif Nat.beq pc 77 then some (.goto 4, 80, .null, [81]) else none) else (bif Nat.ble pc 80 then (bif Nat.beq pc 80 then some (.iconst (-1), 81, .int (-1), []) else none) else (bif Nat.beq pc 81 then some (.ireturn, 82, .null, [0]) else none)))))))
def mm_k60 : Nat → Option mm_En := fun pc => (bif Nat.ble pc 6 then (bif Nat.ble pc 1 then (bif Nat.ble pc 0 then (bif Nat.beq pc 0 then some (.aload_n 0, 1, .null, [0]) else none) else (bif Nat.beq pc 1 then some (.getfield 18, 4, .null, [4, 1, 1, 0, 155, 1]) else none)) else (bif Nat.ble pc 4 then (bif Nat.beq pc 4 then some (.iload_n 1, 5, .null, [1]) else none) else (bif Nat.ble pc 5 then (bif Nat.beq pc 5 then some (.aaload, 6, .null, []) else none) else (bif Nat.beq pc 6 then some (.aload_n 0, 7, .null, [0]) else none)))) else (bif Nat.ble pc 13 then (bif Nat.ble pc 7 then (bif Nat.beq pc 7 then some (.getfield 10, 10, .null, [4, 0, 1, 0, 154, 1]) else none) else (bif Nat.ble pc 10 then (bif Nat.beq pc 10 then some (.getfield 75, 13, .null, [0, 0, 1, 1, 48, 1]) else none) else (bif Nat.beq pc 13 then some (.iload_n 1, 14, .null, [1]) else none))) else (bif Nat.ble pc 14 then (bif Nat.beq pc 14 then some (.iaload, 15, .null, [0]) else none) else (bif Nat.ble pc 15 then (bif Nat.beq pc 15 then some (.invokevirtual 63, 18, .null, [1, 14, 2, 2, 2, 259, 262, 22, 260, 261]) else none) else (bif Nat.beq pc 18 then some (.ireturn, 19, .null, [1]) else none)))))
def mm_k61 : Nat → Option mm_En := fun pc => (bif Nat.ble pc 13 then (bif Nat.ble pc 5 then (bif Nat.ble pc 1 then (bif Nat.ble pc 0 then (bif Nat.beq pc 0 then some (.aload_n 0, 1, .null, [0]) else none) else (bif Nat.beq pc 1 then some (.iload_n 1, 2, .null, [1]) else none)) else (bif Nat.ble pc 2 then (bif Nat.beq pc 2 then some (.invokevirtual 207, 5, .null, [1, 60, 2, 2, 4, 255, 258, 20, 257, 8]) else none) else (bif Nat.beq pc 5 then some (.ifCond .eq 24, 8, .null, [29]) else none))) else (bif Nat.ble pc 9 then (bif Nat.ble pc 8 then (bif Nat.beq pc 8 then some (.aload_n 0, 9, .null, [0]) else none) else (bif Nat.beq pc 9 then some (.getfield 18, 12, .null, [4, 1, 1, 0, 155, 1]) else none)) else (bif Nat.ble pc 12 then (bif Nat.beq pc 12 then some (.iload_n 1, 13, .null, [1]) else none) else (bif Nat.beq pc 13 then some (.aaload, 14, .null, []) else none)))) else (bif Nat.ble pc 21 then (bif Nat.ble pc 15 then (bif Nat.ble pc 14 then (bif Nat.beq pc 14 then some (.aload_n 0, 15, .null, [0]) else none) else (bif Nat.beq pc 15 then some (.getfield 10, 18, .null, [4, 0, 1, 0, 154, 1]) else none)) else (bif Nat.ble pc 18 then (bif Nat.beq pc 18 then some (.getfield 75, 21, .null, [0, 0, 1, 1, 48, 1]) else none) else (bif Nat.beq pc 21 then some (.iload_n 1, 22, .null, [1]) else none))) else (bif Nat.ble pc 23 then (bif Nat.ble pc 22 then (bif Nat.beq pc 22 then some (.iaload, 23, .null, [0]) else none) else (bif Nat.beq pc 23 then some (.invokevirtual 233, 26, .null, [1, 16, 2, 2, 2, 274, 277, 22, 275, 276]) else none)) else (bif Nat.ble pc 26 then (bif Nat.beq pc 26 then some (.goto 4, 29, .null, [30]) else none) else (bif Nat.ble pc 29 then (bif Nat.beq pc 29 then some (.iconst 0, 30, .int 0, []) else none) else (bif Nat.beq pc 30 then some (.ireturn, 31, .null, [0]) else none))))))
def mm_k62 : Nat → Option mm_En := fun pc => (bif Nat.ble pc 11 then (bif Nat.ble pc 4 then (bif Nat.ble pc 1 then (bif Nat.ble pc 0 then (bif Nat.beq pc 0 then some (.iconst 0, 1, .int 0, []) else none) else (bif Nat.beq pc 1 then some (.istore_n 1, 2, .null, [1]) else none)) else (bif Nat.ble pc 2 then (bif Nat.beq pc 2 then some (.iconst 0, 3, .int 0, []) else none) else (bif Nat.ble pc 3 then (bif Nat.beq pc 3 then some (.istore_n 2, 4, .null, [2]) else none) else (bif Nat.beq pc 4 then some (.iload_n 2, 5, .null, [2]) else none)))) else (bif Nat.ble pc 6 then (bif Nat.ble pc 5 then (bif Nat.beq pc 5 then some (.iconst 4, 6, .int 4, []) else none) else (bif Nat.beq pc 6 then some (.if_icmp .ge 24, 9, .null, [30]) else none)) else (bif Nat.ble pc 9 then (bif Nat.beq pc 9 then some (.iload_n 1, 10, .null, [1]) else none) else (bif Nat.ble pc 10 then (bif Nat.beq pc 10 then some (.aload_n 0, 11, .null, [0]) else none) else (bif Nat.beq pc 11 then some (.getfield 10, 14, .null, [4, 0, 1, 0, 154, 1]) else none))))) else (bif Nat.ble pc 22 then (bif Nat.ble pc 17 then (bif Nat.ble pc 14 then (bif Nat.beq pc 14 then some (.getfield 103, 17, .null, [0, 1, 1, 1, 50, 1]) else none) else (bif Nat.beq pc 17 then some (.iload_n 2, 18, .null, [2]) else none)) else (bif Nat.ble pc 18 then (bif Nat.beq pc 18 then some (.iaload, 19, .null, [0]) else none) else (bif Nat.ble pc 19 then (bif Nat.beq pc 19 then some (.invokestatic 121, 22, .null, [2, 67, 1, 1, 99, 246, 146, 25, 145]) else none) else (bif Nat.beq pc 22 then some (.iadd, 23, .null, []) else none)))) else (bif Nat.ble pc 24 then (bif Nat.ble pc 23 then (bif Nat.beq pc 23 then some (.istore_n 1, 24, .null, [1]) else none) else (bif Nat.beq pc 24 then some (.iinc 2 1, 27, .int 1, [2]) else none)) else (bif Nat.ble pc 27 then (bif Nat.beq pc 27 then some (.goto (-23), 30, .null, [4]) else none) else (bif Nat.ble pc 30 then (bif Nat.beq pc 30 then some (.iload_n 1, 31, .null, [1]) else none) else (bif Nat.beq pc 31 then some (.ireturn, 32, .null, [0]) else none))))))
def mm_k63 : Nat → Option mm_En := fun pc => (bif Nat.ble pc 10 then (bif Nat.ble pc 3 then (bif Nat.ble pc 1 then (bif Nat.ble pc 0 then (bif Nat.beq pc 0 then some (.iconst 0, 1, .int 0, []) else none) else (bif Nat.beq pc 1 then some (.istore_n 1, 2, .null, [1]) else none)) else (bif Nat.ble pc 2 then (bif Nat.beq pc 2 then some (.iconst 0, 3, .int 0, []) else none) else (bif Nat.beq pc 3 then some (.istore_n 2, 4, .null, [2]) else none))) else (bif Nat.ble pc 5 then (bif Nat.ble pc 4 then (bif Nat.beq pc 4 then some (.iload_n 2, 5, .null, [2]) else none) else (bif Nat.beq pc 5 then some (.iconst 4, 6, .int 4, []) else none)) else (bif Nat.ble pc 6 then (bif Nat.beq pc 6 then some (.if_icmp .ge 20, 9, .null, [26]) else none) else (bif Nat.ble pc 9 then (bif Nat.beq pc 9 then some (.iload_n 1, 10, .null, [1]) else none) else (bif Nat.beq pc 10 then some (.aload_n 0, 11, .null, [0]) else none))))) else (bif Nat.ble pc 18 then (bif Nat.ble pc 12 then (bif Nat.ble pc 11 then (bif Nat.beq pc 11 then some (.iload_n 2, 12, .null, [2]) else none) else (bif Nat.beq pc 12 then some (.invokevirtual 204, 15, .null, [1, 61, 2, 2, 4, 270, 273, 20, 272, 10]) else none)) else (bif Nat.ble pc 15 then (bif Nat.beq pc 15 then some (.invokestatic 121, 18, .null, [2, 67, 1, 1, 99, 246, 146, 25, 145]) else none) else (bif Nat.beq pc 18 then some (.iadd, 19, .null, []) else none))) else (bif Nat.ble pc 20 then (bif Nat.ble pc 19 then (bif Nat.beq pc 19 then some (.istore_n 1, 20, .null, [1]) else none) else (bif Nat.beq pc 20 then some (.iinc 2 1, 23, .int 1, [2]) else none)) else (bif Nat.ble pc 23 then (bif Nat.beq pc 23 then some (.goto (-19), 26, .null, [4]) else none) else (bif Nat.ble pc 26 then (bif Nat.beq pc 26 then some (.iload_n 1, 27, .null, [1]) else none) else (bif Nat.beq pc 27 then some (.ireturn, 28, .null, [0]) else none))))))
def mm_k64 : Nat → Option mm_En := fun pc => (bif Nat.ble pc 17 then (bif Nat.ble pc 5 then (bif Nat.ble pc 2 then (bif Nat.ble pc 0 then (bif Nat.beq pc 0 then some (.iconst 0, 1, .int 0, []) else none) else (bif Nat.ble pc 1 then (bif Nat.beq pc 1 then some (.istore_n 1, 2, .null, [1]) else none) else (bif Nat.beq pc 2 then some (.iconst 0, 3, .int 0, []) else none))) else (bif Nat.ble pc 3 then (bif Nat.beq pc 3 then some (.istore_n 2, 4, .null, [2]) else none) else (bif Nat.ble pc 4 then (bif Nat.beq pc 4 then some (.iload_n 2, 5, .null, [2]) else none) else (bif Nat.beq pc 5 then some (.iconst 4, 6, .int 4, []) else none)))) else (bif Nat.ble pc 10 then (bif Nat.ble pc 6 then (bif Nat.beq pc 6 then some (.if_icmp .ge 30, 9, .null, [36]) else none) else (bif Nat.ble pc 9 then (bif Nat.beq pc 9 then some (.iload_n 1, 10, .null, [1]) else none) else (bif Nat.beq pc 10 then some (.aload_n 0, 11, .null, [0]) else none))) else (bif Nat.ble pc 11 then (bif Nat.beq pc 11 then some (.getfield 10, 14, .null, [4, 0, 1, 0, 154, 1]) else none) else (bif Nat.ble pc 14 then (bif Nat.beq pc 14 then some (.getfield 75, 17, .null, [0, 0, 1, 1, 48, 1]) else none) else (bif Nat.beq pc 17 then some (.iload_n 2, 18, .null, [2]) else none))))) else (bif Nat.ble pc 27 then (bif Nat.ble pc 20 then (bif Nat.ble pc 18 then (bif Nat.beq pc 18 then some (.iaload, 19, .null, [0]) else none) else (bif Nat.ble pc 19 then (bif Nat.beq pc 19 then some (.iconst (-1), 20, .int (-1), []) else none) else (bif Nat.beq pc 20 then some (.if_icmp .ne 7, 23, .null, [27]) else none))) else (bif Nat.ble pc 23 then (bif Nat.beq pc 23 then some (.iconst 0, 24, .int 0, []) else none) else (bif Nat.ble pc 24 then (bif Nat.beq pc 24 then some (.goto 4, 27, .null, [28]) else none) else (bif Nat.beq pc 27 then some (.iconst 1, 28, .int 1, []) else none)))) else (bif Nat.ble pc 30 then (bif Nat.ble pc 28 then (bif Nat.beq pc 28 then some (.iadd, 29, .null, []) else none) else (bif Nat.ble pc 29 then (bif Nat.beq pc 29 then some (.istore_n 1, 30, .null, [1]) else none) else (bif Nat.beq pc 30 then some (.iinc 2 1, 33, .int 1, [2]) else none))) else (bif Nat.ble pc 33 then (bif Nat.beq pc 33 then some (.goto (-29), 36, .null, [4]) else none) else (bif Nat.ble pc 36 then (bif Nat.beq pc 36 then some (.iload_n 1, 37, .null, [1]) else none) else (bif Nat.beq pc 37 then some (.ireturn, 38, .null, [0]) else none))))))
def mm_k65 : Nat → Option mm_En := fun pc => (bif Nat.ble pc 11 then (bif Nat.ble pc 4 then (bif Nat.ble pc 1 then (bif Nat.ble pc 0 then (bif Nat.beq pc 0 then some (.iconst 0, 1, .int 0, []) else none) else (bif Nat.beq pc 1 then some (.istore_n 1, 2, .null, [1]) else none)) else (bif Nat.ble pc 2 then (bif Nat.beq pc 2 then some (.iconst 0, 3, .int 0, []) else none) else (bif Nat.ble pc 3 then (bif Nat.beq pc 3 then some (.istore_n 2, 4, .null, [2]) else none) else (bif Nat.beq pc 4 then some (.iload_n 2, 5, .null, [2]) else none)))) else (bif Nat.ble pc 6 then (bif Nat.ble pc 5 then (bif Nat.beq pc 5 then some (.iconst 4, 6, .int 4, []) else none) else (bif Nat.beq pc 6 then some (.if_icmp .ge 25, 9, .null, [31]) else none)) else (bif Nat.ble pc 9 then (bif Nat.beq pc 9 then some (.iload_n 1, 10, .null, [1]) else none) else (bif Nat.ble pc 10 then (bif Nat.beq pc 10 then some (.aload_n 0, 11, .null, [0]) else none) else (bif Nat.beq pc 11 then some (.iload_n 2, 12, .null, [2]) else none))))) else (bif Nat.ble pc 22 then (bif Nat.ble pc 15 then (bif Nat.ble pc 12 then (bif Nat.beq pc 12 then some (.invokevirtual 207, 15, .null, [1, 60, 2, 2, 4, 255, 258, 20, 257, 8]) else none) else (bif Nat.beq pc 15 then some (.ifCond .eq 7, 18, .null, [22]) else none)) else (bif Nat.ble pc 18 then (bif Nat.beq pc 18 then some (.iconst 1, 19, .int 1, []) else none) else (bif Nat.ble pc 19 then (bif Nat.beq pc 19 then some (.goto 4, 22, .null, [23]) else none) else (bif Nat.beq pc 22 then some (.iconst 0, 23, .int 0, []) else none)))) else (bif Nat.ble pc 25 then (bif Nat.ble pc 23 then (bif Nat.beq pc 23 then some (.iadd, 24, .null, []) else none) else (bif Nat.ble pc 24 then (bif Nat.beq pc 24 then some (.istore_n 1, 25, .null, [1]) else none) else (bif Nat.beq pc 25 then some (.iinc 2 1, 28, .int 1, [2]) else none))) else (bif Nat.ble pc 28 then (bif Nat.beq pc 28 then some (.goto (-24), 31, .null, [4]) else none) else (bif Nat.ble pc 31 then (bif Nat.beq pc 31 then some (.iload_n 1, 32, .null, [1]) else none) else (bif Nat.beq pc 32 then some (.ireturn, 33, .null, [0]) else none))))))
def mm_k66 : Nat → Option mm_En := fun pc => (bif Nat.ble pc 37 then (bif Nat.ble pc 14 then (bif Nat.ble pc 4 then (bif Nat.ble pc 1 then (bif Nat.ble pc 0 then (bif Nat.beq pc 0 then some (.iconst (-1), 1, .int (-1), []) else none) else (bif Nat.beq pc 1 then some (.istore_n 1, 2, .null, [1]) else none)) else (bif Nat.ble pc 2 then (bif Nat.beq pc 2 then some (.iconst 0, 3, .int 0, []) else none) else (bif Nat.ble pc 3 then (bif Nat.beq pc 3 then some (.istore_n 2, 4, .null, [2]) else none) else (bif Nat.beq pc 4 then some (.iload_n 2, 5, .null, [2]) else none)))) else (bif Nat.ble pc 9 then (bif Nat.ble pc 5 then (bif Nat.beq pc 5 then some (.iconst 4, 6, .int 4, []) else none) else (bif Nat.ble pc 6 then (bif Nat.beq pc 6 then some (.if_icmp .ge 72, 9, .null, [78]) else none) else (bif Nat.beq pc 9 then some (.aload_n 0, 10, .null, [0]) else none))) else (bif Nat.ble pc 10 then (bif Nat.beq pc 10 then some (.iload_n 2, 11, .null, [2]) else none) else (bif Nat.ble pc 11 then (bif Nat.beq pc 11 then some (.invokevirtual 207, 14, .null, [1, 60, 2, 2, 4, 255, 258, 20, 257, 8]) else none) else (bif Nat.beq pc 14 then some (.ifCond .eq 38, 17, .null, [52]) else none))))) else (bif Nat.ble pc 26 then (bif Nat.ble pc 19 then (bif Nat.ble pc 17 then (bif Nat.beq pc 17 then some (.iload_n 1, 18, .null, [1]) else none) else (bif Nat.ble pc 18 then (bif Nat.beq pc 18 then some (.iconst (-1), 19, .int (-1), []) else none) else (bif Nat.beq pc 19 then some (.if_icmp .ne 15, 22, .null, [34]) else none))) else (bif Nat.ble pc 22 then (bif Nat.beq pc 22 then some (.aload_n 0, 23, .null, [0]) else none) else (bif Nat.ble pc 23 then (bif Nat.beq pc 23 then some (.getfield 10, 26, .null, [4, 0, 1, 0, 154, 1]) else none) else (bif Nat.beq pc 26 then some (.getfield 75, 29, .null, [0, 0, 1, 1, 48, 1]) else none)))) else (bif Nat.ble pc 31 then (bif Nat.ble pc 29 then (bif Nat.beq pc 29 then some (.iload_n 2, 30, .null, [2]) else none) else (bif Nat.ble pc 30 then (bif Nat.beq pc 30 then some (.iaload, 31, .null, [0]) else none) else (bif Nat.beq pc 31 then some (.goto 17, 34, .null, [48]) else none))) else (bif Nat.ble pc 34 then (bif Nat.beq pc 34 then some (.bipush 10, 36, .int 10, []) else none) else (bif Nat.ble pc 36 then (bif Nat.beq pc 36 then some (.iload_n 1, 37, .null, [1]) else none) else (bif Nat.beq pc 37 then some (.imul, 38, .null, []) else none)))))) else (bif Nat.ble pc 59 then (bif Nat.ble pc 47 then (bif Nat.ble pc 42 then (bif Nat.ble pc 38 then (bif Nat.beq pc 38 then some (.aload_n 0, 39, .null, [0]) else none) else (bif Nat.ble pc 39 then (bif Nat.beq pc 39 then some (.getfield 10, 42, .null, [4, 0, 1, 0, 154, 1]) else none) else (bif Nat.beq pc 42 then some (.getfield 75, 45, .null, [0, 0, 1, 1, 48, 1]) else none))) else (bif Nat.ble pc 45 then (bif Nat.beq pc 45 then some (.iload_n 2, 46, .null, [2]) else none) else (bif Nat.ble pc 46 then (bif Nat.beq pc 46 then some (.iaload, 47, .null, [0]) else none) else (bif Nat.beq pc 47 then some (.iadd, 48, .null, []) else none)))) else (bif Nat.ble pc 52 then (bif Nat.ble pc 48 then (bif Nat.beq pc 48 then some (.istore_n 1, 49, .null, [1]) else none) else (bif Nat.ble pc 49 then (bif Nat.beq pc 49 then some (.goto 23, 52, .null, [72]) else none) else (bif Nat.beq pc 52 then some (.aload_n 0, 53, .null, [0]) else none))) else (bif Nat.ble pc 53 then (bif Nat.beq pc 53 then some (.getfield 10, 56, .null, [4, 0, 1, 0, 154, 1]) else none) else (bif Nat.ble pc 56 then (bif Nat.beq pc 56 then some (.getfield 75, 59, .null, [0, 0, 1, 1, 48, 1]) else none) else (bif Nat.beq pc 59 then some (.iload_n 2, 60, .null, [2]) else none))))) else (bif Nat.ble pc 67 then (bif Nat.ble pc 62 then (bif Nat.ble pc 60 then (bif Nat.beq pc 60 then some (.iaload, 61, .null, [0]) else none) else (bif Nat.ble pc 61 then (bif Nat.beq pc 61 then some (.iconst (-1), 62, .int (-1), []) else none) else (bif Nat.beq pc 62 then some (.if_icmp .ne 8, 65, .null, [70]) else none))) else (bif Nat.ble pc 65 then (bif Nat.beq pc 65 then some (.iload_n 1, 66, .null, [1]) else none) else (bif Nat.ble pc 66 then (bif Nat.beq pc 66 then some (.iconst (-1), 67, .int (-1), []) else none) else (bif Nat.beq pc 67 then some (.if_icmp .eq 5, 70, .null, [72]) else none)))) else (bif Nat.ble pc 72 then (bif Nat.ble pc 70 then (bif Nat.beq pc 70 then some (.iconst (-1), 71, .int (-1), []) else none) else (bif Nat.ble pc 71 then (bif Nat.beq pc 71 then some (.ireturn, 72, .null, [0]) else none) else (bif Nat.beq pc 72 then some (.iinc 2 1, 75, .int 1, [2]) else none))) else (bif Nat.ble pc 75 then (bif Nat.beq pc 75 then some (.goto (-71), 78, .null, [4]) else none) else (bif Nat.ble pc 78 then (bif Nat.beq pc 78 then some (.iload_n 1, 79, .null, [1]) else none) else (bif Nat.beq pc 79 then some (.ireturn, 80, .null, [0]) else none)))))))
def mm_k67 : Nat → Option mm_En := fun pc => (bif Nat.ble pc 26 then (bif Nat.ble pc 11 then (bif Nat.ble pc 4 then (bif Nat.ble pc 1 then (bif Nat.ble pc 0 then (bif Nat.beq pc 0 then some (.iload_n 0, 1, .null, [0]) else none) else (bif Nat.beq pc 1 then some (.iload_n 0, 2, .null, [0]) else none)) else (bif Nat.ble pc 2 then (bif Nat.beq pc 2 then some (.iconst 1, 3, .int 1, []) else none) else (bif Nat.ble pc 3 then (bif Nat.beq pc 3 then some (.iushr, 4, .null, []) else none) else (bif Nat.beq pc 4 then some (.ldc_w 265, 7, .int 1431655765, [147]) else none)))) else (bif Nat.ble pc 8 then (bif Nat.ble pc 7 then (bif Nat.beq pc 7 then some (.iand, 8, .null, []) else none) else (bif Nat.beq pc 8 then some (.isub, 9, .null, []) else none)) else (bif Nat.ble pc 9 then (bif Nat.beq pc 9 then some (.istore_n 0, 10, .null, [0]) else none) else (bif Nat.ble pc 10 then (bif Nat.beq pc 10 then some (.iload_n 0, 11, .null, [0]) else none) else (bif Nat.beq pc 11 then some (.ldc_w 266, 14, .int 858993459, [148]) else none))))) else (bif Nat.ble pc 18 then (bif Nat.ble pc 15 then (bif Nat.ble pc 14 then (bif Nat.beq pc 14 then some (.iand, 15, .null, []) else none) else (bif Nat.beq pc 15 then some (.iload_n 0, 16, .null, [0]) else none)) else (bif Nat.ble pc 16 then (bif Nat.beq pc 16 then some (.iconst 2, 17, .int 2, []) else none) else (bif Nat.ble pc 17 then (bif Nat.beq pc 17 then some (.iushr, 18, .null, []) else none) else (bif Nat.beq pc 18 then some (.ldc_w 266, 21, .int 858993459, [148]) else none)))) else (bif Nat.ble pc 23 then (bif Nat.ble pc 21 then (bif Nat.beq pc 21 then some (.iand, 22, .null, []) else none) else (bif Nat.ble pc 22 then (bif Nat.beq pc 22 then some (.iadd, 23, .null, []) else none) else (bif Nat.beq pc 23 then some (.istore_n 0, 24, .null, [0]) else none))) else (bif Nat.ble pc 24 then (bif Nat.beq pc 24 then some (.iload_n 0, 25, .null, [0]) else none) else (bif Nat.ble pc 25 then (bif Nat.beq pc 25 then some (.iload_n 0, 26, .null, [0]) else none) else (bif Nat.beq pc 26 then some (.iconst 4, 27, .int 4, []) else none)))))) else (bif Nat.ble pc 39 then (bif Nat.ble pc 33 then (bif Nat.ble pc 28 then (bif Nat.ble pc 27 then (bif Nat.beq pc 27 then some (.iushr, 28, .null, []) else none) else (bif Nat.beq pc 28 then some (.iadd, 29, .null, []) else none)) else (bif Nat.ble pc 29 then (bif Nat.beq pc 29 then some (.ldc_w 267, 32, .int 252645135, [149]) else none) else (bif Nat.ble pc 32 then (bif Nat.beq pc 32 then some (.iand, 33, .null, []) else none) else (bif Nat.beq pc 33 then some (.istore_n 0, 34, .null, [0]) else none)))) else (bif Nat.ble pc 35 then (bif Nat.ble pc 34 then (bif Nat.beq pc 34 then some (.iload_n 0, 35, .null, [0]) else none) else (bif Nat.beq pc 35 then some (.iload_n 0, 36, .null, [0]) else none)) else (bif Nat.ble pc 36 then (bif Nat.beq pc 36 then some (.bipush 8, 38, .int 8, []) else none) else (bif Nat.ble pc 38 then (bif Nat.beq pc 38 then some (.iushr, 39, .null, []) else none) else (bif Nat.beq pc 39 then some (.iadd, 40, .null, []) else none))))) else (bif Nat.ble pc 45 then (bif Nat.ble pc 41 then (bif Nat.ble pc 40 then (bif Nat.beq pc 40 then some (.istore_n 0, 41, .null, [0]) else none) else (bif Nat.beq pc 41 then some (.iload_n 0, 42, .null, [0]) else none)) else (bif Nat.ble pc 42 then (bif Nat.beq pc 42 then some (.iload_n 0, 43, .null, [0]) else none) else (bif Nat.ble pc 43 then (bif Nat.beq pc 43 then some (.bipush 16, 45, .int 16, []) else none) else (bif Nat.beq pc 45 then some (.iushr, 46, .null, []) else none)))) else (bif Nat.ble pc 48 then (bif Nat.ble pc 46 then (bif Nat.beq pc 46 then some (.iadd, 47, .null, []) else none) else (bif Nat.ble pc 47 then (bif Nat.beq pc 47 then some (.istore_n 0, 48, .null, [0]) else none) else (bif Nat.beq pc 48 then some (.iload_n 0, 49, .null, [0]) else none))) else (bif Nat.ble pc 49 then (bif Nat.beq pc 49 then some (.bipush 63, 51, .int 63, []) else none) else (bif Nat.ble pc 51 then (bif Nat.beq pc 51 then some (.iand, 52, .null, []) else none) else (bif Nat.beq pc 52 then some (.ireturn, 53, .null, [0]) else none)))))))
def mm_k68 : Nat → Option mm_En := fun pc => (bif Nat.ble pc 3 then (bif Nat.ble pc 0 then (bif Nat.beq pc 0 then some (.iload_n 0, 1, .null, [0]) else none) else (bif Nat.ble pc 1 then (bif Nat.beq pc 1 then some (.ldc 7, 3, .int 2147483647, [308]) else none) else (bif Nat.beq pc 3 then some (.iand, 4, .null, []) else none))) else (bif Nat.ble pc 4 then (bif Nat.beq pc 4 then some (.iload_n 1, 5, .null, [1]) else none) else (bif Nat.ble pc 5 then (bif Nat.beq pc 5 then some (.irem, 6, .null, []) else none) else (bif Nat.beq pc 6 then some (.ireturn, 7, .null, [0]) else none))))
def mm_k69 : Nat → Option mm_En := fun pc => (bif Nat.ble pc 8 then (bif Nat.ble pc 2 then (bif Nat.ble pc 0 then (bif Nat.beq pc 0 then some (.iload_n 1, 1, .null, [1]) else none) else (bif Nat.ble pc 1 then (bif Nat.beq pc 1 then some (.aload_n 0, 2, .null, [0]) else none) else (bif Nat.beq pc 2 then some (.arraylength, 3, .null, []) else none))) else (bif Nat.ble pc 6 then (bif Nat.ble pc 3 then (bif Nat.beq pc 3 then some (.if_icmp .ge 9, 6, .null, [12]) else none) else (bif Nat.beq pc 6 then some (.aload_n 0, 7, .null, [0]) else none)) else (bif Nat.ble pc 7 then (bif Nat.beq pc 7 then some (.iload_n 1, 8, .null, [1]) else none) else (bif Nat.beq pc 8 then some (.iaload, 9, .null, [0]) else none)))) else (bif Nat.ble pc 14 then (bif Nat.ble pc 9 then (bif Nat.beq pc 9 then some (.goto 11, 12, .null, [20]) else none) else (bif Nat.ble pc 12 then (bif Nat.beq pc 12 then some (.ldc 8, 14, .int 40503, [312]) else none) else (bif Nat.beq pc 14 then some (.iload_n 1, 15, .null, [1]) else none))) else (bif Nat.ble pc 16 then (bif Nat.ble pc 15 then (bif Nat.beq pc 15 then some (.imul, 16, .null, []) else none) else (bif Nat.beq pc 16 then some (.sipush 977, 19, .int 977, []) else none)) else (bif Nat.ble pc 19 then (bif Nat.beq pc 19 then some (.iadd, 20, .null, []) else none) else (bif Nat.beq pc 20 then some (.ireturn, 21, .null, [0]) else none)))))
def mm_k70 : Nat → Option mm_En := fun pc => (bif Nat.ble pc 11 then (bif Nat.ble pc 3 then (bif Nat.ble pc 1 then (bif Nat.ble pc 0 then (bif Nat.beq pc 0 then some (.iconst 0, 1, .int 0, []) else none) else (bif Nat.beq pc 1 then some (.istore_n 1, 2, .null, [1]) else none)) else (bif Nat.ble pc 2 then (bif Nat.beq pc 2 then some (.iload_n 0, 3, .null, [0]) else none) else (bif Nat.beq pc 3 then some (.istore_n 2, 4, .null, [2]) else none))) else (bif Nat.ble pc 5 then (bif Nat.ble pc 4 then (bif Nat.beq pc 4 then some (.iload_n 2, 5, .null, [2]) else none) else (bif Nat.beq pc 5 then some (.ifCond .eq 15, 8, .null, [20]) else none)) else (bif Nat.ble pc 8 then (bif Nat.beq pc 8 then some (.iinc 1 1, 11, .int 1, [1]) else none) else (bif Nat.beq pc 11 then some (.iload_n 2, 12, .null, [2]) else none)))) else (bif Nat.ble pc 15 then (bif Nat.ble pc 13 then (bif Nat.ble pc 12 then (bif Nat.beq pc 12 then some (.iload_n 2, 13, .null, [2]) else none) else (bif Nat.beq pc 13 then some (.iconst 1, 14, .int 1, []) else none)) else (bif Nat.ble pc 14 then (bif Nat.beq pc 14 then some (.isub, 15, .null, []) else none) else (bif Nat.beq pc 15 then some (.iand, 16, .null, []) else none))) else (bif Nat.ble pc 17 then (bif Nat.ble pc 16 then (bif Nat.beq pc 16 then some (.istore_n 2, 17, .null, [2]) else none) else (bif Nat.beq pc 17 then some (.goto (-13), 20, .null, [4]) else none)) else (bif Nat.ble pc 20 then (bif Nat.beq pc 20 then some (.iload_n 1, 21, .null, [1]) else none) else (bif Nat.beq pc 21 then some (.ireturn, 22, .null, [0]) else none)))))
def mm_k71 : Nat → Option mm_En := fun pc => (bif Nat.ble pc 3 then (bif Nat.ble pc 1 then (bif Nat.ble pc 0 then (bif Nat.beq pc 0 then some (.aload_n 0, 1, .null, [0]) else none) else (bif Nat.beq pc 1 then some (.iload_n 1, 2, .null, [1]) else none)) else (bif Nat.ble pc 2 then (bif Nat.beq pc 2 then some (.iload_n 2, 3, .null, [2]) else none) else (bif Nat.beq pc 3 then some (.invokevirtual 9, 6, .null, [1, 27, 3, 4, 4, 464, 467, 20, 465, 466]) else none))) else (bif Nat.ble pc 7 then (bif Nat.ble pc 6 then (bif Nat.beq pc 6 then some (.ireturn, 7, .null, [0]) else none) else (bif Nat.beq pc 7 then some (.astore_n 3, 8, .null, [3]) else none)) else (bif Nat.ble pc 8 then (bif Nat.beq pc 8 then some (.bipush (-3), 10, .int (-3), []) else none) else (bif Nat.beq pc 10 then some (.ireturn, 11, .null, [0]) else none))))
def mm_k72 : Nat → Option mm_En := fun pc => (bif Nat.ble pc 2 then (bif Nat.ble pc 0 then (bif Nat.beq pc 0 then some (.aload_n 0, 1, .null, [0]) else none) else (bif Nat.ble pc 1 then (bif Nat.beq pc 1 then some (.iload_n 1, 2, .null, [1]) else none) else (bif Nat.beq pc 2 then some (.invokevirtual 17, 5, .null, [1, 28, 2, 3, 4, 488, 491, 20, 489, 490]) else none))) else (bif Nat.ble pc 6 then (bif Nat.ble pc 5 then (bif Nat.beq pc 5 then some (.ireturn, 6, .null, [0]) else none) else (bif Nat.beq pc 6 then some (.astore_n 2, 7, .null, [2]) else none)) else (bif Nat.ble pc 7 then (bif Nat.beq pc 7 then some (.bipush (-3), 9, .int (-3), []) else none) else (bif Nat.beq pc 9 then some (.ireturn, 10, .null, [0]) else none))))
def mm_k73 : Nat → Option mm_En := fun pc => (bif Nat.ble pc 4 then (bif Nat.ble pc 0 then (bif Nat.beq pc 0 then some (.aload_n 0, 1, .null, [0]) else none) else (bif Nat.ble pc 1 then (bif Nat.beq pc 1 then some (.invokevirtual 21, 4, .null, [1, 33, 1, 1, 4, 512, 515, 20, 513, 514]) else none) else (bif Nat.beq pc 4 then some (.ireturn, 5, .null, [0]) else none))) else (bif Nat.ble pc 5 then (bif Nat.beq pc 5 then some (.astore_n 1, 6, .null, [1]) else none) else (bif Nat.ble pc 6 then (bif Nat.beq pc 6 then some (.bipush (-3), 8, .int (-3), []) else none) else (bif Nat.beq pc 8 then some (.ireturn, 9, .null, [0]) else none))))
def mm_k74 : Nat → Option mm_En := fun pc => (bif Nat.ble pc 301 then (bif Nat.ble pc 139 then (bif Nat.ble pc 65 then (bif Nat.ble pc 28 then (bif Nat.ble pc 13 then (bif Nat.ble pc 6 then (bif Nat.ble pc 1 then (bif Nat.ble pc 0 then (bif Nat.beq pc 0 then some (.aload_n 0, 1, .null, [0]) else none) else (bif Nat.beq pc 1 then some (.iload_n 1, 2, .null, [1]) else none)) else (bif Nat.ble pc 2 then (bif Nat.beq pc 2 then some (.iconst 0, 3, .int 0, []) else none) else (bif Nat.ble pc 3 then (bif Nat.beq pc 3 then some (.invokevirtual 25, 6, .null, [1, 34, 3, 5, 4, 319, 322, 20, 320, 321]) else none) else (bif Nat.beq pc 6 then some (.istore_n 2, 7, .null, [2]) else none)))) else (bif Nat.ble pc 8 then (bif Nat.ble pc 7 then (bif Nat.beq pc 7 then some (.aload_n 0, 8, .null, [0]) else none) else (bif Nat.beq pc 8 then some (.iload_n 1, 9, .null, [1]) else none)) else (bif Nat.ble pc 9 then (bif Nat.beq pc 9 then some (.iconst 2, 10, .int 2, []) else none) else (bif Nat.ble pc 10 then (bif Nat.beq pc 10 then some (.invokevirtual 25, 13, .null, [1, 34, 3, 5, 4, 319, 322, 20, 320, 321]) else none) else (bif Nat.beq pc 13 then some (.istore_n 3, 14, .null, [3]) else none))))) else (bif Nat.ble pc 20 then (bif Nat.ble pc 15 then (bif Nat.ble pc 14 then (bif Nat.beq pc 14 then some (.iconst 0, 15, .int 0, []) else none) else (bif Nat.beq pc 15 then some (.istore 4, 17, .null, [4]) else none)) else (bif Nat.ble pc 17 then (bif Nat.beq pc 17 then some (.iconst 0, 18, .int 0, []) else none) else (bif Nat.ble pc 18 then (bif Nat.beq pc 18 then some (.istore 5, 20, .null, [5]) else none) else (bif Nat.beq pc 20 then some (.aload_n 0, 21, .null, [0]) else none)))) else (bif Nat.ble pc 22 then (bif Nat.ble pc 21 then (bif Nat.beq pc 21 then some (.iload_n 1, 22, .null, [1]) else none) else (bif Nat.beq pc 22 then some (.iconst 5, 23, .int 5, []) else none)) else (bif Nat.ble pc 23 then (bif Nat.beq pc 23 then some (.invokevirtual 25, 26, .null, [1, 34, 3, 5, 4, 319, 322, 20, 320, 321]) else none) else (bif Nat.ble pc 26 then (bif Nat.beq pc 26 then some (.istore 6, 28, .null, [6]) else none) else (bif Nat.beq pc 28 then some (.iconst 1, 29, .int 1, []) else none)))))) else (bif Nat.ble pc 48 then (bif Nat.ble pc 36 then (bif Nat.ble pc 31 then (bif Nat.ble pc 29 then (bif Nat.beq pc 29 then some (.istore 7, 31, .null, [7]) else none) else (bif Nat.beq pc 31 then some (.iconst 0, 32, .int 0, []) else none)) else (bif Nat.ble pc 32 then (bif Nat.beq pc 32 then some (.istore 8, 34, .null, [8]) else none) else (bif Nat.ble pc 34 then (bif Nat.beq pc 34 then some (.iload 8, 36, .null, [8]) else none) else (bif Nat.beq pc 36 then some (.bipush 15, 38, .int 15, []) else none)))) else (bif Nat.ble pc 41 then (bif Nat.ble pc 38 then (bif Nat.beq pc 38 then some (.if_icmp .ge 113, 41, .null, [151]) else none) else (bif Nat.beq pc 41 then some (.iload 7, 43, .null, [7]) else none)) else (bif Nat.ble pc 43 then (bif Nat.beq pc 43 then some (.ifCond .eq 108, 46, .null, [151]) else none) else (bif Nat.ble pc 46 then (bif Nat.beq pc 46 then some (.iload 4, 48, .null, [4]) else none) else (bif Nat.beq pc 48 then some (.aload_n 0, 49, .null, [0]) else none))))) else (bif Nat.ble pc 56 then (bif Nat.ble pc 50 then (bif Nat.ble pc 49 then (bif Nat.beq pc 49 then some (.iload_n 1, 50, .null, [1]) else none) else (bif Nat.beq pc 50 then some (.iload 8, 52, .null, [8]) else none)) else (bif Nat.ble pc 52 then (bif Nat.beq pc 52 then some (.iconst 0, 53, .int 0, []) else none) else (bif Nat.ble pc 53 then (bif Nat.beq pc 53 then some (.invokevirtual 28, 56, .null, [1, 35, 4, 4, 4, 363, 366, 20, 364, 365]) else none) else (bif Nat.beq pc 56 then some (.bipush 14, 58, .int 14, []) else none)))) else (bif Nat.ble pc 61 then (bif Nat.ble pc 58 then (bif Nat.beq pc 58 then some (.iload 8, 60, .null, [8]) else none) else (bif Nat.ble pc 60 then (bif Nat.beq pc 60 then some (.isub, 61, .null, []) else none) else (bif Nat.beq pc 61 then some (.ishl, 62, .null, []) else none))) else (bif Nat.ble pc 62 then (bif Nat.beq pc 62 then some (.ior, 63, .null, []) else none) else (bif Nat.ble pc 63 then (bif Nat.beq pc 63 then some (.istore 4, 65, .null, [4]) else none) else (bif Nat.beq pc 65 then some (.iload 5, 67, .null, [5]) else none))))))) else (bif Nat.ble pc 99 then (bif Nat.ble pc 81 then (bif Nat.ble pc 72 then (bif Nat.ble pc 68 then (bif Nat.ble pc 67 then (bif Nat.beq pc 67 then some (.aload_n 0, 68, .null, [0]) else none) else (bif Nat.beq pc 68 then some (.iload_n 1, 69, .null, [1]) else none)) else (bif Nat.ble pc 69 then (bif Nat.beq pc 69 then some (.iload 8, 71, .null, [8]) else none) else (bif Nat.ble pc 71 then (bif Nat.beq pc 71 then some (.iconst 2, 72, .int 2, []) else none) else (bif Nat.beq pc 72 then some (.invokevirtual 28, 75, .null, [1, 35, 4, 4, 4, 363, 366, 20, 364, 365]) else none)))) else (bif Nat.ble pc 77 then (bif Nat.ble pc 75 then (bif Nat.beq pc 75 then some (.bipush 14, 77, .int 14, []) else none) else (bif Nat.beq pc 77 then some (.iload 8, 79, .null, [8]) else none)) else (bif Nat.ble pc 79 then (bif Nat.beq pc 79 then some (.isub, 80, .null, []) else none) else (bif Nat.ble pc 80 then (bif Nat.beq pc 80 then some (.ishl, 81, .null, []) else none) else (bif Nat.beq pc 81 then some (.ior, 82, .null, []) else none))))) else (bif Nat.ble pc 88 then (bif Nat.ble pc 84 then (bif Nat.ble pc 82 then (bif Nat.beq pc 82 then some (.istore 5, 84, .null, [5]) else none) else (bif Nat.beq pc 84 then some (.aload_n 0, 85, .null, [0]) else none)) else (bif Nat.ble pc 85 then (bif Nat.beq pc 85 then some (.iload_n 1, 86, .null, [1]) else none) else (bif Nat.ble pc 86 then (bif Nat.beq pc 86 then some (.iload 8, 88, .null, [8]) else none) else (bif Nat.beq pc 88 then some (.iconst 1, 89, .int 1, []) else none)))) else (bif Nat.ble pc 95 then (bif Nat.ble pc 89 then (bif Nat.beq pc 89 then some (.invokevirtual 28, 92, .null, [1, 35, 4, 4, 4, 363, 366, 20, 364, 365]) else none) else (bif Nat.ble pc 92 then (bif Nat.beq pc 92 then some (.ifCond .lt 50, 95, .null, [142]) else none) else (bif Nat.beq pc 95 then some (.aload_n 0, 96, .null, [0]) else none))) else (bif Nat.ble pc 96 then (bif Nat.beq pc 96 then some (.iload_n 1, 97, .null, [1]) else none) else (bif Nat.ble pc 97 then (bif Nat.beq pc 97 then some (.iload 8, 99, .null, [8]) else none) else (bif Nat.beq pc 99 then some (.iconst 1, 100, .int 1, []) else none)))))) else (bif Nat.ble pc 116 then (bif Nat.ble pc 108 then (bif Nat.ble pc 103 then (bif Nat.ble pc 100 then (bif Nat.beq pc 100 then some (.invokevirtual 28, 103, .null, [1, 35, 4, 4, 4, 363, 366, 20, 364, 365]) else none) else (bif Nat.beq pc 103 then some (.aload_n 0, 104, .null, [0]) else none)) else (bif Nat.ble pc 104 then (bif Nat.beq pc 104 then some (.iconst 0, 105, .int 0, []) else none) else (bif Nat.ble pc 105 then (bif Nat.beq pc 105 then some (.invokevirtual 32, 108, .null, [1, 38, 2, 2, 4, 170, 173, 20, 171, 172]) else none) else (bif Nat.beq pc 108 then some (.if_icmp .gt 34, 111, .null, [142]) else none)))) else (bif Nat.ble pc 112 then (bif Nat.ble pc 111 then (bif Nat.beq pc 111 then some (.aload_n 0, 112, .null, [0]) else none) else (bif Nat.beq pc 112 then some (.iload_n 1, 113, .null, [1]) else none)) else (bif Nat.ble pc 113 then (bif Nat.beq pc 113 then some (.iload 8, 115, .null, [8]) else none) else (bif Nat.ble pc 115 then (bif Nat.beq pc 115 then some (.iconst 3, 116, .int 3, []) else none) else (bif Nat.beq pc 116 then some (.invokevirtual 28, 119, .null, [1, 35, 4, 4, 4, 363, 366, 20, 364, 365]) else none))))) else (bif Nat.ble pc 126 then (bif Nat.ble pc 122 then (bif Nat.ble pc 119 then (bif Nat.beq pc 119 then some (.ifCond .lt 23, 122, .null, [142]) else none) else (bif Nat.beq pc 122 then some (.aload_n 0, 123, .null, [0]) else none)) else (bif Nat.ble pc 123 then (bif Nat.beq pc 123 then some (.iload_n 1, 124, .null, [1]) else none) else (bif Nat.ble pc 124 then (bif Nat.beq pc 124 then some (.iload 8, 126, .null, [8]) else none) else (bif Nat.beq pc 126 then some (.iconst 3, 127, .int 3, []) else none)))) else (bif Nat.ble pc 132 then (bif Nat.ble pc 127 then (bif Nat.beq pc 127 then some (.invokevirtual 28, 130, .null, [1, 35, 4, 4, 4, 363, 366, 20, 364, 365]) else none) else (bif Nat.ble pc 130 then (bif Nat.beq pc 130 then some (.iload 6, 132, .null, [6]) else none) else (bif Nat.beq pc 132 then some (.invokestatic 35, 135, .null, [2, 70, 1, 3, 99, 376, 378, 19, 377]) else none))) else (bif Nat.ble pc 135 then (bif Nat.beq pc 135 then some (.if_icmp .gt 7, 138, .null, [142]) else none) else (bif Nat.ble pc 138 then (bif Nat.beq pc 138 then some (.iconst 1, 139, .int 1, []) else none) else (bif Nat.beq pc 139 then some (.goto 4, 142, .null, [143]) else none)))))))) else (bif Nat.ble pc 222 then (bif Nat.ble pc 184 then (bif Nat.ble pc 162 then (bif Nat.ble pc 151 then (bif Nat.ble pc 143 then (bif Nat.ble pc 142 then (bif Nat.beq pc 142 then some (.iconst 0, 143, .int 0, []) else none) else (bif Nat.beq pc 143 then some (.istore 7, 145, .null, [7]) else none)) else (bif Nat.ble pc 145 then (bif Nat.beq pc 145 then some (.iinc 8 1, 148, .int 1, [8]) else none) else (bif Nat.ble pc 148 then (bif Nat.beq pc 148 then some (.goto (-114), 151, .null, [34]) else none) else (bif Nat.beq pc 151 then some (.iload 7, 153, .null, [7]) else none)))) else (bif Nat.ble pc 156 then (bif Nat.ble pc 153 then (bif Nat.beq pc 153 then some (.ifCond .eq 35, 156, .null, [188]) else none) else (bif Nat.beq pc 156 then some (.iload 4, 158, .null, [4]) else none)) else (bif Nat.ble pc 158 then (bif Nat.beq pc 158 then some (.invokestatic 35, 161, .null, [2, 70, 1, 3, 99, 376, 378, 19, 377]) else none) else (bif Nat.ble pc 161 then (bif Nat.beq pc 161 then some (.aload_n 0, 162, .null, [0]) else none) else (bif Nat.beq pc 162 then some (.iload_n 1, 163, .null, [1]) else none))))) else (bif Nat.ble pc 172 then (bif Nat.ble pc 164 then (bif Nat.ble pc 163 then (bif Nat.beq pc 163 then some (.iconst 3, 164, .int 3, []) else none) else (bif Nat.beq pc 164 then some (.invokevirtual 25, 167, .null, [1, 34, 3, 5, 4, 319, 322, 20, 320, 321]) else none)) else (bif Nat.ble pc 167 then (bif Nat.beq pc 167 then some (.if_icmp .ne 21, 170, .null, [188]) else none) else (bif Nat.ble pc 170 then (bif Nat.beq pc 170 then some (.iload 5, 172, .null, [5]) else none) else (bif Nat.beq pc 172 then some (.iload_n 3, 173, .null, [3]) else none)))) else (bif Nat.ble pc 178 then (bif Nat.ble pc 173 then (bif Nat.beq pc 173 then some (.if_icmp .ne 15, 176, .null, [188]) else none) else (bif Nat.ble pc 176 then (bif Nat.beq pc 176 then some (.iload 5, 178, .null, [5]) else none) else (bif Nat.beq pc 178 then some (.iload 4, 180, .null, [4]) else none))) else (bif Nat.ble pc 180 then (bif Nat.beq pc 180 then some (.iand, 181, .null, []) else none) else (bif Nat.ble pc 181 then (bif Nat.beq pc 181 then some (.ifCond .ne 7, 184, .null, [188]) else none) else (bif Nat.beq pc 184 then some (.iconst 1, 185, .int 1, []) else none)))))) else (bif Nat.ble pc 203 then (bif Nat.ble pc 192 then (bif Nat.ble pc 188 then (bif Nat.ble pc 185 then (bif Nat.beq pc 185 then some (.goto 4, 188, .null, [189]) else none) else (bif Nat.beq pc 188 then some (.iconst 0, 189, .int 0, []) else none)) else (bif Nat.ble pc 189 then (bif Nat.beq pc 189 then some (.istore 7, 191, .null, [7]) else none) else (bif Nat.ble pc 191 then (bif Nat.beq pc 191 then some (.iconst 0, 192, .int 0, []) else none) else (bif Nat.beq pc 192 then some (.istore 8, 194, .null, [8]) else none)))) else (bif Nat.ble pc 196 then (bif Nat.ble pc 194 then (bif Nat.beq pc 194 then some (.iload 8, 196, .null, [8]) else none) else (bif Nat.beq pc 196 then some (.bipush 10, 198, .int 10, []) else none)) else (bif Nat.ble pc 198 then (bif Nat.beq pc 198 then some (.if_icmp .ge 192, 201, .null, [390]) else none) else (bif Nat.ble pc 201 then (bif Nat.beq pc 201 then some (.iload 7, 203, .null, [7]) else none) else (bif Nat.beq pc 203 then some (.ifCond .eq 187, 206, .null, [390]) else none))))) else (bif Nat.ble pc 212 then (bif Nat.ble pc 208 then (bif Nat.ble pc 206 then (bif Nat.beq pc 206 then some (.iload 6, 208, .null, [6]) else none) else (bif Nat.beq pc 208 then some (.iload 8, 210, .null, [8]) else none)) else (bif Nat.ble pc 210 then (bif Nat.beq pc 210 then some (.ishr, 211, .null, []) else none) else (bif Nat.ble pc 211 then (bif Nat.beq pc 211 then some (.iconst 1, 212, .int 1, []) else none) else (bif Nat.beq pc 212 then some (.iand, 213, .null, []) else none)))) else (bif Nat.ble pc 217 then (bif Nat.ble pc 213 then (bif Nat.beq pc 213 then some (.iconst 1, 214, .int 1, []) else none) else (bif Nat.ble pc 214 then (bif Nat.beq pc 214 then some (.if_icmp .ne 7, 217, .null, [221]) else none) else (bif Nat.beq pc 217 then some (.iconst 1, 218, .int 1, []) else none))) else (bif Nat.ble pc 218 then (bif Nat.beq pc 218 then some (.goto 4, 221, .null, [222]) else none) else (bif Nat.ble pc 221 then (bif Nat.beq pc 221 then some (.iconst 0, 222, .int 0, []) else none) else (bif Nat.beq pc 222 then some (.istore 9, 224, .null, [9]) else none))))))) else (bif Nat.ble pc 262 then (bif Nat.ble pc 238 then (bif Nat.ble pc 229 then (bif Nat.ble pc 225 then (bif Nat.ble pc 224 then (bif Nat.beq pc 224 then some (.aload_n 0, 225, .null, [0]) else none) else (bif Nat.beq pc 225 then some (.iload_n 1, 226, .null, [1]) else none)) else (bif Nat.ble pc 226 then (bif Nat.beq pc 226 then some (.iload 8, 228, .null, [8]) else none) else (bif Nat.ble pc 228 then (bif Nat.beq pc 228 then some (.iconst 1, 229, .int 1, []) else none) else (bif Nat.beq pc 229 then some (.invokevirtual 40, 232, .null, [1, 36, 4, 5, 4, 379, 382, 20, 380, 381]) else none)))) else (bif Nat.ble pc 234 then (bif Nat.ble pc 232 then (bif Nat.beq pc 232 then some (.istore 10, 234, .null, [10]) else none) else (bif Nat.beq pc 234 then some (.iload 9, 236, .null, [9]) else none)) else (bif Nat.ble pc 236 then (bif Nat.beq pc 236 then some (.aload_n 0, 237, .null, [0]) else none) else (bif Nat.ble pc 237 then (bif Nat.beq pc 237 then some (.iload_n 1, 238, .null, [1]) else none) else (bif Nat.beq pc 238 then some (.iload 8, 240, .null, [8]) else none))))) else (bif Nat.ble pc 248 then (bif Nat.ble pc 241 then (bif Nat.ble pc 240 then (bif Nat.beq pc 240 then some (.iconst 0, 241, .int 0, []) else none) else (bif Nat.beq pc 241 then some (.invokevirtual 40, 244, .null, [1, 36, 4, 5, 4, 379, 382, 20, 380, 381]) else none)) else (bif Nat.ble pc 244 then (bif Nat.beq pc 244 then some (.ifCond .lt 7, 247, .null, [251]) else none) else (bif Nat.ble pc 247 then (bif Nat.beq pc 247 then some (.iconst 1, 248, .int 1, []) else none) else (bif Nat.beq pc 248 then some (.goto 4, 251, .null, [252]) else none)))) else (bif Nat.ble pc 255 then (bif Nat.ble pc 251 then (bif Nat.beq pc 251 then some (.iconst 0, 252, .int 0, []) else none) else (bif Nat.ble pc 252 then (bif Nat.beq pc 252 then some (.if_icmp .ne 64, 255, .null, [316]) else none) else (bif Nat.beq pc 255 then some (.iload 9, 257, .null, [9]) else none))) else (bif Nat.ble pc 257 then (bif Nat.beq pc 257 then some (.iload 10, 259, .null, [10]) else none) else (bif Nat.ble pc 259 then (bif Nat.beq pc 259 then some (.ifCond .lt 7, 262, .null, [266]) else none) else (bif Nat.beq pc 262 then some (.iconst 1, 263, .int 1, []) else none)))))) else (bif Nat.ble pc 283 then (bif Nat.ble pc 272 then (bif Nat.ble pc 266 then (bif Nat.ble pc 263 then (bif Nat.beq pc 263 then some (.goto 4, 266, .null, [267]) else none) else (bif Nat.beq pc 266 then some (.iconst 0, 267, .int 0, []) else none)) else (bif Nat.ble pc 267 then (bif Nat.beq pc 267 then some (.if_icmp .ne 49, 270, .null, [316]) else none) else (bif Nat.ble pc 270 then (bif Nat.beq pc 270 then some (.iload 9, 272, .null, [9]) else none) else (bif Nat.beq pc 272 then some (.ifCond .eq 40, 275, .null, [312]) else none)))) else (bif Nat.ble pc 277 then (bif Nat.ble pc 275 then (bif Nat.beq pc 275 then some (.iload 10, 277, .null, [10]) else none) else (bif Nat.beq pc 277 then some (.iload 4, 279, .null, [4]) else none)) else (bif Nat.ble pc 279 then (bif Nat.beq pc 279 then some (.iand, 280, .null, []) else none) else (bif Nat.ble pc 280 then (bif Nat.beq pc 280 then some (.ifCond .ne 36, 283, .null, [316]) else none) else (bif Nat.beq pc 283 then some (.aload_n 0, 284, .null, [0]) else none))))) else (bif Nat.ble pc 291 then (bif Nat.ble pc 285 then (bif Nat.ble pc 284 then (bif Nat.beq pc 284 then some (.iload_n 1, 285, .null, [1]) else none) else (bif Nat.beq pc 285 then some (.iload 8, 287, .null, [8]) else none)) else (bif Nat.ble pc 287 then (bif Nat.beq pc 287 then some (.iconst 2, 288, .int 2, []) else none) else (bif Nat.ble pc 288 then (bif Nat.beq pc 288 then some (.invokevirtual 40, 291, .null, [1, 36, 4, 5, 4, 379, 382, 20, 380, 381]) else none) else (bif Nat.beq pc 291 then some (.aload_n 0, 292, .null, [0]) else none)))) else (bif Nat.ble pc 294 then (bif Nat.ble pc 292 then (bif Nat.beq pc 292 then some (.iload_n 1, 293, .null, [1]) else none) else (bif Nat.ble pc 293 then (bif Nat.beq pc 293 then some (.iconst 3, 294, .int 3, []) else none) else (bif Nat.beq pc 294 then some (.invokevirtual 25, 297, .null, [1, 34, 3, 5, 4, 319, 322, 20, 320, 321]) else none))) else (bif Nat.ble pc 297 then (bif Nat.beq pc 297 then some (.if_icmp .gt 19, 300, .null, [316]) else none) else (bif Nat.ble pc 300 then (bif Nat.beq pc 300 then some (.aload_n 0, 301, .null, [0]) else none) else (bif Nat.beq pc 301 then some (.iload_n 1, 302, .null, [1]) else none))))))))) else (bif Nat.ble pc 460 then (bif Nat.ble pc 384 then (bif Nat.ble pc 344 then (bif Nat.ble pc 320 then (bif Nat.ble pc 312 then (bif Nat.ble pc 304 then (bif Nat.ble pc 302 then (bif Nat.beq pc 302 then some (.iload 10, 304, .null, [10]) else none) else (bif Nat.beq pc 304 then some (.invokevirtual 43, 307, .null, [1, 37, 3, 3, 4, 385, 388, 20, 386, 387]) else none)) else (bif Nat.ble pc 307 then (bif Nat.beq pc 307 then some (.iload 8, 309, .null, [8]) else none) else (bif Nat.ble pc 309 then (bif Nat.beq pc 309 then some (.if_icmp .ne 7, 312, .null, [316]) else none) else (bif Nat.beq pc 312 then some (.iconst 1, 313, .int 1, []) else none)))) else (bif Nat.ble pc 316 then (bif Nat.ble pc 313 then (bif Nat.beq pc 313 then some (.goto 4, 316, .null, [317]) else none) else (bif Nat.beq pc 316 then some (.iconst 0, 317, .int 0, []) else none)) else (bif Nat.ble pc 317 then (bif Nat.beq pc 317 then some (.istore 7, 319, .null, [7]) else none) else (bif Nat.ble pc 319 then (bif Nat.beq pc 319 then some (.iconst 0, 320, .int 0, []) else none) else (bif Nat.beq pc 320 then some (.istore 11, 322, .null, [11]) else none))))) else (bif Nat.ble pc 331 then (bif Nat.ble pc 324 then (bif Nat.ble pc 322 then (bif Nat.beq pc 322 then some (.iload 11, 324, .null, [11]) else none) else (bif Nat.beq pc 324 then some (.iload 8, 326, .null, [8]) else none)) else (bif Nat.ble pc 326 then (bif Nat.beq pc 326 then some (.if_icmp .ge 58, 329, .null, [384]) else none) else (bif Nat.ble pc 329 then (bif Nat.beq pc 329 then some (.iload 7, 331, .null, [7]) else none) else (bif Nat.beq pc 331 then some (.ifCond .eq 53, 334, .null, [384]) else none)))) else (bif Nat.ble pc 339 then (bif Nat.ble pc 334 then (bif Nat.beq pc 334 then some (.iload 9, 336, .null, [9]) else none) else (bif Nat.ble pc 336 then (bif Nat.beq pc 336 then some (.ifCond .eq 48, 339, .null, [384]) else none) else (bif Nat.beq pc 339 then some (.iload 6, 341, .null, [6]) else none))) else (bif Nat.ble pc 341 then (bif Nat.beq pc 341 then some (.iload 11, 343, .null, [11]) else none) else (bif Nat.ble pc 343 then (bif Nat.beq pc 343 then some (.ishr, 344, .null, []) else none) else (bif Nat.beq pc 344 then some (.iconst 1, 345, .int 1, []) else none)))))) else (bif Nat.ble pc 360 then (bif Nat.ble pc 352 then (bif Nat.ble pc 346 then (bif Nat.ble pc 345 then (bif Nat.beq pc 345 then some (.iand, 346, .null, []) else none) else (bif Nat.beq pc 346 then some (.ifCond .eq 25, 349, .null, [371]) else none)) else (bif Nat.ble pc 349 then (bif Nat.beq pc 349 then some (.iload 10, 351, .null, [10]) else none) else (bif Nat.ble pc 351 then (bif Nat.beq pc 351 then some (.aload_n 0, 352, .null, [0]) else none) else (bif Nat.beq pc 352 then some (.iload_n 1, 353, .null, [1]) else none)))) else (bif Nat.ble pc 355 then (bif Nat.ble pc 353 then (bif Nat.beq pc 353 then some (.iload 11, 355, .null, [11]) else none) else (bif Nat.beq pc 355 then some (.iconst 1, 356, .int 1, []) else none)) else (bif Nat.ble pc 356 then (bif Nat.beq pc 356 then some (.invokevirtual 40, 359, .null, [1, 36, 4, 5, 4, 379, 382, 20, 380, 381]) else none) else (bif Nat.ble pc 359 then (bif Nat.beq pc 359 then some (.ixor, 360, .null, []) else none) else (bif Nat.beq pc 360 then some (.invokestatic 35, 363, .null, [2, 70, 1, 3, 99, 376, 378, 19, 377]) else none))))) else (bif Nat.ble pc 371 then (bif Nat.ble pc 364 then (bif Nat.ble pc 363 then (bif Nat.beq pc 363 then some (.aload_n 0, 364, .null, [0]) else none) else (bif Nat.beq pc 364 then some (.iconst 0, 365, .int 0, []) else none)) else (bif Nat.ble pc 365 then (bif Nat.beq pc 365 then some (.invokevirtual 46, 368, .null, [1, 39, 2, 2, 4, 394, 397, 20, 395, 396]) else none) else (bif Nat.ble pc 368 then (bif Nat.beq pc 368 then some (.if_icmp .lt 7, 371, .null, [375]) else none) else (bif Nat.beq pc 371 then some (.iconst 1, 372, .int 1, []) else none)))) else (bif Nat.ble pc 376 then (bif Nat.ble pc 372 then (bif Nat.beq pc 372 then some (.goto 4, 375, .null, [376]) else none) else (bif Nat.ble pc 375 then (bif Nat.beq pc 375 then some (.iconst 0, 376, .int 0, []) else none) else (bif Nat.beq pc 376 then some (.istore 7, 378, .null, [7]) else none))) else (bif Nat.ble pc 378 then (bif Nat.beq pc 378 then some (.iinc 11 1, 381, .int 1, [11]) else none) else (bif Nat.ble pc 381 then (bif Nat.beq pc 381 then some (.goto (-59), 384, .null, [322]) else none) else (bif Nat.beq pc 384 then some (.iinc 8 1, 387, .int 1, [8]) else none))))))) else (bif Nat.ble pc 425 then (bif Nat.ble pc 401 then (bif Nat.ble pc 395 then (bif Nat.ble pc 390 then (bif Nat.ble pc 387 then (bif Nat.beq pc 387 then some (.goto (-193), 390, .null, [194]) else none) else (bif Nat.beq pc 390 then some (.iload_n 2, 391, .null, [2]) else none)) else (bif Nat.ble pc 391 then (bif Nat.beq pc 391 then some (.iconst (-1), 392, .int (-1), []) else none) else (bif Nat.ble pc 392 then (bif Nat.beq pc 392 then some (.if_icmp .eq 12, 395, .null, [404]) else none) else (bif Nat.beq pc 395 then some (.iload 6, 397, .null, [6]) else none)))) else (bif Nat.ble pc 398 then (bif Nat.ble pc 397 then (bif Nat.beq pc 397 then some (.iload_n 2, 398, .null, [2]) else none) else (bif Nat.beq pc 398 then some (.ishr, 399, .null, []) else none)) else (bif Nat.ble pc 399 then (bif Nat.beq pc 399 then some (.iconst 1, 400, .int 1, []) else none) else (bif Nat.ble pc 400 then (bif Nat.beq pc 400 then some (.iand, 401, .null, []) else none) else (bif Nat.beq pc 401 then some (.ifCond .ne 7, 404, .null, [408]) else none))))) else (bif Nat.ble pc 411 then (bif Nat.ble pc 405 then (bif Nat.ble pc 404 then (bif Nat.beq pc 404 then some (.iconst 1, 405, .int 1, []) else none) else (bif Nat.beq pc 405 then some (.goto 4, 408, .null, [409]) else none)) else (bif Nat.ble pc 408 then (bif Nat.beq pc 408 then some (.iconst 0, 409, .int 0, []) else none) else (bif Nat.ble pc 409 then (bif Nat.beq pc 409 then some (.istore 8, 411, .null, [8]) else none) else (bif Nat.beq pc 411 then some (.iload 7, 413, .null, [7]) else none)))) else (bif Nat.ble pc 418 then (bif Nat.ble pc 413 then (bif Nat.beq pc 413 then some (.ifCond .eq 81, 416, .null, [494]) else none) else (bif Nat.ble pc 416 then (bif Nat.beq pc 416 then some (.iload 8, 418, .null, [8]) else none) else (bif Nat.beq pc 418 then some (.ifCond .eq 29, 421, .null, [447]) else none))) else (bif Nat.ble pc 421 then (bif Nat.beq pc 421 then some (.iload_n 3, 422, .null, [3]) else none) else (bif Nat.ble pc 422 then (bif Nat.beq pc 422 then some (.ifCond .ne 72, 425, .null, [494]) else none) else (bif Nat.beq pc 425 then some (.aload_n 0, 426, .null, [0]) else none)))))) else (bif Nat.ble pc 441 then (bif Nat.ble pc 432 then (bif Nat.ble pc 427 then (bif Nat.ble pc 426 then (bif Nat.beq pc 426 then some (.iload_n 1, 427, .null, [1]) else none) else (bif Nat.beq pc 427 then some (.iconst 1, 428, .int 1, []) else none)) else (bif Nat.ble pc 428 then (bif Nat.beq pc 428 then some (.invokevirtual 25, 431, .null, [1, 34, 3, 5, 4, 319, 322, 20, 320, 321]) else none) else (bif Nat.ble pc 431 then (bif Nat.beq pc 431 then some (.iconst (-1), 432, .int (-1), []) else none) else (bif Nat.beq pc 432 then some (.if_icmp .ne 62, 435, .null, [494]) else none)))) else (bif Nat.ble pc 436 then (bif Nat.ble pc 435 then (bif Nat.beq pc 435 then some (.aload_n 0, 436, .null, [0]) else none) else (bif Nat.beq pc 436 then some (.iload_n 1, 437, .null, [1]) else none)) else (bif Nat.ble pc 437 then (bif Nat.beq pc 437 then some (.iconst 4, 438, .int 4, []) else none) else (bif Nat.ble pc 438 then (bif Nat.beq pc 438 then some (.invokevirtual 25, 441, .null, [1, 34, 3, 5, 4, 319, 322, 20, 320, 321]) else none) else (bif Nat.beq pc 441 then some (.ifCond .ne 53, 444, .null, [494]) else none))))) else (bif Nat.ble pc 450 then (bif Nat.ble pc 447 then (bif Nat.ble pc 444 then (bif Nat.beq pc 444 then some (.goto 46, 447, .null, [490]) else none) else (bif Nat.beq pc 447 then some (.iload_n 3, 448, .null, [3]) else none)) else (bif Nat.ble pc 448 then (bif Nat.beq pc 448 then some (.aload_n 0, 449, .null, [0]) else none) else (bif Nat.ble pc 449 then (bif Nat.beq pc 449 then some (.iload_n 1, 450, .null, [1]) else none) else (bif Nat.beq pc 450 then some (.iload_n 2, 451, .null, [2]) else none)))) else (bif Nat.ble pc 455 then (bif Nat.ble pc 451 then (bif Nat.beq pc 451 then some (.iconst 1, 452, .int 1, []) else none) else (bif Nat.ble pc 452 then (bif Nat.beq pc 452 then some (.invokevirtual 40, 455, .null, [1, 36, 4, 5, 4, 379, 382, 20, 380, 381]) else none) else (bif Nat.beq pc 455 then some (.if_icmp .ne 39, 458, .null, [494]) else none))) else (bif Nat.ble pc 458 then (bif Nat.beq pc 458 then some (.aload_n 0, 459, .null, [0]) else none) else (bif Nat.ble pc 459 then (bif Nat.beq pc 459 then some (.iload_n 1, 460, .null, [1]) else none) else (bif Nat.beq pc 460 then some (.iconst 1, 461, .int 1, []) else none)))))))) else (bif Nat.ble pc 535 then (bif Nat.ble pc 495 then (bif Nat.ble pc 476 then (bif Nat.ble pc 467 then (bif Nat.ble pc 464 then (bif Nat.ble pc 461 then (bif Nat.beq pc 461 then some (.invokevirtual 25, 464, .null, [1, 34, 3, 5, 4, 319, 322, 20, 320, 321]) else none) else (bif Nat.beq pc 464 then some (.aload_n 0, 465, .null, [0]) else none)) else (bif Nat.ble pc 465 then (bif Nat.beq pc 465 then some (.iload_n 1, 466, .null, [1]) else none) else (bif Nat.ble pc 466 then (bif Nat.beq pc 466 then some (.iload_n 2, 467, .null, [2]) else none) else (bif Nat.beq pc 467 then some (.iconst 0, 468, .int 0, []) else none)))) else (bif Nat.ble pc 471 then (bif Nat.ble pc 468 then (bif Nat.beq pc 468 then some (.invokevirtual 40, 471, .null, [1, 36, 4, 5, 4, 379, 382, 20, 380, 381]) else none) else (bif Nat.beq pc 471 then some (.if_icmp .ne 23, 474, .null, [494]) else none)) else (bif Nat.ble pc 474 then (bif Nat.beq pc 474 then some (.aload_n 0, 475, .null, [0]) else none) else (bif Nat.ble pc 475 then (bif Nat.beq pc 475 then some (.iload_n 1, 476, .null, [1]) else none) else (bif Nat.beq pc 476 then some (.iconst 4, 477, .int 4, []) else none))))) else (bif Nat.ble pc 483 then (bif Nat.ble pc 480 then (bif Nat.ble pc 477 then (bif Nat.beq pc 477 then some (.invokevirtual 25, 480, .null, [1, 34, 3, 5, 4, 319, 322, 20, 320, 321]) else none) else (bif Nat.beq pc 480 then some (.aload_n 0, 481, .null, [0]) else none)) else (bif Nat.ble pc 481 then (bif Nat.beq pc 481 then some (.iload_n 1, 482, .null, [1]) else none) else (bif Nat.ble pc 482 then (bif Nat.beq pc 482 then some (.iload_n 2, 483, .null, [2]) else none) else (bif Nat.beq pc 483 then some (.iconst 2, 484, .int 2, []) else none)))) else (bif Nat.ble pc 490 then (bif Nat.ble pc 484 then (bif Nat.beq pc 484 then some (.invokevirtual 40, 487, .null, [1, 36, 4, 5, 4, 379, 382, 20, 380, 381]) else none) else (bif Nat.ble pc 487 then (bif Nat.beq pc 487 then some (.if_icmp .ne 7, 490, .null, [494]) else none) else (bif Nat.beq pc 490 then some (.iconst 1, 491, .int 1, []) else none))) else (bif Nat.ble pc 491 then (bif Nat.beq pc 491 then some (.goto 4, 494, .null, [495]) else none) else (bif Nat.ble pc 494 then (bif Nat.beq pc 494 then some (.iconst 0, 495, .int 0, []) else none) else (bif Nat.beq pc 495 then some (.istore 7, 497, .null, [7]) else none)))))) else (bif Nat.ble pc 514 then (bif Nat.ble pc 504 then (bif Nat.ble pc 499 then (bif Nat.ble pc 497 then (bif Nat.beq pc 497 then some (.iload 7, 499, .null, [7]) else none) else (bif Nat.beq pc 499 then some (.ifCond .eq 119, 502, .null, [618]) else none)) else (bif Nat.ble pc 502 then (bif Nat.beq pc 502 then some (.aload_n 0, 503, .null, [0]) else none) else (bif Nat.ble pc 503 then (bif Nat.beq pc 503 then some (.iload_n 1, 504, .null, [1]) else none) else (bif Nat.beq pc 504 then some (.bipush 6, 506, .int 6, []) else none)))) else (bif Nat.ble pc 509 then (bif Nat.ble pc 506 then (bif Nat.beq pc 506 then some (.invokevirtual 25, 509, .null, [1, 34, 3, 5, 4, 319, 322, 20, 320, 321]) else none) else (bif Nat.beq pc 509 then some (.iconst (-1), 510, .int (-1), []) else none)) else (bif Nat.ble pc 510 then (bif Nat.beq pc 510 then some (.if_icmp .eq 18, 513, .null, [528]) else none) else (bif Nat.ble pc 513 then (bif Nat.beq pc 513 then some (.aload_n 0, 514, .null, [0]) else none) else (bif Nat.beq pc 514 then some (.iload_n 1, 515, .null, [1]) else none))))) else (bif Nat.ble pc 522 then (bif Nat.ble pc 517 then (bif Nat.ble pc 515 then (bif Nat.beq pc 515 then some (.bipush 6, 517, .int 6, []) else none) else (bif Nat.beq pc 517 then some (.invokevirtual 25, 520, .null, [1, 34, 3, 5, 4, 319, 322, 20, 320, 321]) else none)) else (bif Nat.ble pc 520 then (bif Nat.beq pc 520 then some (.aload_n 0, 521, .null, [0]) else none) else (bif Nat.ble pc 521 then (bif Nat.beq pc 521 then some (.iconst 0, 522, .int 0, []) else none) else (bif Nat.beq pc 522 then some (.invokevirtual 46, 525, .null, [1, 39, 2, 2, 4, 394, 397, 20, 395, 396]) else none)))) else (bif Nat.ble pc 530 then (bif Nat.ble pc 525 then (bif Nat.beq pc 525 then some (.if_icmp .lt 93, 528, .null, [618]) else none) else (bif Nat.ble pc 528 then (bif Nat.beq pc 528 then some (.iload 4, 530, .null, [4]) else none) else (bif Nat.beq pc 530 then some (.ifCond .gt 20, 533, .null, [550]) else none))) else (bif Nat.ble pc 533 then (bif Nat.beq pc 533 then some (.aload_n 0, 534, .null, [0]) else none) else (bif Nat.ble pc 534 then (bif Nat.beq pc 534 then some (.iconst 0, 535, .int 0, []) else none) else (bif Nat.beq pc 535 then some (.invokevirtual 46, 538, .null, [1, 39, 2, 2, 4, 394, 397, 20, 395, 396]) else none))))))) else (bif Nat.ble pc 577 then (bif Nat.ble pc 556 then (bif Nat.ble pc 547 then (bif Nat.ble pc 539 then (bif Nat.ble pc 538 then (bif Nat.beq pc 538 then some (.iconst 2, 539, .int 2, []) else none) else (bif Nat.beq pc 539 then some (.if_icmp .gt 11, 542, .null, [550]) else none)) else (bif Nat.ble pc 542 then (bif Nat.beq pc 542 then some (.iload 6, 544, .null, [6]) else none) else (bif Nat.ble pc 544 then (bif Nat.beq pc 544 then some (.sipush 1023, 547, .int 1023, []) else none) else (bif Nat.beq pc 547 then some (.if_icmp .ne 71, 550, .null, [618]) else none)))) else (bif Nat.ble pc 551 then (bif Nat.ble pc 550 then (bif Nat.beq pc 550 then some (.aload_n 0, 551, .null, [0]) else none) else (bif Nat.beq pc 551 then some (.iload_n 1, 552, .null, [1]) else none)) else (bif Nat.ble pc 552 then (bif Nat.beq pc 552 then some (.invokevirtual 49, 555, .null, [1, 41, 2, 3, 4, 402, 405, 20, 403, 404]) else none) else (bif Nat.ble pc 555 then (bif Nat.beq pc 555 then some (.aload_n 0, 556, .null, [0]) else none) else (bif Nat.beq pc 556 then some (.iconst 0, 557, .int 0, []) else none))))) else (bif Nat.ble pc 565 then (bif Nat.ble pc 560 then (bif Nat.ble pc 557 then (bif Nat.beq pc 557 then some (.invokevirtual 46, 560, .null, [1, 39, 2, 2, 4, 394, 397, 20, 395, 396]) else none) else (bif Nat.beq pc 560 then some (.if_icmp .lt 25, 563, .null, [585]) else none)) else (bif Nat.ble pc 563 then (bif Nat.beq pc 563 then some (.aload_n 0, 564, .null, [0]) else none) else (bif Nat.ble pc 564 then (bif Nat.beq pc 564 then some (.iload_n 1, 565, .null, [1]) else none) else (bif Nat.beq pc 565 then some (.invokevirtual 49, 568, .null, [1, 41, 2, 3, 4, 402, 405, 20, 403, 404]) else none)))) else (bif Nat.ble pc 572 then (bif Nat.ble pc 568 then (bif Nat.beq pc 568 then some (.iconst 5, 569, .int 5, []) else none) else (bif Nat.ble pc 569 then (bif Nat.beq pc 569 then some (.if_icmp .eq 16, 572, .null, [585]) else none) else (bif Nat.beq pc 572 then some (.aload_n 0, 573, .null, [0]) else none))) else (bif Nat.ble pc 573 then (bif Nat.beq pc 573 then some (.iload_n 1, 574, .null, [1]) else none) else (bif Nat.ble pc 574 then (bif Nat.beq pc 574 then some (.invokevirtual 49, 577, .null, [1, 41, 2, 3, 4, 402, 405, 20, 403, 404]) else none) else (bif Nat.beq pc 577 then some (.aload_n 0, 578, .null, [0]) else none)))))) else (bif Nat.ble pc 597 then (bif Nat.ble pc 586 then (bif Nat.ble pc 579 then (bif Nat.ble pc 578 then (bif Nat.beq pc 578 then some (.iconst 0, 579, .int 0, []) else none) else (bif Nat.beq pc 579 then some (.invokevirtual 46, 582, .null, [1, 39, 2, 2, 4, 394, 397, 20, 395, 396]) else none)) else (bif Nat.ble pc 582 then (bif Nat.beq pc 582 then some (.if_icmp .lt 36, 585, .null, [618]) else none) else (bif Nat.ble pc 585 then (bif Nat.beq pc 585 then some (.aload_n 0, 586, .null, [0]) else none) else (bif Nat.beq pc 586 then some (.iload_n 1, 587, .null, [1]) else none)))) else (bif Nat.ble pc 590 then (bif Nat.ble pc 587 then (bif Nat.beq pc 587 then some (.invokevirtual 52, 590, .null, [1, 40, 2, 8, 4, 411, 414, 20, 412, 413]) else none) else (bif Nat.beq pc 590 then some (.ifCond .lt 7, 593, .null, [597]) else none)) else (bif Nat.ble pc 593 then (bif Nat.beq pc 593 then some (.iconst 1, 594, .int 1, []) else none) else (bif Nat.ble pc 594 then (bif Nat.beq pc 594 then some (.goto 4, 597, .null, [598]) else none) else (bif Nat.beq pc 597 then some (.iconst 0, 598, .int 0, []) else none))))) else (bif Nat.ble pc 607 then (bif Nat.ble pc 600 then (bif Nat.ble pc 598 then (bif Nat.beq pc 598 then some (.iload 4, 600, .null, [4]) else none) else (bif Nat.beq pc 600 then some (.sipush 32767, 603, .int 32767, []) else none)) else (bif Nat.ble pc 603 then (bif Nat.beq pc 603 then some (.if_icmp .ge 7, 606, .null, [610]) else none) else (bif Nat.ble pc 606 then (bif Nat.beq pc 606 then some (.iconst 1, 607, .int 1, []) else none) else (bif Nat.beq pc 607 then some (.goto 4, 610, .null, [611]) else none)))) else (bif Nat.ble pc 614 then (bif Nat.ble pc 610 then (bif Nat.beq pc 610 then some (.iconst 0, 611, .int 0, []) else none) else (bif Nat.ble pc 611 then (bif Nat.beq pc 611 then some (.if_icmp .ne 7, 614, .null, [618]) else none) else (bif Nat.beq pc 614 then some (.iconst 1, 615, .int 1, []) else none))) else (bif Nat.ble pc 615 then (bif Nat.beq pc 615 then some (.goto 4, 618, .null, [619]) else none) else (bif Nat.ble pc 618 then (bif Nat.beq pc 618 then some (.iconst 0, 619, .int 0, []) else none) else (bif Nat.beq pc 619 then some (.ireturn, 620, .null, [1]) else none))))))))))
def mm_k75 : Nat → Option mm_En := fun pc => (bif Nat.ble pc 121 then (bif Nat.ble pc 55 then (bif Nat.ble pc 24 then (bif Nat.ble pc 9 then (bif Nat.ble pc 3 then (bif Nat.ble pc 1 then (bif Nat.ble pc 0 then (bif Nat.beq pc 0 then some (.iconst 0, 1, .int 0, []) else none) else (bif Nat.beq pc 1 then some (.istore_n 1, 2, .null, [1]) else none)) else (bif Nat.ble pc 2 then (bif Nat.beq pc 2 then some (.iconst 0, 3, .int 0, []) else none) else (bif Nat.beq pc 3 then some (.istore_n 2, 4, .null, [2]) else none))) else (bif Nat.ble pc 5 then (bif Nat.ble pc 4 then (bif Nat.beq pc 4 then some (.iconst 0, 5, .int 0, []) else none) else (bif Nat.beq pc 5 then some (.istore_n 3, 6, .null, [3]) else none)) else (bif Nat.ble pc 6 then (bif Nat.beq pc 6 then some (.iconst 0, 7, .int 0, []) else none) else (bif Nat.ble pc 7 then (bif Nat.beq pc 7 then some (.istore 4, 9, .null, [4]) else none) else (bif Nat.beq pc 9 then some (.iconst 0, 10, .int 0, []) else none))))) else (bif Nat.ble pc 15 then (bif Nat.ble pc 12 then (bif Nat.ble pc 10 then (bif Nat.beq pc 10 then some (.istore 5, 12, .null, [5]) else none) else (bif Nat.beq pc 12 then some (.iconst 1, 13, .int 1, []) else none)) else (bif Nat.ble pc 13 then (bif Nat.beq pc 13 then some (.istore 6, 15, .null, [6]) else none) else (bif Nat.beq pc 15 then some (.iconst 0, 16, .int 0, []) else none))) else (bif Nat.ble pc 18 then (bif Nat.ble pc 16 then (bif Nat.beq pc 16 then some (.istore 7, 18, .null, [7]) else none) else (bif Nat.beq pc 18 then some (.iload 7, 20, .null, [7]) else none)) else (bif Nat.ble pc 20 then (bif Nat.beq pc 20 then some (.iconst 4, 21, .int 4, []) else none) else (bif Nat.ble pc 21 then (bif Nat.beq pc 21 then some (.if_icmp .ge 109, 24, .null, [130]) else none) else (bif Nat.beq pc 24 then some (.iload 6, 26, .null, [6]) else none)))))) else (bif Nat.ble pc 41 then (bif Nat.ble pc 32 then (bif Nat.ble pc 29 then (bif Nat.ble pc 26 then (bif Nat.beq pc 26 then some (.ifCond .eq 104, 29, .null, [130]) else none) else (bif Nat.beq pc 29 then some (.aload_n 0, 30, .null, [0]) else none)) else (bif Nat.ble pc 30 then (bif Nat.beq pc 30 then some (.iload 7, 32, .null, [7]) else none) else (bif Nat.beq pc 32 then some (.invokestatic 55, 35, .null, [2, 74, 2, 12, 99, 316, 318, 19, 317]) else none))) else (bif Nat.ble pc 37 then (bif Nat.ble pc 35 then (bif Nat.beq pc 35 then some (.istore 6, 37, .null, [6]) else none) else (bif Nat.beq pc 37 then some (.iload_n 1, 38, .null, [1]) else none)) else (bif Nat.ble pc 38 then (bif Nat.beq pc 38 then some (.aload_n 0, 39, .null, [0]) else none) else (bif Nat.ble pc 39 then (bif Nat.beq pc 39 then some (.iload 7, 41, .null, [7]) else none) else (bif Nat.beq pc 41 then some (.iconst 3, 42, .int 3, []) else none))))) else (bif Nat.ble pc 47 then (bif Nat.ble pc 45 then (bif Nat.ble pc 42 then (bif Nat.beq pc 42 then some (.invokevirtual 25, 45, .null, [1, 34, 3, 5, 4, 319, 322, 20, 320, 321]) else none) else (bif Nat.beq pc 45 then some (.iadd, 46, .null, []) else none)) else (bif Nat.ble pc 46 then (bif Nat.beq pc 46 then some (.istore_n 1, 47, .null, [1]) else none) else (bif Nat.beq pc 47 then some (.iload_n 2, 48, .null, [2]) else none))) else (bif Nat.ble pc 49 then (bif Nat.ble pc 48 then (bif Nat.beq pc 48 then some (.aload_n 0, 49, .null, [0]) else none) else (bif Nat.beq pc 49 then some (.iload 7, 51, .null, [7]) else none)) else (bif Nat.ble pc 51 then (bif Nat.beq pc 51 then some (.iconst 0, 52, .int 0, []) else none) else (bif Nat.ble pc 52 then (bif Nat.beq pc 52 then some (.invokevirtual 25, 55, .null, [1, 34, 3, 5, 4, 319, 322, 20, 320, 321]) else none) else (bif Nat.beq pc 55 then some (.ifCond .lt 7, 58, .null, [62]) else none))))))) else (bif Nat.ble pc 87 then (bif Nat.ble pc 69 then (bif Nat.ble pc 63 then (bif Nat.ble pc 59 then (bif Nat.ble pc 58 then (bif Nat.beq pc 58 then some (.iconst 1, 59, .int 1, []) else none) else (bif Nat.beq pc 59 then some (.goto 4, 62, .null, [63]) else none)) else (bif Nat.ble pc 62 then (bif Nat.beq pc 62 then some (.iconst 0, 63, .int 0, []) else none) else (bif Nat.beq pc 63 then some (.iadd, 64, .null, []) else none))) else (bif Nat.ble pc 65 then (bif Nat.ble pc 64 then (bif Nat.beq pc 64 then some (.istore_n 2, 65, .null, [2]) else none) else (bif Nat.beq pc 65 then some (.iload_n 3, 66, .null, [3]) else none)) else (bif Nat.ble pc 66 then (bif Nat.beq pc 66 then some (.aload_n 0, 67, .null, [0]) else none) else (bif Nat.ble pc 67 then (bif Nat.beq pc 67 then some (.iload 7, 69, .null, [7]) else none) else (bif Nat.beq pc 69 then some (.iconst 0, 70, .int 0, []) else none))))) else (bif Nat.ble pc 77 then (bif Nat.ble pc 73 then (bif Nat.ble pc 70 then (bif Nat.beq pc 70 then some (.invokevirtual 25, 73, .null, [1, 34, 3, 5, 4, 319, 322, 20, 320, 321]) else none) else (bif Nat.beq pc 73 then some (.ifCond .lt 18, 76, .null, [91]) else none)) else (bif Nat.ble pc 76 then (bif Nat.beq pc 76 then some (.aload_n 0, 77, .null, [0]) else none) else (bif Nat.beq pc 77 then some (.iload 7, 79, .null, [7]) else none))) else (bif Nat.ble pc 80 then (bif Nat.ble pc 79 then (bif Nat.beq pc 79 then some (.iconst 1, 80, .int 1, []) else none) else (bif Nat.beq pc 80 then some (.invokevirtual 25, 83, .null, [1, 34, 3, 5, 4, 319, 322, 20, 320, 321]) else none)) else (bif Nat.ble pc 83 then (bif Nat.beq pc 83 then some (.iconst (-1), 84, .int (-1), []) else none) else (bif Nat.ble pc 84 then (bif Nat.beq pc 84 then some (.if_icmp .ne 7, 87, .null, [91]) else none) else (bif Nat.beq pc 87 then some (.iconst 1, 88, .int 1, []) else none)))))) else (bif Nat.ble pc 100 then (bif Nat.ble pc 93 then (bif Nat.ble pc 91 then (bif Nat.ble pc 88 then (bif Nat.beq pc 88 then some (.goto 4, 91, .null, [92]) else none) else (bif Nat.beq pc 91 then some (.iconst 0, 92, .int 0, []) else none)) else (bif Nat.ble pc 92 then (bif Nat.beq pc 92 then some (.iadd, 93, .null, []) else none) else (bif Nat.beq pc 93 then some (.istore_n 3, 94, .null, [3]) else none))) else (bif Nat.ble pc 96 then (bif Nat.ble pc 94 then (bif Nat.beq pc 94 then some (.iload 4, 96, .null, [4]) else none) else (bif Nat.beq pc 96 then some (.aload_n 0, 97, .null, [0]) else none)) else (bif Nat.ble pc 97 then (bif Nat.beq pc 97 then some (.iload 7, 99, .null, [7]) else none) else (bif Nat.ble pc 99 then (bif Nat.beq pc 99 then some (.iconst 2, 100, .int 2, []) else none) else (bif Nat.beq pc 100 then some (.invokevirtual 25, 103, .null, [1, 34, 3, 5, 4, 319, 322, 20, 320, 321]) else none))))) else (bif Nat.ble pc 111 then (bif Nat.ble pc 106 then (bif Nat.ble pc 103 then (bif Nat.beq pc 103 then some (.invokestatic 35, 106, .null, [2, 70, 1, 3, 99, 376, 378, 19, 377]) else none) else (bif Nat.beq pc 106 then some (.iadd, 107, .null, []) else none)) else (bif Nat.ble pc 107 then (bif Nat.beq pc 107 then some (.istore 4, 109, .null, [4]) else none) else (bif Nat.ble pc 109 then (bif Nat.beq pc 109 then some (.iload 5, 111, .null, [5]) else none) else (bif Nat.beq pc 111 then some (.aload_n 0, 112, .null, [0]) else none)))) else (bif Nat.ble pc 114 then (bif Nat.ble pc 112 then (bif Nat.beq pc 112 then some (.iload 7, 114, .null, [7]) else none) else (bif Nat.beq pc 114 then some (.iconst 5, 115, .int 5, []) else none)) else (bif Nat.ble pc 115 then (bif Nat.beq pc 115 then some (.invokevirtual 25, 118, .null, [1, 34, 3, 5, 4, 319, 322, 20, 320, 321]) else none) else (bif Nat.ble pc 118 then (bif Nat.beq pc 118 then some (.invokestatic 35, 121, .null, [2, 70, 1, 3, 99, 376, 378, 19, 377]) else none) else (bif Nat.beq pc 121 then some (.iadd, 122, .null, []) else none)))))))) else (bif Nat.ble pc 192 then (bif Nat.ble pc 155 then (bif Nat.ble pc 138 then (bif Nat.ble pc 130 then (bif Nat.ble pc 124 then (bif Nat.ble pc 122 then (bif Nat.beq pc 122 then some (.istore 5, 124, .null, [5]) else none) else (bif Nat.beq pc 124 then some (.iinc 7 1, 127, .int 1, [7]) else none)) else (bif Nat.ble pc 127 then (bif Nat.beq pc 127 then some (.goto (-109), 130, .null, [18]) else none) else (bif Nat.beq pc 130 then some (.iload 6, 132, .null, [6]) else none))) else (bif Nat.ble pc 135 then (bif Nat.ble pc 132 then (bif Nat.beq pc 132 then some (.ifCond .eq 59, 135, .null, [191]) else none) else (bif Nat.beq pc 135 then some (.iload_n 1, 136, .null, [1]) else none)) else (bif Nat.ble pc 136 then (bif Nat.beq pc 136 then some (.aload_n 0, 137, .null, [0]) else none) else (bif Nat.ble pc 137 then (bif Nat.beq pc 137 then some (.iconst 1, 138, .int 1, []) else none) else (bif Nat.beq pc 138 then some (.invokevirtual 32, 141, .null, [1, 38, 2, 2, 4, 170, 173, 20, 171, 172]) else none))))) else (bif Nat.ble pc 146 then (bif Nat.ble pc 144 then (bif Nat.ble pc 141 then (bif Nat.beq pc 141 then some (.if_icmp .ne 50, 144, .null, [191]) else none) else (bif Nat.beq pc 144 then some (.iload_n 2, 145, .null, [2]) else none)) else (bif Nat.ble pc 145 then (bif Nat.beq pc 145 then some (.aload_n 0, 146, .null, [0]) else none) else (bif Nat.beq pc 146 then some (.iconst 2, 147, .int 2, []) else none))) else (bif Nat.ble pc 150 then (bif Nat.ble pc 147 then (bif Nat.beq pc 147 then some (.invokevirtual 32, 150, .null, [1, 38, 2, 2, 4, 170, 173, 20, 171, 172]) else none) else (bif Nat.beq pc 150 then some (.if_icmp .ne 41, 153, .null, [191]) else none)) else (bif Nat.ble pc 153 then (bif Nat.beq pc 153 then some (.iload_n 3, 154, .null, [3]) else none) else (bif Nat.ble pc 154 then (bif Nat.beq pc 154 then some (.aload_n 0, 155, .null, [0]) else none) else (bif Nat.beq pc 155 then some (.iconst 3, 156, .int 3, []) else none)))))) else (bif Nat.ble pc 173 then (bif Nat.ble pc 164 then (bif Nat.ble pc 159 then (bif Nat.ble pc 156 then (bif Nat.beq pc 156 then some (.invokevirtual 32, 159, .null, [1, 38, 2, 2, 4, 170, 173, 20, 171, 172]) else none) else (bif Nat.beq pc 159 then some (.if_icmp .ne 32, 162, .null, [191]) else none)) else (bif Nat.ble pc 162 then (bif Nat.beq pc 162 then some (.iload 4, 164, .null, [4]) else none) else (bif Nat.beq pc 164 then some (.aload_n 0, 165, .null, [0]) else none))) else (bif Nat.ble pc 166 then (bif Nat.ble pc 165 then (bif Nat.beq pc 165 then some (.iconst 4, 166, .int 4, []) else none) else (bif Nat.beq pc 166 then some (.invokevirtual 32, 169, .null, [1, 38, 2, 2, 4, 170, 173, 20, 171, 172]) else none)) else (bif Nat.ble pc 169 then (bif Nat.beq pc 169 then some (.if_icmp .ne 22, 172, .null, [191]) else none) else (bif Nat.ble pc 172 then (bif Nat.beq pc 172 then some (.aload_n 0, 173, .null, [0]) else none) else (bif Nat.beq pc 173 then some (.invokevirtual 58, 176, .null, [1, 43, 1, 3, 4, 423, 426, 20, 424, 425]) else none))))) else (bif Nat.ble pc 183 then (bif Nat.ble pc 178 then (bif Nat.ble pc 176 then (bif Nat.beq pc 176 then some (.iload 5, 178, .null, [5]) else none) else (bif Nat.beq pc 178 then some (.i2d, 179, .null, []) else none)) else (bif Nat.ble pc 179 then (bif Nat.beq pc 179 then some (.ldc2_w 62, 182, .double 4630826316843712512, [428]) else none) else (bif Nat.ble pc 182 then (bif Nat.beq pc 182 then some (.ddiv, 183, .null, []) else none) else (bif Nat.beq pc 183 then some (.dcmp .l, 184, .null, []) else none)))) else (bif Nat.ble pc 187 then (bif Nat.ble pc 184 then (bif Nat.beq pc 184 then some (.ifCond .ne 7, 187, .null, [191]) else none) else (bif Nat.beq pc 187 then some (.iconst 1, 188, .int 1, []) else none)) else (bif Nat.ble pc 188 then (bif Nat.beq pc 188 then some (.goto 4, 191, .null, [192]) else none) else (bif Nat.ble pc 191 then (bif Nat.beq pc 191 then some (.iconst 0, 192, .int 0, []) else none) else (bif Nat.beq pc 192 then some (.istore 6, 194, .null, [6]) else none))))))) else (bif Nat.ble pc 229 then (bif Nat.ble pc 210 then (bif Nat.ble pc 200 then (bif Nat.ble pc 196 then (bif Nat.ble pc 194 then (bif Nat.beq pc 194 then some (.iload 6, 196, .null, [6]) else none) else (bif Nat.beq pc 196 then some (.ifCond .eq 70, 199, .null, [266]) else none)) else (bif Nat.ble pc 199 then (bif Nat.beq pc 199 then some (.aload_n 0, 200, .null, [0]) else none) else (bif Nat.beq pc 200 then some (.bipush 6, 202, .int 6, []) else none))) else (bif Nat.ble pc 205 then (bif Nat.ble pc 202 then (bif Nat.beq pc 202 then some (.invokevirtual 32, 205, .null, [1, 38, 2, 2, 4, 170, 173, 20, 171, 172]) else none) else (bif Nat.beq pc 205 then some (.iconst (-1), 206, .int (-1), []) else none)) else (bif Nat.ble pc 206 then (bif Nat.beq pc 206 then some (.if_icmp .eq 11, 209, .null, [217]) else none) else (bif Nat.ble pc 209 then (bif Nat.beq pc 209 then some (.iload_n 3, 210, .null, [3]) else none) else (bif Nat.beq pc 210 then some (.ifCond .ne 56, 213, .null, [266]) else none))))) else (bif Nat.ble pc 218 then (bif Nat.ble pc 214 then (bif Nat.ble pc 213 then (bif Nat.beq pc 213 then some (.iload_n 2, 214, .null, [2]) else none) else (bif Nat.beq pc 214 then some (.ifCond .le 52, 217, .null, [266]) else none)) else (bif Nat.ble pc 217 then (bif Nat.beq pc 217 then some (.aload_n 0, 218, .null, [0]) else none) else (bif Nat.beq pc 218 then some (.iconst 1, 219, .int 1, []) else none))) else (bif Nat.ble pc 222 then (bif Nat.ble pc 219 then (bif Nat.beq pc 219 then some (.invokevirtual 46, 222, .null, [1, 39, 2, 2, 4, 394, 397, 20, 395, 396]) else none) else (bif Nat.beq pc 222 then some (.ifCond .gt 11, 225, .null, [233]) else none)) else (bif Nat.ble pc 225 then (bif Nat.beq pc 225 then some (.aload_n 0, 226, .null, [0]) else none) else (bif Nat.ble pc 226 then (bif Nat.beq pc 226 then some (.invokevirtual 64, 229, .null, [1, 42, 1, 5, 4, 283, 286, 20, 284, 285]) else none) else (bif Nat.beq pc 229 then some (.iconst (-1), 230, .int (-1), []) else none)))))) else (bif Nat.ble pc 247 then (bif Nat.ble pc 238 then (bif Nat.ble pc 233 then (bif Nat.ble pc 230 then (bif Nat.beq pc 230 then some (.if_icmp .ne 36, 233, .null, [266]) else none) else (bif Nat.beq pc 233 then some (.iload 4, 235, .null, [4]) else none)) else (bif Nat.ble pc 235 then (bif Nat.beq pc 235 then some (.ifCond .gt 27, 238, .null, [262]) else none) else (bif Nat.beq pc 238 then some (.aload_n 0, 239, .null, [0]) else none))) else (bif Nat.ble pc 240 then (bif Nat.ble pc 239 then (bif Nat.beq pc 239 then some (.iconst 1, 240, .int 1, []) else none) else (bif Nat.beq pc 240 then some (.invokevirtual 46, 243, .null, [1, 39, 2, 2, 4, 394, 397, 20, 395, 396]) else none)) else (bif Nat.ble pc 243 then (bif Nat.beq pc 243 then some (.ifCond .eq 19, 246, .null, [262]) else none) else (bif Nat.ble pc 246 then (bif Nat.beq pc 246 then some (.aload_n 0, 247, .null, [0]) else none) else (bif Nat.beq pc 247 then some (.invokevirtual 64, 250, .null, [1, 42, 1, 5, 4, 283, 286, 20, 284, 285]) else none))))) else (bif Nat.ble pc 258 then (bif Nat.ble pc 251 then (bif Nat.ble pc 250 then (bif Nat.beq pc 250 then some (.iconst (-1), 251, .int (-1), []) else none) else (bif Nat.beq pc 251 then some (.if_icmp .eq 11, 254, .null, [262]) else none)) else (bif Nat.ble pc 254 then (bif Nat.beq pc 254 then some (.aload_n 0, 255, .null, [0]) else none) else (bif Nat.ble pc 255 then (bif Nat.beq pc 255 then some (.invokevirtual 64, 258, .null, [1, 42, 1, 5, 4, 283, 286, 20, 284, 285]) else none) else (bif Nat.beq pc 258 then some (.iconst 1, 259, .int 1, []) else none)))) else (bif Nat.ble pc 262 then (bif Nat.ble pc 259 then (bif Nat.beq pc 259 then some (.if_icmp .ne 7, 262, .null, [266]) else none) else (bif Nat.beq pc 262 then some (.iconst 1, 263, .int 1, []) else none)) else (bif Nat.ble pc 263 then (bif Nat.beq pc 263 then some (.goto 4, 266, .null, [267]) else none) else (bif Nat.ble pc 266 then (bif Nat.beq pc 266 then some (.iconst 0, 267, .int 0, []) else none) else (bif Nat.beq pc 267 then some (.ireturn, 268, .null, [1]) else none)))))))))
def mm_k76 : Nat → Option mm_En := fun pc => (bif Nat.ble pc 153 then (bif Nat.ble pc 104 then (bif Nat.ble pc 15 then (bif Nat.ble pc 7 then (bif Nat.ble pc 2 then (bif Nat.ble pc 0 then (bif Nat.beq pc 0 then some (.aload_n 1, 1, .null, [1]) else none) else (bif Nat.ble pc 1 then (bif Nat.beq pc 1 then some (.iload_n 2, 2, .null, [2]) else none) else (bif Nat.beq pc 2 then some (.iconst 1, 3, .int 1, []) else none))) else (bif Nat.ble pc 3 then (bif Nat.beq pc 3 then some (.iadd, 4, .null, []) else none) else (bif Nat.ble pc 4 then (bif Nat.beq pc 4 then some (.invokestatic 67, 7, .null, [2, 69, 2, 2, 99, 309, 311, 19, 310]) else none) else (bif Nat.beq pc 7 then some (.istore_n 3, 8, .null, [3]) else none)))) else (bif Nat.ble pc 10 then (bif Nat.ble pc 8 then (bif Nat.beq pc 8 then some (.aload_n 1, 9, .null, [1]) else none) else (bif Nat.ble pc 9 then (bif Nat.beq pc 9 then some (.iload_n 2, 10, .null, [2]) else none) else (bif Nat.beq pc 10 then some (.iconst 2, 11, .int 2, []) else none))) else (bif Nat.ble pc 11 then (bif Nat.beq pc 11 then some (.iadd, 12, .null, []) else none) else (bif Nat.ble pc 12 then (bif Nat.beq pc 12 then some (.invokestatic 67, 15, .null, [2, 69, 2, 2, 99, 309, 311, 19, 310]) else none) else (bif Nat.beq pc 15 then some (.istore 4, 17, .null, [4]) else none))))) else (bif Nat.ble pc 27 then (bif Nat.ble pc 19 then (bif Nat.ble pc 17 then (bif Nat.beq pc 17 then some (.aload_n 1, 18, .null, [1]) else none) else (bif Nat.ble pc 18 then (bif Nat.beq pc 18 then some (.iload_n 2, 19, .null, [2]) else none) else (bif Nat.beq pc 19 then some (.invokestatic 67, 22, .null, [2, 69, 2, 2, 99, 309, 311, 19, 310]) else none))) else (bif Nat.ble pc 22 then (bif Nat.beq pc 22 then some (.bipush 16, 24, .int 16, []) else none) else (bif Nat.ble pc 24 then (bif Nat.beq pc 24 then some (.invokestatic 71, 27, .null, [2, 68, 2, 2, 99, 305, 307, 19, 306]) else none) else (bif Nat.beq pc 27 then some (.tableswitch 201 0 13 #[69, 69, 69, 69, 69, 87, 87, 105, 128, 128, 158, 170, 184, 196], 96, .null, [228, 96, 96, 96, 96, 96, 114, 114, 132, 155, 155, 185, 197, 211, 223]) else none)))) else (bif Nat.ble pc 98 then (bif Nat.ble pc 96 then (bif Nat.beq pc 96 then some (.aload_n 0, 97, .null, [0]) else none) else (bif Nat.ble pc 97 then (bif Nat.beq pc 97 then some (.iload_n 3, 98, .null, [3]) else none) else (bif Nat.beq pc 98 then some (.iconst 4, 99, .int 4, []) else none))) else (bif Nat.ble pc 99 then (bif Nat.beq pc 99 then some (.invokestatic 71, 102, .null, [2, 68, 2, 2, 99, 305, 307, 19, 306]) else none) else (bif Nat.ble pc 102 then (bif Nat.beq pc 102 then some (.iload 4, 104, .null, [4]) else none) else (bif Nat.beq pc 104 then some (.bipush 15, 106, .int 15, []) else none)))))) else (bif Nat.ble pc 127 then (bif Nat.ble pc 115 then (bif Nat.ble pc 110 then (bif Nat.ble pc 106 then (bif Nat.beq pc 106 then some (.invokestatic 71, 109, .null, [2, 68, 2, 2, 99, 305, 307, 19, 306]) else none) else (bif Nat.ble pc 109 then (bif Nat.beq pc 109 then some (.iconst 1, 110, .int 1, []) else none) else (bif Nat.beq pc 110 then some (.invokevirtual 74, 113, .null, [1, 29, 4, 5, 4, 432, 435, 20, 433, 434]) else none))) else (bif Nat.ble pc 113 then (bif Nat.beq pc 113 then some (.ireturn, 114, .null, [0]) else none) else (bif Nat.ble pc 114 then (bif Nat.beq pc 114 then some (.aload_n 0, 115, .null, [0]) else none) else (bif Nat.beq pc 115 then some (.iload_n 3, 116, .null, [3]) else none)))) else (bif Nat.ble pc 120 then (bif Nat.ble pc 116 then (bif Nat.beq pc 116 then some (.iconst 4, 117, .int 4, []) else none) else (bif Nat.ble pc 117 then (bif Nat.beq pc 117 then some (.invokestatic 71, 120, .null, [2, 68, 2, 2, 99, 305, 307, 19, 306]) else none) else (bif Nat.beq pc 120 then some (.iload 4, 122, .null, [4]) else none))) else (bif Nat.ble pc 122 then (bif Nat.beq pc 122 then some (.bipush 15, 124, .int 15, []) else none) else (bif Nat.ble pc 124 then (bif Nat.beq pc 124 then some (.invokestatic 71, 127, .null, [2, 68, 2, 2, 99, 305, 307, 19, 306]) else none) else (bif Nat.beq pc 127 then some (.iconst 0, 128, .int 0, []) else none))))) else (bif Nat.ble pc 138 then (bif Nat.ble pc 132 then (bif Nat.ble pc 128 then (bif Nat.beq pc 128 then some (.invokevirtual 74, 131, .null, [1, 29, 4, 5, 4, 432, 435, 20, 433, 434]) else none) else (bif Nat.ble pc 131 then (bif Nat.beq pc 131 then some (.ireturn, 132, .null, [0]) else none) else (bif Nat.beq pc 132 then some (.iload 4, 134, .null, [4]) else none))) else (bif Nat.ble pc 134 then (bif Nat.beq pc 134 then some (.iconst 4, 135, .int 4, []) else none) else (bif Nat.ble pc 135 then (bif Nat.beq pc 135 then some (.invokestatic 71, 138, .null, [2, 68, 2, 2, 99, 305, 307, 19, 306]) else none) else (bif Nat.beq pc 138 then some (.ifCond .ne 15, 141, .null, [153]) else none)))) else (bif Nat.ble pc 143 then (bif Nat.ble pc 141 then (bif Nat.beq pc 141 then some (.aload_n 0, 142, .null, [0]) else none) else (bif Nat.ble pc 142 then (bif Nat.beq pc 142 then some (.iload_n 3, 143, .null, [3]) else none) else (bif Nat.beq pc 143 then some (.iconst 4, 144, .int 4, []) else none))) else (bif Nat.ble pc 147 then (bif Nat.ble pc 144 then (bif Nat.beq pc 144 then some (.invokestatic 71, 147, .null, [2, 68, 2, 2, 99, 305, 307, 19, 306]) else none) else (bif Nat.beq pc 147 then some (.invokevirtual 78, 150, .null, [1, 30, 2, 4, 4, 456, 459, 20, 457, 458]) else none)) else (bif Nat.ble pc 150 then (bif Nat.beq pc 150 then some (.goto 4, 153, .null, [154]) else none) else (bif Nat.beq pc 153 then some (.iconst 0, 154, .int 0, []) else none))))))) else (bif Nat.ble pc 198 then (bif Nat.ble pc 173 then (bif Nat.ble pc 161 then (bif Nat.ble pc 156 then (bif Nat.ble pc 154 then (bif Nat.beq pc 154 then some (.ireturn, 155, .null, [0]) else none) else (bif Nat.ble pc 155 then (bif Nat.beq pc 155 then some (.aload_n 0, 156, .null, [0]) else none) else (bif Nat.beq pc 156 then some (.iload_n 3, 157, .null, [3]) else none))) else (bif Nat.ble pc 157 then (bif Nat.beq pc 157 then some (.iconst 4, 158, .int 4, []) else none) else (bif Nat.ble pc 158 then (bif Nat.beq pc 158 then some (.invokestatic 71, 161, .null, [2, 68, 2, 2, 99, 305, 307, 19, 306]) else none) else (bif Nat.beq pc 161 then some (.iload 4, 163, .null, [4]) else none)))) else (bif Nat.ble pc 168 then (bif Nat.ble pc 163 then (bif Nat.beq pc 163 then some (.bipush 11, 165, .int 11, []) else none) else (bif Nat.ble pc 165 then (bif Nat.beq pc 165 then some (.invokestatic 71, 168, .null, [2, 68, 2, 2, 99, 305, 307, 19, 306]) else none) else (bif Nat.beq pc 168 then some (.iconst 1, 169, .int 1, []) else none))) else (bif Nat.ble pc 169 then (bif Nat.beq pc 169 then some (.isub, 170, .null, []) else none) else (bif Nat.ble pc 170 then (bif Nat.beq pc 170 then some (.invokestatic 81, 173, .null, [9, 71, 3, 4, 99, 460, 462, 19, 461]) else none) else (bif Nat.beq pc 173 then some (.bipush (-3), 175, .int (-3), []) else none))))) else (bif Nat.ble pc 185 then (bif Nat.ble pc 180 then (bif Nat.ble pc 175 then (bif Nat.beq pc 175 then some (.if_icmp .ne 8, 178, .null, [183]) else none) else (bif Nat.ble pc 178 then (bif Nat.beq pc 178 then some (.bipush (-3), 180, .int (-3), []) else none) else (bif Nat.beq pc 180 then some (.goto 4, 183, .null, [184]) else none))) else (bif Nat.ble pc 183 then (bif Nat.beq pc 183 then some (.iconst 0, 184, .int 0, []) else none) else (bif Nat.ble pc 184 then (bif Nat.beq pc 184 then some (.ireturn, 185, .null, [0]) else none) else (bif Nat.beq pc 185 then some (.aload_n 0, 186, .null, [0]) else none)))) else (bif Nat.ble pc 190 then (bif Nat.ble pc 186 then (bif Nat.beq pc 186 then some (.iload_n 3, 187, .null, [3]) else none) else (bif Nat.ble pc 187 then (bif Nat.beq pc 187 then some (.sipush 10000, 190, .int 10000, []) else none) else (bif Nat.beq pc 190 then some (.invokestatic 71, 193, .null, [2, 68, 2, 2, 99, 305, 307, 19, 306]) else none))) else (bif Nat.ble pc 196 then (bif Nat.ble pc 193 then (bif Nat.beq pc 193 then some (.invokestatic 84, 196, .null, [9, 72, 2, 3, 99, 485, 487, 19, 486]) else none) else (bif Nat.beq pc 196 then some (.ireturn, 197, .null, [0]) else none)) else (bif Nat.ble pc 197 then (bif Nat.beq pc 197 then some (.aload_n 0, 198, .null, [0]) else none) else (bif Nat.beq pc 198 then some (.iconst 0, 199, .int 0, []) else none)))))) else (bif Nat.ble pc 216 then (bif Nat.ble pc 207 then (bif Nat.ble pc 202 then (bif Nat.ble pc 199 then (bif Nat.beq pc 199 then some (.iconst 1, 200, .int 1, []) else none) else (bif Nat.ble pc 200 then (bif Nat.beq pc 200 then some (.iload 4, 202, .null, [4]) else none) else (bif Nat.beq pc 202 then some (.iconst 5, 203, .int 5, []) else none))) else (bif Nat.ble pc 203 then (bif Nat.beq pc 203 then some (.invokestatic 71, 206, .null, [2, 68, 2, 2, 99, 305, 307, 19, 306]) else none) else (bif Nat.ble pc 206 then (bif Nat.beq pc 206 then some (.iadd, 207, .null, []) else none) else (bif Nat.beq pc 207 then some (.invokevirtual 87, 210, .null, [1, 32, 3, 4, 4, 501, 504, 20, 502, 503]) else none)))) else (bif Nat.ble pc 212 then (bif Nat.ble pc 210 then (bif Nat.beq pc 210 then some (.ireturn, 211, .null, [0]) else none) else (bif Nat.ble pc 211 then (bif Nat.beq pc 211 then some (.aload_n 0, 212, .null, [0]) else none) else (bif Nat.beq pc 212 then some (.iconst 1, 213, .int 1, []) else none))) else (bif Nat.ble pc 213 then (bif Nat.beq pc 213 then some (.iload 4, 215, .null, [4]) else none) else (bif Nat.ble pc 215 then (bif Nat.beq pc 215 then some (.iconst 4, 216, .int 4, []) else none) else (bif Nat.beq pc 216 then some (.invokestatic 71, 219, .null, [2, 68, 2, 2, 99, 305, 307, 19, 306]) else none))))) else (bif Nat.ble pc 228 then (bif Nat.ble pc 223 then (bif Nat.ble pc 219 then (bif Nat.beq pc 219 then some (.invokevirtual 87, 222, .null, [1, 32, 3, 4, 4, 501, 504, 20, 502, 503]) else none) else (bif Nat.ble pc 222 then (bif Nat.beq pc 222 then some (.ireturn, 223, .null, [0]) else none) else (bif Nat.beq pc 223 then some (.aload_n 0, 224, .null, [0]) else none))) else (bif Nat.ble pc 224 then (bif Nat.beq pc 224 then some (.invokestatic 90, 227, .null, [9, 73, 1, 2, 99, 509, 511, 19, 510]) else none) else (bif Nat.ble pc 227 then (bif Nat.beq pc 227 then some (.ireturn, 228, .null, [0]) else none) else (bif Nat.beq pc 228 then some (.aload_n 0, 229, .null, [0]) else none)))) else (bif Nat.ble pc 232 then (bif Nat.ble pc 229 then (bif Nat.beq pc 229 then some (.iconst 1, 230, .int 1, []) else none) else (bif Nat.ble pc 230 then (bif Nat.beq pc 230 then some (.iload 4, 232, .null, [4]) else none) else (bif Nat.beq pc 232 then some (.bipush 90, 234, .int 90, []) else none))) else (bif Nat.ble pc 237 then (bif Nat.ble pc 234 then (bif Nat.beq pc 234 then some (.invokestatic 71, 237, .null, [2, 68, 2, 2, 99, 305, 307, 19, 306]) else none) else (bif Nat.beq pc 237 then some (.iadd, 238, .null, []) else none)) else (bif Nat.ble pc 238 then (bif Nat.beq pc 238 then some (.invokevirtual 93, 241, .null, [1, 31, 2, 7, 4, 521, 524, 20, 522, 523]) else none) else (bif Nat.beq pc 241 then some (.ireturn, 242, .null, [0]) else none))))))))
def mm_k77 : Nat → Option mm_En := fun pc => (bif Nat.ble pc 136 then (bif Nat.ble pc 62 then (bif Nat.ble pc 28 then (bif Nat.ble pc 12 then (bif Nat.ble pc 7 then (bif Nat.ble pc 3 then (bif Nat.ble pc 0 then (bif Nat.beq pc 0 then some (.new 10, 3, .null, [0, 4, 5, 33, 34, 20]) else none) else (bif Nat.beq pc 3 then some (.dup, 4, .null, []) else none)) else (bif Nat.ble pc 4 then (bif Nat.beq pc 4 then some (.invokespecial 96, 7, .null, [3, 26, 1, 2, 4, 35, 37, 20, 36]) else none) else (bif Nat.beq pc 7 then some (.astore_n 1, 8, .null, [1]) else none))) else (bif Nat.ble pc 9 then (bif Nat.ble pc 8 then (bif Nat.beq pc 8 then some (.iconst 1, 9, .int 1, []) else none) else (bif Nat.beq pc 9 then some (.istore_n 2, 10, .null, [2]) else none)) else (bif Nat.ble pc 10 then (bif Nat.beq pc 10 then some (.aload_n 0, 11, .null, [0]) else none) else (bif Nat.ble pc 11 then (bif Nat.beq pc 11 then some (.arraylength, 12, .null, []) else none) else (bif Nat.beq pc 12 then some (.iconst 3, 13, .int 3, []) else none))))) else (bif Nat.ble pc 21 then (bif Nat.ble pc 14 then (bif Nat.ble pc 13 then (bif Nat.beq pc 13 then some (.idiv, 14, .null, []) else none) else (bif Nat.beq pc 14 then some (.bipush 30, 16, .int 30, []) else none)) else (bif Nat.ble pc 16 then (bif Nat.beq pc 16 then some (.if_icmp .le 8, 19, .null, [24]) else none) else (bif Nat.ble pc 19 then (bif Nat.beq pc 19 then some (.bipush 30, 21, .int 30, []) else none) else (bif Nat.beq pc 21 then some (.goto 7, 24, .null, [28]) else none)))) else (bif Nat.ble pc 25 then (bif Nat.ble pc 24 then (bif Nat.beq pc 24 then some (.aload_n 0, 25, .null, [0]) else none) else (bif Nat.beq pc 25 then some (.arraylength, 26, .null, []) else none)) else (bif Nat.ble pc 26 then (bif Nat.beq pc 26 then some (.iconst 3, 27, .int 3, []) else none) else (bif Nat.ble pc 27 then (bif Nat.beq pc 27 then some (.idiv, 28, .null, []) else none) else (bif Nat.beq pc 28 then some (.istore_n 3, 29, .null, [3]) else none)))))) else (bif Nat.ble pc 43 then (bif Nat.ble pc 34 then (bif Nat.ble pc 30 then (bif Nat.ble pc 29 then (bif Nat.beq pc 29 then some (.iconst 0, 30, .int 0, []) else none) else (bif Nat.beq pc 30 then some (.istore 4, 32, .null, [4]) else none)) else (bif Nat.ble pc 32 then (bif Nat.beq pc 32 then some (.iload 4, 34, .null, [4]) else none) else (bif Nat.beq pc 34 then some (.iload_n 3, 35, .null, [3]) else none))) else (bif Nat.ble pc 38 then (bif Nat.ble pc 35 then (bif Nat.beq pc 35 then some (.if_icmp .ge 246, 38, .null, [281]) else none) else (bif Nat.beq pc 38 then some (.iload_n 2, 39, .null, [2]) else none)) else (bif Nat.ble pc 39 then (bif Nat.beq pc 39 then some (.ifCond .eq 242, 42, .null, [281]) else none) else (bif Nat.ble pc 42 then (bif Nat.beq pc 42 then some (.aload_n 1, 43, .null, [1]) else none) else (bif Nat.beq pc 43 then some (.bipush 7, 45, .int 7, []) else none))))) else (bif Nat.ble pc 52 then (bif Nat.ble pc 48 then (bif Nat.ble pc 45 then (bif Nat.beq pc 45 then some (.invokevirtual 32, 48, .null, [1, 38, 2, 2, 4, 170, 173, 20, 171, 172]) else none) else (bif Nat.beq pc 48 then some (.istore 5, 50, .null, [5]) else none)) else (bif Nat.ble pc 50 then (bif Nat.beq pc 50 then some (.aload_n 1, 51, .null, [1]) else none) else (bif Nat.ble pc 51 then (bif Nat.beq pc 51 then some (.iconst 1, 52, .int 1, []) else none) else (bif Nat.beq pc 52 then some (.invokevirtual 32, 55, .null, [1, 38, 2, 2, 4, 170, 173, 20, 171, 172]) else none)))) else (bif Nat.ble pc 57 then (bif Nat.ble pc 55 then (bif Nat.beq pc 55 then some (.istore 6, 57, .null, [6]) else none) else (bif Nat.beq pc 57 then some (.aload_n 1, 58, .null, [1]) else none)) else (bif Nat.ble pc 58 then (bif Nat.beq pc 58 then some (.iconst 0, 59, .int 0, []) else none) else (bif Nat.ble pc 59 then (bif Nat.beq pc 59 then some (.invokevirtual 32, 62, .null, [1, 38, 2, 2, 4, 170, 173, 20, 171, 172]) else none) else (bif Nat.beq pc 62 then some (.istore 7, 64, .null, [7]) else none))))))) else (bif Nat.ble pc 99 then (bif Nat.ble pc 78 then (bif Nat.ble pc 69 then (bif Nat.ble pc 65 then (bif Nat.ble pc 64 then (bif Nat.beq pc 64 then some (.aload_n 1, 65, .null, [1]) else none) else (bif Nat.beq pc 65 then some (.iconst 5, 66, .int 5, []) else none)) else (bif Nat.ble pc 66 then (bif Nat.beq pc 66 then some (.invokevirtual 32, 69, .null, [1, 38, 2, 2, 4, 170, 173, 20, 171, 172]) else none) else (bif Nat.beq pc 69 then some (.istore 8, 71, .null, [8]) else none))) else (bif Nat.ble pc 72 then (bif Nat.ble pc 71 then (bif Nat.beq pc 71 then some (.aload_n 1, 72, .null, [1]) else none) else (bif Nat.beq pc 72 then some (.invokevirtual 64, 75, .null, [1, 42, 1, 5, 4, 283, 286, 20, 284, 285]) else none)) else (bif Nat.ble pc 75 then (bif Nat.beq pc 75 then some (.istore 9, 77, .null, [9]) else none) else (bif Nat.ble pc 77 then (bif Nat.beq pc 77 then some (.aload_n 0, 78, .null, [0]) else none) else (bif Nat.beq pc 78 then some (.iconst 3, 79, .int 3, []) else none))))) else (bif Nat.ble pc 87 then (bif Nat.ble pc 81 then (bif Nat.ble pc 79 then (bif Nat.beq pc 79 then some (.iload 4, 81, .null, [4]) else none) else (bif Nat.beq pc 81 then some (.imul, 82, .null, []) else none)) else (bif Nat.ble pc 82 then (bif Nat.beq pc 82 then some (.invokestatic 67, 85, .null, [2, 69, 2, 2, 99, 309, 311, 19, 310]) else none) else (bif Nat.ble pc 85 then (bif Nat.beq pc 85 then some (.bipush 16, 87, .int 16, []) else none) else (bif Nat.beq pc 87 then some (.invokestatic 71, 90, .null, [2, 68, 2, 2, 99, 305, 307, 19, 306]) else none)))) else (bif Nat.ble pc 92 then (bif Nat.ble pc 90 then (bif Nat.beq pc 90 then some (.bipush 13, 92, .int 13, []) else none) else (bif Nat.beq pc 92 then some (.if_icmp .le 7, 95, .null, [99]) else none)) else (bif Nat.ble pc 95 then (bif Nat.beq pc 95 then some (.iconst 1, 96, .int 1, []) else none) else (bif Nat.ble pc 96 then (bif Nat.beq pc 96 then some (.goto 4, 99, .null, [100]) else none) else (bif Nat.beq pc 99 then some (.iconst 0, 100, .int 0, []) else none)))))) else (bif Nat.ble pc 115 then (bif Nat.ble pc 105 then (bif Nat.ble pc 102 then (bif Nat.ble pc 100 then (bif Nat.beq pc 100 then some (.istore 10, 102, .null, [10]) else none) else (bif Nat.beq pc 102 then some (.aload_n 1, 103, .null, [1]) else none)) else (bif Nat.ble pc 103 then (bif Nat.beq pc 103 then some (.aload_n 0, 104, .null, [0]) else none) else (bif Nat.ble pc 104 then (bif Nat.beq pc 104 then some (.iconst 3, 105, .int 3, []) else none) else (bif Nat.beq pc 105 then some (.iload 4, 107, .null, [4]) else none)))) else (bif Nat.ble pc 108 then (bif Nat.ble pc 107 then (bif Nat.beq pc 107 then some (.imul, 108, .null, []) else none) else (bif Nat.beq pc 108 then some (.invokestatic 97, 111, .null, [2, 76, 3, 5, 99, 429, 431, 19, 430]) else none)) else (bif Nat.ble pc 111 then (bif Nat.beq pc 111 then some (.istore 11, 113, .null, [11]) else none) else (bif Nat.ble pc 113 then (bif Nat.beq pc 113 then some (.iload 11, 115, .null, [11]) else none) else (bif Nat.beq pc 115 then some (.ifCond .ge 34, 118, .null, [149]) else none))))) else (bif Nat.ble pc 126 then (bif Nat.ble pc 119 then (bif Nat.ble pc 118 then (bif Nat.beq pc 118 then some (.aload_n 1, 119, .null, [1]) else none) else (bif Nat.beq pc 119 then some (.bipush 7, 121, .int 7, []) else none)) else (bif Nat.ble pc 121 then (bif Nat.beq pc 121 then some (.invokevirtual 32, 124, .null, [1, 38, 2, 2, 4, 170, 173, 20, 171, 172]) else none) else (bif Nat.ble pc 124 then (bif Nat.beq pc 124 then some (.iload 5, 126, .null, [5]) else none) else (bif Nat.beq pc 126 then some (.if_icmp .ne 27, 129, .null, [153]) else none)))) else (bif Nat.ble pc 130 then (bif Nat.ble pc 129 then (bif Nat.beq pc 129 then some (.aload_n 1, 130, .null, [1]) else none) else (bif Nat.beq pc 130 then some (.iconst 1, 131, .int 1, []) else none)) else (bif Nat.ble pc 131 then (bif Nat.beq pc 131 then some (.invokevirtual 32, 134, .null, [1, 38, 2, 2, 4, 170, 173, 20, 171, 172]) else none) else (bif Nat.ble pc 134 then (bif Nat.beq pc 134 then some (.iload 6, 136, .null, [6]) else none) else (bif Nat.beq pc 136 then some (.if_icmp .ne 17, 139, .null, [153]) else none)))))))) else (bif Nat.ble pc 205 then (bif Nat.ble pc 168 then (bif Nat.ble pc 154 then (bif Nat.ble pc 144 then (bif Nat.ble pc 140 then (bif Nat.ble pc 139 then (bif Nat.beq pc 139 then some (.aload_n 1, 140, .null, [1]) else none) else (bif Nat.beq pc 140 then some (.iconst 0, 141, .int 0, []) else none)) else (bif Nat.ble pc 141 then (bif Nat.beq pc 141 then some (.invokevirtual 32, 144, .null, [1, 38, 2, 2, 4, 170, 173, 20, 171, 172]) else none) else (bif Nat.beq pc 144 then some (.iload 7, 146, .null, [7]) else none))) else (bif Nat.ble pc 149 then (bif Nat.ble pc 146 then (bif Nat.beq pc 146 then some (.if_icmp .ne 7, 149, .null, [153]) else none) else (bif Nat.beq pc 149 then some (.iconst 1, 150, .int 1, []) else none)) else (bif Nat.ble pc 150 then (bif Nat.beq pc 150 then some (.goto 4, 153, .null, [154]) else none) else (bif Nat.ble pc 153 then (bif Nat.beq pc 153 then some (.iconst 0, 154, .int 0, []) else none) else (bif Nat.beq pc 154 then some (.istore_n 2, 155, .null, [2]) else none))))) else (bif Nat.ble pc 162 then (bif Nat.ble pc 157 then (bif Nat.ble pc 155 then (bif Nat.beq pc 155 then some (.iload 10, 157, .null, [10]) else none) else (bif Nat.beq pc 157 then some (.ifCond .eq 101, 160, .null, [258]) else none)) else (bif Nat.ble pc 160 then (bif Nat.beq pc 160 then some (.iconst 1, 161, .int 1, []) else none) else (bif Nat.ble pc 161 then (bif Nat.beq pc 161 then some (.aload_n 0, 162, .null, [0]) else none) else (bif Nat.beq pc 162 then some (.iconst 3, 163, .int 3, []) else none)))) else (bif Nat.ble pc 165 then (bif Nat.ble pc 163 then (bif Nat.beq pc 163 then some (.iload 4, 165, .null, [4]) else none) else (bif Nat.beq pc 165 then some (.imul, 166, .null, []) else none)) else (bif Nat.ble pc 166 then (bif Nat.beq pc 166 then some (.iconst 2, 167, .int 2, []) else none) else (bif Nat.ble pc 167 then (bif Nat.beq pc 167 then some (.iadd, 168, .null, []) else none) else (bif Nat.beq pc 168 then some (.invokestatic 67, 171, .null, [2, 69, 2, 2, 99, 309, 311, 19, 310]) else none)))))) else (bif Nat.ble pc 185 then (bif Nat.ble pc 177 then (bif Nat.ble pc 173 then (bif Nat.ble pc 171 then (bif Nat.beq pc 171 then some (.bipush 90, 173, .int 90, []) else none) else (bif Nat.beq pc 173 then some (.invokestatic 71, 176, .null, [2, 68, 2, 2, 99, 305, 307, 19, 306]) else none)) else (bif Nat.ble pc 176 then (bif Nat.beq pc 176 then some (.iadd, 177, .null, []) else none) else (bif Nat.beq pc 177 then some (.istore 12, 179, .null, [12]) else none))) else (bif Nat.ble pc 180 then (bif Nat.ble pc 179 then (bif Nat.beq pc 179 then some (.iload_n 2, 180, .null, [2]) else none) else (bif Nat.beq pc 180 then some (.ifCond .eq 76, 183, .null, [256]) else none)) else (bif Nat.ble pc 183 then (bif Nat.beq pc 183 then some (.aload_n 1, 184, .null, [1]) else none) else (bif Nat.ble pc 184 then (bif Nat.beq pc 184 then some (.iconst 1, 185, .int 1, []) else none) else (bif Nat.beq pc 185 then some (.invokevirtual 32, 188, .null, [1, 38, 2, 2, 4, 170, 173, 20, 171, 172]) else none))))) else (bif Nat.ble pc 196 then (bif Nat.ble pc 190 then (bif Nat.ble pc 188 then (bif Nat.beq pc 188 then some (.iload 6, 190, .null, [6]) else none) else (bif Nat.beq pc 190 then some (.iload 11, 192, .null, [11]) else none)) else (bif Nat.ble pc 192 then (bif Nat.beq pc 192 then some (.iadd, 193, .null, []) else none) else (bif Nat.ble pc 193 then (bif Nat.beq pc 193 then some (.if_icmp .ne 63, 196, .null, [256]) else none) else (bif Nat.beq pc 196 then some (.aload_n 1, 197, .null, [1]) else none)))) else (bif Nat.ble pc 198 then (bif Nat.ble pc 197 then (bif Nat.beq pc 197 then some (.iconst 5, 198, .int 5, []) else none) else (bif Nat.beq pc 198 then some (.invokevirtual 32, 201, .null, [1, 38, 2, 2, 4, 170, 173, 20, 171, 172]) else none)) else (bif Nat.ble pc 201 then (bif Nat.beq pc 201 then some (.iload 8, 203, .null, [8]) else none) else (bif Nat.ble pc 203 then (bif Nat.beq pc 203 then some (.iload 11, 205, .null, [11]) else none) else (bif Nat.beq pc 205 then some (.iadd, 206, .null, []) else none))))))) else (bif Nat.ble pc 244 then (bif Nat.ble pc 222 then (bif Nat.ble pc 211 then (bif Nat.ble pc 209 then (bif Nat.ble pc 206 then (bif Nat.beq pc 206 then some (.if_icmp .ne 50, 209, .null, [256]) else none) else (bif Nat.beq pc 209 then some (.aload_n 1, 210, .null, [1]) else none)) else (bif Nat.ble pc 210 then (bif Nat.beq pc 210 then some (.iconst 0, 211, .int 0, []) else none) else (bif Nat.beq pc 211 then some (.invokevirtual 32, 214, .null, [1, 38, 2, 2, 4, 170, 173, 20, 171, 172]) else none))) else (bif Nat.ble pc 216 then (bif Nat.ble pc 214 then (bif Nat.beq pc 214 then some (.iload 7, 216, .null, [7]) else none) else (bif Nat.beq pc 216 then some (.iload 12, 218, .null, [12]) else none)) else (bif Nat.ble pc 218 then (bif Nat.beq pc 218 then some (.iadd, 219, .null, []) else none) else (bif Nat.ble pc 219 then (bif Nat.beq pc 219 then some (.if_icmp .ne 37, 222, .null, [256]) else none) else (bif Nat.beq pc 222 then some (.iload 11, 224, .null, [11]) else none))))) else (bif Nat.ble pc 232 then (bif Nat.ble pc 227 then (bif Nat.ble pc 224 then (bif Nat.beq pc 224 then some (.ifCond .le 7, 227, .null, [231]) else none) else (bif Nat.beq pc 227 then some (.iconst 1, 228, .int 1, []) else none)) else (bif Nat.ble pc 228 then (bif Nat.beq pc 228 then some (.goto 4, 231, .null, [232]) else none) else (bif Nat.ble pc 231 then (bif Nat.beq pc 231 then some (.iconst 0, 232, .int 0, []) else none) else (bif Nat.beq pc 232 then some (.iload 9, 234, .null, [9]) else none)))) else (bif Nat.ble pc 237 then (bif Nat.ble pc 234 then (bif Nat.beq pc 234 then some (.ifCond .le 14, 237, .null, [248]) else none) else (bif Nat.beq pc 237 then some (.iload 9, 239, .null, [9]) else none)) else (bif Nat.ble pc 239 then (bif Nat.beq pc 239 then some (.iload 12, 241, .null, [12]) else none) else (bif Nat.ble pc 241 then (bif Nat.beq pc 241 then some (.if_icmp .gt 7, 244, .null, [248]) else none) else (bif Nat.beq pc 244 then some (.iconst 1, 245, .int 1, []) else none)))))) else (bif Nat.ble pc 262 then (bif Nat.ble pc 253 then (bif Nat.ble pc 248 then (bif Nat.ble pc 245 then (bif Nat.beq pc 245 then some (.goto 4, 248, .null, [249]) else none) else (bif Nat.beq pc 248 then some (.iconst 0, 249, .int 0, []) else none)) else (bif Nat.ble pc 249 then (bif Nat.beq pc 249 then some (.if_icmp .ne 7, 252, .null, [256]) else none) else (bif Nat.ble pc 252 then (bif Nat.beq pc 252 then some (.iconst 1, 253, .int 1, []) else none) else (bif Nat.beq pc 253 then some (.goto 4, 256, .null, [257]) else none)))) else (bif Nat.ble pc 257 then (bif Nat.ble pc 256 then (bif Nat.beq pc 256 then some (.iconst 0, 257, .int 0, []) else none) else (bif Nat.beq pc 257 then some (.istore_n 2, 258, .null, [2]) else none)) else (bif Nat.ble pc 258 then (bif Nat.beq pc 258 then some (.iload_n 2, 259, .null, [2]) else none) else (bif Nat.ble pc 259 then (bif Nat.beq pc 259 then some (.ifCond .eq 14, 262, .null, [273]) else none) else (bif Nat.beq pc 262 then some (.aload_n 1, 263, .null, [1]) else none))))) else (bif Nat.ble pc 273 then (bif Nat.ble pc 266 then (bif Nat.ble pc 263 then (bif Nat.beq pc 263 then some (.invokestatic 101, 266, .null, [2, 75, 1, 8, 99, 313, 315, 19, 314]) else none) else (bif Nat.beq pc 266 then some (.ifCond .eq 7, 269, .null, [273]) else none)) else (bif Nat.ble pc 269 then (bif Nat.beq pc 269 then some (.iconst 1, 270, .int 1, []) else none) else (bif Nat.ble pc 270 then (bif Nat.beq pc 270 then some (.goto 4, 273, .null, [274]) else none) else (bif Nat.beq pc 273 then some (.iconst 0, 274, .int 0, []) else none)))) else (bif Nat.ble pc 275 then (bif Nat.ble pc 274 then (bif Nat.beq pc 274 then some (.istore_n 2, 275, .null, [2]) else none) else (bif Nat.beq pc 275 then some (.iinc 4 1, 278, .int 1, [4]) else none)) else (bif Nat.ble pc 278 then (bif Nat.beq pc 278 then some (.goto (-246), 281, .null, [32]) else none) else (bif Nat.ble pc 281 then (bif Nat.beq pc 281 then some (.iload_n 2, 282, .null, [2]) else none) else (bif Nat.beq pc 282 then some (.ireturn, 283, .null, [1]) else none)))))))))
def mm_lb : Nat → Nat := fun mi => (bif Nat.ble mi 38 then (bif Nat.ble mi 18 then (bif Nat.ble mi 8 then (bif Nat.ble mi 3 then (bif Nat.ble mi 1 then (bif Nat.ble mi 0 then 71 else 74) else (bif Nat.ble mi 2 then 48 else 12)) else (bif Nat.ble mi 5 then (bif Nat.ble mi 4 then 16 else 51) else (bif Nat.ble mi 6 then 49 else (bif Nat.ble mi 7 then 35 else 10)))) else (bif Nat.ble mi 13 then (bif Nat.ble mi 10 then (bif Nat.ble mi 9 then 29 else 22) else (bif Nat.ble mi 11 then 130 else (bif Nat.ble mi 12 then 46 else 10))) else (bif Nat.ble mi 15 then (bif Nat.ble mi 14 then 23 else 19) else (bif Nat.ble mi 16 then 19 else (bif Nat.ble mi 17 then 19 else 38))))) else (bif Nat.ble mi 28 then (bif Nat.ble mi 23 then (bif Nat.ble mi 20 then (bif Nat.ble mi 19 then 11 else 28) else (bif Nat.ble mi 21 then 86 else (bif Nat.ble mi 22 then 48 else 41))) else (bif Nat.ble mi 25 then (bif Nat.ble mi 24 then 74 else 18) else (bif Nat.ble mi 26 then 87 else (bif Nat.ble mi 27 then 100 else 82)))) else (bif Nat.ble mi 33 then (bif Nat.ble mi 30 then (bif Nat.ble mi 29 then 93 else 72) else (bif Nat.ble mi 31 then 152 else (bif Nat.ble mi 32 then 72 else 43))) else (bif Nat.ble mi 35 then (bif Nat.ble mi 34 then 165 else 133) else (bif Nat.ble mi 36 then 101 else (bif Nat.ble mi 37 then 49 else 118)))))) else (bif Nat.ble mi 57 then (bif Nat.ble mi 47 then (bif Nat.ble mi 42 then (bif Nat.ble mi 40 then (bif Nat.ble mi 39 then 27 else 122) else (bif Nat.ble mi 41 then 61 else 59)) else (bif Nat.ble mi 44 then (bif Nat.ble mi 43 then 37 else 15) else (bif Nat.ble mi 45 then 16 else (bif Nat.ble mi 46 then 16 else 15)))) else (bif Nat.ble mi 52 then (bif Nat.ble mi 49 then (bif Nat.ble mi 48 then 36 else 7) else (bif Nat.ble mi 50 then 15 else (bif Nat.ble mi 51 then 38 else 41))) else (bif Nat.ble mi 54 then (bif Nat.ble mi 53 then 28 else 19) else (bif Nat.ble mi 55 then 31 else (bif Nat.ble mi 56 then 56 else 74))))) else (bif Nat.ble mi 67 then (bif Nat.ble mi 62 then (bif Nat.ble mi 59 then (bif Nat.ble mi 58 then 36 else 82) else (bif Nat.ble mi 60 then 19 else (bif Nat.ble mi 61 then 31 else 32))) else (bif Nat.ble mi 64 then (bif Nat.ble mi 63 then 28 else 38) else (bif Nat.ble mi 65 then 33 else (bif Nat.ble mi 66 then 80 else 53)))) else (bif Nat.ble mi 72 then (bif Nat.ble mi 69 then (bif Nat.ble mi 68 then 7 else 21) else (bif Nat.ble mi 70 then 22 else (bif Nat.ble mi 71 then 11 else 10))) else (bif Nat.ble mi 74 then (bif Nat.ble mi 73 then 9 else 620) else (bif Nat.ble mi 75 then 268 else (bif Nat.ble mi 76 then 242 else 283)))))))
def mm_kk : Nat → Nat → Option mm_En := fun mi pc => (bif Nat.ble mi 38 then (bif Nat.ble mi 18 then (bif Nat.ble mi 8 then (bif Nat.ble mi 3 then (bif Nat.ble mi 1 then (bif Nat.ble mi 0 then (mm_k0 pc) else (mm_k1 pc)) else (bif Nat.ble mi 2 then (mm_k2 pc) else (mm_k3 pc))) else (bif Nat.ble mi 5 then (bif Nat.ble mi 4 then (mm_k4 pc) else (mm_k5 pc)) else (bif Nat.ble mi 6 then (mm_k6 pc) else (bif Nat.ble mi 7 then (mm_k7 pc) else (mm_k8 pc))))) else (bif Nat.ble mi 13 then (bif Nat.ble mi 10 then (bif Nat.ble mi 9 then (mm_k9 pc) else (mm_k10 pc)) else (bif Nat.ble mi 11 then (mm_k11 pc) else (bif Nat.ble mi 12 then (mm_k12 pc) else (mm_k13 pc)))) else (bif Nat.ble mi 15 then (bif Nat.ble mi 14 then (mm_k14 pc) else (mm_k15 pc)) else (bif Nat.ble mi 16 then (mm_k16 pc) else (bif Nat.ble mi 17 then (mm_k17 pc) else (mm_k18 pc)))))) else (bif Nat.ble mi 28 then (bif Nat.ble mi 23 then (bif Nat.ble mi 20 then (bif Nat.ble mi 19 then (mm_k19 pc) else (mm_k20 pc)) else (bif Nat.ble mi 21 then (mm_k21 pc) else (bif Nat.ble mi 22 then (mm_k22 pc) else (mm_k23 pc)))) else (bif Nat.ble mi 25 then (bif Nat.ble mi 24 then (mm_k24 pc) else (mm_k25 pc)) else (bif Nat.ble mi 26 then (mm_k26 pc) else (bif Nat.ble mi 27 then (mm_k27 pc) else (mm_k28 pc))))) else (bif Nat.ble mi 33 then (bif Nat.ble mi 30 then (bif Nat.ble mi 29 then (mm_k29 pc) else (mm_k30 pc)) else (bif Nat.ble mi 31 then (mm_k31 pc) else (bif Nat.ble mi 32 then (mm_k32 pc) else (mm_k33 pc)))) else (bif Nat.ble mi 35 then (bif Nat.ble mi 34 then (mm_k34 pc) else (mm_k35 pc)) else (bif Nat.ble mi 36 then (mm_k36 pc) else (bif Nat.ble mi 37 then (mm_k37 pc) else (mm_k38 pc))))))) else (bif Nat.ble mi 57 then (bif Nat.ble mi 47 then (bif Nat.ble mi 42 then (bif Nat.ble mi 40 then (bif Nat.ble mi 39 then (mm_k39 pc) else (mm_k40 pc)) else (bif Nat.ble mi 41 then (mm_k41 pc) else (mm_k42 pc))) else (bif Nat.ble mi 44 then (bif Nat.ble mi 43 then (mm_k43 pc) else (mm_k44 pc)) else (bif Nat.ble mi 45 then (mm_k45 pc) else (bif Nat.ble mi 46 then (mm_k46 pc) else (mm_k47 pc))))) else (bif Nat.ble mi 52 then (bif Nat.ble mi 49 then (bif Nat.ble mi 48 then (mm_k48 pc) else (mm_k49 pc)) else (bif Nat.ble mi 50 then (mm_k50 pc) else (bif Nat.ble mi 51 then (mm_k51 pc) else (mm_k52 pc)))) else (bif Nat.ble mi 54 then (bif Nat.ble mi 53 then (mm_k53 pc) else (mm_k54 pc)) else (bif Nat.ble mi 55 then (mm_k55 pc) else (bif Nat.ble mi 56 then (mm_k56 pc) else (mm_k57 pc)))))) else (bif Nat.ble mi 67 then (bif Nat.ble mi 62 then (bif Nat.ble mi 59 then (bif Nat.ble mi 58 then (mm_k58 pc) else (mm_k59 pc)) else (bif Nat.ble mi 60 then (mm_k60 pc) else (bif Nat.ble mi 61 then (mm_k61 pc) else (mm_k62 pc)))) else (bif Nat.ble mi 64 then (bif Nat.ble mi 63 then (mm_k63 pc) else (mm_k64 pc)) else (bif Nat.ble mi 65 then (mm_k65 pc) else (bif Nat.ble mi 66 then (mm_k66 pc) else (mm_k67 pc))))) else (bif Nat.ble mi 72 then (bif Nat.ble mi 69 then (bif Nat.ble mi 68 then (mm_k68 pc) else (mm_k69 pc)) else (bif Nat.ble mi 70 then (mm_k70 pc) else (bif Nat.ble mi 71 then (mm_k71 pc) else (mm_k72 pc)))) else (bif Nat.ble mi 74 then (bif Nat.ble mi 73 then (mm_k73 pc) else (mm_k74 pc)) else (bif Nat.ble mi 75 then (mm_k75 pc) else (bif Nat.ble mi 76 then (mm_k76 pc) else (mm_k77 pc))))))))
def mm_code : Nat → Nat → Option mm_En := fun mi pc => bif Nat.ble 78 mi then none else bif Nat.ble (mm_lb mi) pc then none else mm_kk mi pc
def mm_hl : Nat → List (Nat × Nat × Nat × Nat) := fun mi => bif Nat.beq mi 71 then [(3, 7, 3, 8)] else bif Nat.beq mi 72 then [(3, 6, 2, 7)] else bif Nat.beq mi 73 then [(3, 5, 1, 6)] else []
abbrev mm_MI : Type := MethodName × ByteArray × Nat × Option FieldType × (Nat × Nat) × Nat × Nat × List (Nat × Nat × Nat × Nat)
def mm_mt0 : List mm_MI := [(yX0_init, cX0_init, 2, none, (1, 20), 0, 45, []),
  (yX0_copyFrom, cX0_copyFrom, 2, none, (1, 60), 0, 447, []),
  (yX0_setLamp, cX0_setLamp, 4, none, (2, 40), 0, 454, []),
  (yX0_hoursOf, cX0_hoursOf, 3, (some .int), (1, 20), 0, 304, []),
  (yX0_addHours, cX0_addHours, 4, none, (1, 20), 0, 536, []),
  (yX1_init, cX1_init, 2, none, (2, 41), 1, 107, []),
  (yX1_save, cX1_save, 2, none, (2, 81), 1, 439, []),
  (yX1_restore, cX1_restore, 2, none, (2, 81), 1, 520, []),
  (yX1_slot, cX1_slot, 2, (some .int), (1, 20), 1, 443, []),
  (yX2_init, cX2_init, 1, none, (1, 20), 2, 77, []),
  (yX2_choose, cX2_choose, 4, none, (4, 91), 2, 134, []),
  (yX2_chooseShape, cX2_chooseShape, 8, none, (3, 64), 2, 138, []),
  (yX2_isApart, cX2_isApart, 5, (some .boolean), (2, 40), 2, 153, []),
  (yX2_lampsOf, cX2_lampsOf, 2, (some .int), (1, 20), 2, 141, []),
  (yX2_canShow, cX2_canShow, 2, (some .boolean), (2, 40), 2, 262, []),
  (yX2_shapeOf, cX2_shapeOf, 2, (some .int), (3, 61), 2, 346, []),
  (yX2_shownOf, cX2_shownOf, 2, (some .int), (3, 61), 2, 277, []),
  (yX2_missingOf, cX2_missingOf, 2, (some .int), (3, 61), 2, 350, []),
  (yX2_digitsAsMask, cX2_digitsAsMask, 3, (some .int), (1, 20), 2, 354, []),
  (yX2_hiddenDigits, cX2_hiddenDigits, 1, (some .int), (2, 42), 2, 409, []),
  (yX2_firstHidden, cX2_firstHidden, 2, (some .int), (1, 20), 2, 362, []),
  (yX2_leastDifference, cX2_leastDifference, 5, (some .int), (2, 40), 2, 358, []),
  (yX2_digitsWith, cX2_digitsWith, 4, (some .int), (3, 61), 2, 374, []),
  (yX2_changesFrom, cX2_changesFrom, 4, (some .int), (1, 20), 2, 422, []),
  (yX2_nearestTo, cX2_nearestTo, 6, (some .int), (2, 40), 2, 393, [])]
def mm_mt1 : List mm_MI := [(yX3_init, cX3_init, 1, none, (1, 20), 3, 93, []),
  (yX4_init, cX4_init, 2, none, (7, 156), 4, 37, []),
  (yX4_show, cX4_show, 4, (some .int), (6, 102), 4, 467, []),
  (yX4_number, cX4_number, 3, (some .int), (6, 102), 4, 491, []),
  (yX4_lamp, cX4_lamp, 5, (some .int), (6, 135), 4, 435, []),
  (yX4_mend, cX4_mend, 4, (some .int), (6, 135), 4, 459, []),
  (yX4_pass, cX4_pass, 7, (some .int), (7, 158), 4, 524, []),
  (yX4_set, cX4_set, 4, (some .int), (7, 156), 4, 504, []),
  (yX4_undo, cX4_undo, 1, (some .int), (7, 156), 4, 515, []),
  (yX4_field, cX4_field, 5, (some .int), (6, 103), 4, 322, []),
  (yX4_lampOf, cX4_lampOf, 4, (some .int), (6, 103), 4, 366, []),
  (yX4_table, cX4_table, 5, (some .int), (6, 90), 4, 382, []),
  (yX4_read, cX4_read, 3, (some .int), (6, 90), 4, 388, []),
  (yX4_count, cX4_count, 2, (some .int), (6, 125), 4, 173, []),
  (yX4_setting, cX4_setting, 2, (some .int), (6, 90), 4, 397, []),
  (yX4_worstLamp, cX4_worstLamp, 8, (some .int), (6, 136), 4, 414, []),
  (yX4_strictest, cX4_strictest, 3, (some .int), (6, 114), 4, 405, []),
  (yX4_nextBurn, cX4_nextBurn, 5, (some .int), (6, 126), 4, 286, []),
  (yX4_clarity, cX4_clarity, 3, (some .double), (3, 62), 4, 426, []),
  (yX4_isField, cX4_isField, 1, (some .boolean), (1, 20), 4, 325, []),
  (yX4_isLamp, cX4_isLamp, 1, (some .boolean), (1, 20), 4, 369, []),
  (yX4_isDigit, cX4_isDigit, 1, (some .boolean), (1, 20), 4, 265, []),
  (yX4_isSetting, cX4_isSetting, 1, (some .boolean), (1, 20), 4, 400, []),
  (yX4_isValueOf, cX4_isValueOf, 2, (some .boolean), (1, 20), 4, 507, []),
  (yX4_maskOf, cX4_maskOf, 1, (some .int), (1, 20), 4, 296, [])]
def mm_mt2 : List mm_MI := [(yX4_has, cX4_has, 2, (some .boolean), (2, 40), 4, 293, []),
  (yX4_digitAt, cX4_digitAt, 4, (some .int), (1, 20), 4, 499, []),
  (yX4_canShowNumber, cX4_canShowNumber, 4, (some .boolean), (3, 61), 4, 496, []),
  (yX4_chooseTable, cX4_chooseTable, 2, none, (5, 114), 4, 130, []),
  (yX4_chooseAllTables, cX4_chooseAllTables, 2, none, (6, 135), 4, 126, []),
  (yX4_tryBurning, cX4_tryBurning, 3, none, (5, 114), 4, 418, []),
  (yX4_light, cX4_light, 5, none, (5, 103), 4, 532, []),
  (yX4_burnWorn, cX4_burnWorn, 4, (some .int), (6, 135), 4, 540, []),
  (yX4_isWorn, cX4_isWorn, 4, (some .boolean), (2, 42), 4, 300, []),
  (yX4_hoursUntilBurning, cX4_hoursUntilBurning, 4, (some .int), (5, 103), 4, 290, []),
  (yX4_isShown, cX4_isShown, 2, (some .boolean), (3, 61), 4, 258, []),
  (yX4_litOf, cX4_litOf, 2, (some .int), (4, 82), 4, 273, []),
  (yX4_burntLamps, cX4_burntLamps, 3, (some .int), (2, 40), 4, 245, []),
  (yX4_litLamps, cX4_litLamps, 3, (some .int), (5, 103), 4, 269, []),
  (yX4_fieldsWithDigit, cX4_fieldsWithDigit, 3, (some .int), (1, 20), 4, 250, []),
  (yX4_fieldsShown, cX4_fieldsShown, 3, (some .int), (4, 82), 4, 254, []),
  (yX4_numberShown, cX4_numberShown, 3, (some .int), (4, 82), 4, 282, []),
  (yJ6_bitCount_0f7a4, cJ6_bitCount_0f7a4, 1, (some .int), (1, 20), 99, 146, []),
  (yL_low, cL_low, 2, (some .int), (1, 20), 99, 307, []),
  (yL_cell, cL_cell, 2, (some .int), (1, 20), 99, 311, []),
  (yL_ones, cL_ones, 3, (some .int), (1, 20), 99, 378, []),
  (yL_show, cL_show, 4, (some .int), (7, 125), 99, 462, [(0, 6, 7, 15)]),
  (yL_number, cL_number, 3, (some .int), (7, 124), 99, 487, [(0, 5, 6, 15)]),
  (yL_undo, cL_undo, 2, (some .int), (8, 176), 99, 511, [(0, 4, 5, 15)]),
  (yL_field, cL_field, 12, (some .boolean), (7, 163), 99, 318, [])]
def mm_mt3 : List mm_MI := [(yL_board, cL_board, 8, (some .boolean), (8, 194), 99, 315, []),
  (yL_act, cL_act, 5, (some .int), (9, 197), 99, 431, []),
  (yL_law, cL_law, 13, (some .boolean), (10, 221), 99, 0, [])]
def mm_mt : List mm_MI := mm_mt0 ++ (mm_mt1 ++ (mm_mt2 ++ (mm_mt3)))
end
section
/-! ===== the mini machine: the same bytecode over a plain heap (positions, kinds, reference slots, int slots, long slots) ===== -/
abbrev mm_Hp : Type := (Nat × Nat × Nat) × (Nat → Nat × Nat) × (Nat → Nat → Nat) × (Nat → Nat → Int32) × (Nat → Nat → Int64) × Nat × (Nat → Int32)
abbrev mm_Res : Type := (Nat × Option Value) × mm_Hp
abbrev mm_St : Type := Nat × List Value × List Value × mm_Hp × Prop
def mm_n (h : mm_Hp) : Nat := h.1.1
def mm_c (h : mm_Hp) : Nat := h.1.2.1
def mm_s (h : mm_Hp) : Nat := h.1.2.2
def mm_K (h : mm_Hp) : Nat → Nat × Nat := h.2.1
def mm_R (h : mm_Hp) : Nat → Nat → Nat := h.2.2.1
def mm_I (h : mm_Hp) : Nat → Nat → Int32 := h.2.2.2.1
def mm_J (h : mm_Hp) : Nat → Nat → Int64 := h.2.2.2.2.1
def mm_L (h : mm_Hp) : Nat := h.2.2.2.2.2.1
def mm_X (h : mm_Hp) : Nat → Int32 := h.2.2.2.2.2.2
def mm_sR (h : mm_Hp) (v : Nat → Nat → Nat) : mm_Hp := (h.1, h.2.1, v, h.2.2.2)
def mm_sI (h : mm_Hp) (v : Nat → Nat → Int32) : mm_Hp := (h.1, h.2.1, h.2.2.1, v, h.2.2.2.2)
def mm_sJ (h : mm_Hp) (v : Nat → Nat → Int64) : mm_Hp := (h.1, h.2.1, h.2.2.1, h.2.2.2.1, v, h.2.2.2.2.2)
/-- a new cell of kind k with len places, that costs w slots -/
def mm_al (h : mm_Hp) (k len w : Nat) : mm_Hp := ((mm_n h + 1, mm_c h + 1, mm_s h + w), va_up (mm_K h) (mm_n h) (k, len), va_up (mm_R h) (mm_n h) (fun _ => 0), va_up (mm_I h) (mm_n h) (fun _ => 0), va_up (mm_J h) (mm_n h) (fun _ => 0), mm_L h, mm_X h)
/-- the cost of an exception -/
def mm_ex (h : mm_Hp) : mm_Hp := ((mm_n h, mm_c h + 1, mm_s h + 6), h.2)
def mm_SHP : Nat → Int32 := fun j => ([31599, 11114, 27499, 11415, 9362, 5705, 29671, 25251, 29351, 29647, 25230, 29390, 23497, 19401, 6009, 31183, 31118, 31178, 31215, 14831, 10666, 29257, 29266, 29348, 31727, 10922, 31407, 31695, 31690, 10958] : List Int32).getD j 0
def mm_lget : List Value → Nat → Value
  | [], _ => .null
  | v :: _, 0 => v
  | _ :: t, n + 1 => mm_lget t n
def mm_lset : List Value → Nat → Value → List Value
  | [], _, _ => []
  | _ :: t, 0, v => v :: t
  | a :: t, n + 1, v => a :: mm_lset t n v
def mm_two : Value → Bool
  | .long _ => true
  | .double _ => true
  | _ => false
def mm_pre (ls : List Value) : Nat → Bool
  | 0 => false
  | i + 1 => mm_two (mm_lget ls i)
def mm_ob (h : mm_Hp) (i ci : Nat) : Prop := i < mm_n h ∧ (mm_K h i).1 = ci
def mm_ar (h : mm_Hp) (i k : Nat) (x : Int32) : Prop := i < mm_n h ∧ (mm_K h i).1 = k ∧ vp_in x (mm_K h i).2
def mm_nf (ci : Nat) : Nat := match ci with | 0 => 6 | 1 => 3 | 2 => 3 | 3 => 2 | 4 => 5 | _ => 14
def mm_vok (n : Nat) (v : Value) : Prop := ∀ j : Nat, v = .ref j → j ≠ n
def mm_old (n : Nat) (v : Value) : Prop := ∀ j : Nat, v = .ref j → j < n ∨ 1000 ≤ j
def mm_fresh (ls st : List Value) (h : mm_Hp) : Prop := mm_n h < 1000 ∧ (∀ v ∈ ls ++ st, mm_vok (mm_n h) v) ∧ ∀ i, i < mm_n h → ∀ k, mm_R h i k ≠ mm_n h
-- ways of single instructions
def mm_ldI (np : Nat) (aux : List Nat) (ls st : List Value) (h : mm_Hp) : Option mm_St := match aux with
  | [i] => (match mm_lget ls i with | .int x => some (np, ls, .int x :: st, h, True) | _ => none)
  | _ => none
def mm_ldL (np : Nat) (aux : List Nat) (ls st : List Value) (h : mm_Hp) : Option mm_St := match aux with
  | [i] => (match mm_lget ls i with | .long x => some (np, ls, .long x :: st, h, True) | _ => none)
  | _ => none
def mm_ldD (np : Nat) (aux : List Nat) (ls st : List Value) (h : mm_Hp) : Option mm_St := match aux with
  | [i] => (match mm_lget ls i with | .double x => some (np, ls, .double x :: st, h, True) | _ => none)
  | _ => none
def mm_ldA (np : Nat) (aux : List Nat) (ls st : List Value) (h : mm_Hp) : Option mm_St := match aux with
  | [i] => (match mm_lget ls i with | .ref x => some (np, ls, .ref x :: st, h, True) | _ => none)
  | _ => none
def mm_stI (np : Nat) (aux : List Nat) (ls st : List Value) (h : mm_Hp) : Option mm_St := match aux, st with
  | [i], .int x :: r => bif mm_pre ls i then none else some (np, mm_lset ls i (.int x), r, h, i < ls.length)
  | _, _ => none
def mm_stA (np : Nat) (aux : List Nat) (ls st : List Value) (h : mm_Hp) : Option mm_St := match aux, st with
  | [i], .ref x :: r => bif mm_pre ls i then none else some (np, mm_lset ls i (.ref x), r, h, i < ls.length)
  | _, _ => none
def mm_stL (np : Nat) (aux : List Nat) (ls st : List Value) (h : mm_Hp) : Option mm_St := match aux, st with
  | [i], .long x :: r => bif mm_pre ls i then none else some (np, mm_lset (mm_lset ls i (.long x)) (i + 1) .null, r, h, i + 1 < ls.length)
  | _, _ => none
def mm_stD (np : Nat) (aux : List Nat) (ls st : List Value) (h : mm_Hp) : Option mm_St := match aux, st with
  | [i], .double x :: r => bif mm_pre ls i then none else some (np, mm_lset (mm_lset ls i (.double x)) (i + 1) .null, r, h, i + 1 < ls.length)
  | _, _ => none
def mm_inc (np : Nat) (v : Value) (aux : List Nat) (ls st : List Value) (h : mm_Hp) : Option mm_St := match aux, v with
  | [i], .int k => (match mm_lget ls i with | .int x => bif mm_pre ls i then none else some (np, mm_lset ls i (.int (x + k)), st, h, i < ls.length) | _ => none)
  | _, _ => none
def mm_b2 (f : Int32 → Int32 → Int32) (np : Nat) (ls st : List Value) (h : mm_Hp) : Option mm_St := match st with
  | .int y :: .int x :: r => some (np, ls, .int (f x y) :: r, h, True)
  | _ => none
def mm_d2 (f : Int32 → Int32 → Int32) (np : Nat) (ls st : List Value) (h : mm_Hp) : Option mm_St := match st with
  | .int y :: .int x :: r => some (np, ls, .int (f x y) :: r, h, ¬ y = 0)
  | _ => none
def mm_l2 (f : Int64 → Int64 → Int64) (np : Nat) (ls st : List Value) (h : mm_Hp) : Option mm_St := match st with
  | .long y :: .long x :: r => some (np, ls, .long (f x y) :: r, h, True)
  | _ => none
def mm_f2 (f : UInt64 → UInt64 → UInt64) (np : Nat) (ls st : List Value) (h : mm_Hp) : Option mm_St := match st with
  | .double y :: .double x :: r => some (np, ls, .double (f x y) :: r, h, vf_n64 (f x y))
  | _ => none
def mm_lsh (np : Nat) (ls st : List Value) (h : mm_Hp) : Option mm_St := match st with
  | .int y :: .long x :: r => some (np, ls, .long (x <<< (y.toInt64 &&& 63)) :: r, h, True)
  | _ => none
def mm_lcm (np : Nat) (ls st : List Value) (h : mm_Hp) : Option mm_St := match st with
  | .long y :: .long x :: r => some (np, ls, .int (lg_cmp x y) :: r, h, True)
  | _ => none
def mm_dcm (op : CmpOp) (np : Nat) (ls st : List Value) (h : mm_Hp) : Option mm_St := match st with
  | .double y :: .double x :: r => some (np, ls, .int (Op.cmpValue (FP.dcmp x y) op) :: r, h, True)
  | _ => none
def mm_i2l (np : Nat) (ls st : List Value) (h : mm_Hp) : Option mm_St := match st with
  | .int x :: r => some (np, ls, .long x.toInt64 :: r, h, True)
  | _ => none
def mm_i2d (np : Nat) (ls st : List Value) (h : mm_Hp) : Option mm_St := match st with
  | .int x :: r => some (np, ls, .double (FP.i2d x) :: r, h, True)
  | _ => none
def mm_i2c (np : Nat) (ls st : List Value) (h : mm_Hp) : Option mm_St := match st with
  | .int x :: r => some (np, ls, .int (x.toUInt32 % 65536).toInt32 :: r, h, True)
  | _ => none
def mm_d2l (np : Nat) (ls st : List Value) (h : mm_Hp) : Option mm_St := match st with
  | .double x :: r => some (np, ls, .long (FP.d2l x) :: r, h, True)
  | _ => none
def mm_dup (np : Nat) (ls st : List Value) (h : mm_Hp) : Option mm_St := match st with
  | v :: r => bif mm_two v then none else some (np, ls, v :: v :: r, h, True)
  | _ => none
def mm_dup2 (np : Nat) (ls st : List Value) (h : mm_Hp) : Option mm_St := match st with
  | v :: w :: r => bif mm_two v || mm_two w then none else some (np, ls, v :: w :: v :: w :: r, h, True)
  | _ => none
def mm_pop (np : Nat) (ls st : List Value) (h : mm_Hp) : Option mm_St := match st with
  | v :: r => bif mm_two v then none else some (np, ls, r, h, True)
  | _ => none
def mm_gf (np : Nat) (aux : List Nat) (ls st : List Value) (h : mm_Hp) : Option mm_St := match aux, st with
  | ci :: k :: fl :: _, .ref i :: r => (match fl with
    | 1 => some (np, ls, .ref (mm_R h i k) :: r, h, mm_ob h i ci ∧ mm_R h i k ≠ 0)
    | _ => some (np, ls, .int (mm_I h i k) :: r, h, mm_ob h i ci))
  | _, _ => none
def mm_pf (np : Nat) (aux : List Nat) (ls st : List Value) (h : mm_Hp) : Option mm_St := match aux, st with
  | ci :: k :: fl :: _, v :: .ref i :: r => (match fl, v with
    | 1, .ref j => some (np, ls, r, mm_sR h (va_up (mm_R h) i (va_up (mm_R h i) k j)), mm_ob h i ci ∧ j ≠ 0)
    | 2, .int x => some (np, ls, r, mm_sI h (va_up (mm_I h) i (upd (mm_I h i) k x)), mm_ob h i ci ∧ (x = 0 ∨ x = 1))
    | 0, .int x => some (np, ls, r, mm_sI h (va_up (mm_I h) i (upd (mm_I h i) k x)), mm_ob h i ci)
    | _, _ => none)
  | _, _ => none
def mm_ial (np : Nat) (aux : List Nat) (ls st : List Value) (h : mm_Hp) : Option mm_St := match aux, st with
  | [0], .int x :: .ref i :: r => some (np, ls, .int (mm_I h i x.toNatClampNeg) :: r, h, mm_ar h i 10 x)
  | [1], .int x :: .ref i :: r => some (np, ls, .int (mm_X h x.toNatClampNeg) :: r, h, i = 1001 ∧ vp_in x (mm_L h))
  | [2], .int x :: .ref i :: r => some (np, ls, .int (mm_SHP x.toNatClampNeg) :: r, h, i = 1000 ∧ vp_in x 30)
  | _, _ => none
def mm_cal (np : Nat) (ls st : List Value) (h : mm_Hp) : Option mm_St := match st with
  | .int x :: .ref i :: r => some (np, ls, .int (mm_I h i x.toNatClampNeg) :: r, h, mm_ar h i 11 x)
  | _ => none
def mm_lal (np : Nat) (ls st : List Value) (h : mm_Hp) : Option mm_St := match st with
  | .int x :: .ref i :: r => some (np, ls, .long (mm_J h i x.toNatClampNeg) :: r, h, mm_ar h i 12 x)
  | _ => none
def mm_aal (np : Nat) (ls st : List Value) (h : mm_Hp) : Option mm_St := match st with
  | .int x :: .ref i :: r => some (np, ls, .ref (mm_R h i x.toNatClampNeg) :: r, h, (mm_ar h i 13 x ∨ mm_ar h i 14 x) ∧ mm_R h i x.toNatClampNeg ≠ 0)
  | _ => none
def mm_ias (np : Nat) (ls st : List Value) (h : mm_Hp) : Option mm_St := match st with
  | .int x :: .int j :: .ref i :: r => some (np, ls, r, mm_sI h (va_up (mm_I h) i (upd (mm_I h i) j.toNatClampNeg x)), mm_ar h i 10 j)
  | _ => none
def mm_cas (np : Nat) (ls st : List Value) (h : mm_Hp) : Option mm_St := match st with
  | .int x :: .int j :: .ref i :: r => some (np, ls, r, mm_sI h (va_up (mm_I h) i (upd (mm_I h i) j.toNatClampNeg x)), mm_ar h i 11 j ∧ vp_nar .char x = x)
  | _ => none
def mm_las (np : Nat) (ls st : List Value) (h : mm_Hp) : Option mm_St := match st with
  | .long x :: .int j :: .ref i :: r => some (np, ls, r, mm_sJ h (va_up (mm_J h) i (vp_updL (mm_J h i) j.toNatClampNeg x)), mm_ar h i 12 j)
  | _ => none
def mm_aas (np : Nat) (ls st : List Value) (h : mm_Hp) : Option mm_St := match st with
  | .ref q :: .int j :: .ref i :: r => some (np, ls, r, mm_sR h (va_up (mm_R h) i (va_up (mm_R h i) j.toNatClampNeg q)), (mm_ar h i 13 j ∧ mm_ob h q 2 ∨ mm_ar h i 14 j ∧ mm_ob h q 0) ∧ q ≠ 0)
  | _ => none
def mm_alen (np : Nat) (ls st : List Value) (h : mm_Hp) : Option mm_St := match st with
  | .ref i :: r => some (np, ls, .int (nI (mm_L h)) :: r, h, i = 1001)
  | _ => none
def mm_nar (np : Nat) (aux : List Nat) (ls st : List Value) (h : mm_Hp) : Option mm_St := match aux, st with
  | k :: _, .int x :: r => some (np, ls, .ref (mm_n h) :: r, mm_al h k x.toNatClampNeg x.toNatClampNeg, ¬ x < 0 ∧ x.toNatClampNeg ≤ 1000 ∧ mm_fresh ls r h)
  | _, _ => none
def mm_new (np : Nat) (aux : List Nat) (ls st : List Value) (h : mm_Hp) : Option mm_St := match aux with
  | 0 :: ci :: N :: _ => some (np, ls, .ref (mm_n h) :: st, mm_al h ci N N, mm_fresh ls st h)
  | _ => none
def mm_inv (np : Nat) (aux : List Nat) (ls st : List Value) (h : mm_Hp) : Option mm_St := match aux, st with
  | 0 :: _, .ref _ :: r => some (np, ls, r, h, (r.map Value.category).sum ≤ 8)
  | 7 :: _, .int n :: .int dp :: .ref b :: .int sp :: .ref a :: r => some (np, ls, r, mm_sI h (va_up (mm_I h) b (va_cpy (mm_I h a) (mm_I h b) sp.toNatClampNeg dp.toNatClampNeg n.toNatClampNeg)), mm_ob h a 10 ∧ mm_ob h b 10 ∧ ¬ sp < 0 ∧ ¬ dp < 0 ∧ ¬ n < 0 ∧ sp.toNatClampNeg + n.toNatClampNeg ≤ (mm_K h a).2 ∧ dp.toNatClampNeg + n.toNatClampNeg ≤ (mm_K h b).2 ∧ (r.map Value.category).sum ≤ 8)
  | 8 :: _, .double b :: r => some (np, ls, .long b.toInt64 :: r, h, (r.map Value.category).sum ≤ 8)
  | _, _ => none
/-- one step of an instruction that neither branches nor calls nor leaves: next place, locals, stack, heap; what must hold -/
def mm_stp (e : mm_En) (ls st : List Value) (h : mm_Hp) : Option mm_St := match e with
  | (ins, np, v, aux) => match ins with
    | .iconst _ => some (np, ls, v :: st, h, True)
    | .bipush _ => some (np, ls, v :: st, h, True)
    | .sipush _ => some (np, ls, v :: st, h, True)
    | .lconst _ => some (np, ls, v :: st, h, True)
    | .dconst _ => some (np, ls, v :: st, h, True)
    | .ldc _ => some (np, ls, v :: st, h, True)
    | .ldc_w _ => some (np, ls, v :: st, h, True)
    | .ldc2_w _ => some (np, ls, v :: st, h, True)
    | .iload _ => mm_ldI np aux ls st h
    | .iload_n _ => mm_ldI np aux ls st h
    | .lload _ => mm_ldL np aux ls st h
    | .lload_n _ => mm_ldL np aux ls st h
    | .dload _ => mm_ldD np aux ls st h
    | .dload_n _ => mm_ldD np aux ls st h
    | .aload _ => mm_ldA np aux ls st h
    | .aload_n _ => mm_ldA np aux ls st h
    | .istore _ => mm_stI np aux ls st h
    | .istore_n _ => mm_stI np aux ls st h
    | .lstore _ => mm_stL np aux ls st h
    | .lstore_n _ => mm_stL np aux ls st h
    | .dstore _ => mm_stD np aux ls st h
    | .dstore_n _ => mm_stD np aux ls st h
    | .astore _ => mm_stA np aux ls st h
    | .astore_n _ => mm_stA np aux ls st h
    | .iinc _ _ => mm_inc np v aux ls st h
    | .iadd => mm_b2 (fun x y => x + y) np ls st h
    | .isub => mm_b2 (fun x y => x - y) np ls st h
    | .imul => mm_b2 (fun x y => x * y) np ls st h
    | .iand => mm_b2 (fun x y => x &&& y) np ls st h
    | .ior => mm_b2 (fun x y => x ||| y) np ls st h
    | .ixor => mm_b2 (fun x y => x ^^^ y) np ls st h
    | .ishl => mm_b2 (fun x y => x <<< (y &&& 31)) np ls st h
    | .iushr => mm_b2 (fun x y => (x.toUInt32 >>> (y.toUInt32 &&& Int32.toUInt32 31)).toInt32) np ls st h
    | .ishr => mm_b2 (fun x y => x >>> (y &&& 31)) np ls st h
    | .idiv => mm_d2 (fun x y => x / y) np ls st h
    | .irem => mm_d2 (fun x y => x - x / y * y) np ls st h
    | .ladd => mm_l2 (fun x y => x + y) np ls st h
    | .lmul => mm_l2 (fun x y => x * y) np ls st h
    | .lshl => mm_lsh np ls st h
    | .lcmp => mm_lcm np ls st h
    | .i2l => mm_i2l np ls st h
    | .i2d => mm_i2d np ls st h
    | .i2c => mm_i2c np ls st h
    | .d2l => mm_d2l np ls st h
    | .dmul => mm_f2 FP.dmul np ls st h
    | .dsub => mm_f2 FP.dsub np ls st h
    | .ddiv => mm_f2 FP.ddiv np ls st h
    | .dcmp op => mm_dcm op np ls st h
    | .dup => mm_dup np ls st h
    | .dup2 => mm_dup2 np ls st h
    | .pop => mm_pop np ls st h
    | .goto _ => (match aux with | [t] => some (t, ls, st, h, True) | _ => none)
    | .getfield _ => mm_gf np aux ls st h
    | .putfield _ => mm_pf np aux ls st h
    | .getstatic _ => some (np, ls, .ref 1000 :: st, h, True)
    | .iaload => mm_ial np aux ls st h
    | .caload => mm_cal np ls st h
    | .laload => mm_lal np ls st h
    | .aaload => mm_aal np ls st h
    | .iastore => mm_ias np ls st h
    | .castore => mm_cas np ls st h
    | .lastore => mm_las np ls st h
    | .aastore => mm_aas np ls st h
    | .arraylength => mm_alen np ls st h
    | .newarray _ => mm_nar np aux ls st h
    | .anewarray _ => mm_nar np aux ls st h
    | .new _ => mm_new np aux ls st h
    | .invokespecial _ => mm_inv np aux ls st h
    | .invokestatic _ => mm_inv np aux ls st h
    | _ => none
def mm_cz (c : Jvm.ClassFile.Cond) (x : Int32) : Prop := match c with
  | .eq => x = 0 | .ne => ¬ x = 0 | .lt => x < 0 | .ge => 0 ≤ x | .gt => 0 < x | .le => x ≤ 0
def mm_c2 (c : Jvm.ClassFile.Cond) (x y : Int32) : Prop := match c with
  | .eq => x = y | .ne => ¬ x = y | .lt => x < y | .ge => y ≤ x | .gt => y < x | .le => x ≤ y
def mm_tsw (d : Nat) (ts : List Nat) (x : Int32) : Nat := if x.toInt < 0 then d else ts.getD x.toInt.toNat d
def mm_lsw (d : Nat) : List Nat → Int32 → Nat
  | a :: t :: r, x => if x.toInt = (a : Int) then t else mm_lsw d r x
  | _, _ => d
def mm_spread : List Value → List Value
  | [] => []
  | v :: t => (bif mm_two v then [v, .null] else [v]) ++ mm_spread t
def mm_ent (L : Nat) (args : List Value) : List Value := mm_spread args ++ List.replicate (L - (mm_spread args).length) .null
def mm_recv (ck ci : Nat) (args : List Value) (h : mm_Hp) : Prop := match ck with
  | 1 => (match args with | .ref a :: _ => mm_ob h a ci | _ => False)
  | 4 => (match args with | .ref a :: _ => mm_ob h a ci | _ => False)
  | 3 => (match args with | .ref _ :: _ => True | _ => False)
  | 6 => (match args with | .ref _ :: _ => True | _ => False)
  | _ => True
def mm_hand (mi E : Nat) : Option (Nat × Nat) := ((mm_hl mi).find? (fun q => Nat.beq q.1 E)).map (fun q => (q.2.2.2, q.2.2.1))
abbrev mm_Kt : Type := Nat → Nat → List Value → List Value → mm_Hp → mm_Res → Prop
def mm_call (k : mm_Kt) (mi np ck mj na L ci : Nat) (ls st : List Value) (h : mm_Hp) (r : mm_Res) : Prop :=
  na ≤ st.length ∧ ((st.drop na).map Value.category).sum ≤ 8 ∧ mm_recv ck ci (st.take na).reverse h ∧ (mm_spread (st.take na).reverse).length ≤ L ∧
  ∃ r' : mm_Res, k mj 0 (mm_ent L (st.take na).reverse) [] h r' ∧ (mm_n r'.2 = mm_n h ∨ ∀ v ∈ ls ++ st.drop na, mm_old (mm_n h) v) ∧
    ((r'.1.1 = 0 ∧ k mi np ls (r'.1.2.toList ++ st.drop na) r'.2 r) ∨ ∃ q : Nat × Nat, r'.1.1 ≠ 0 ∧ mm_hand mi r'.1.1 = some q ∧ mm_pre ls q.2 = false ∧ k mi q.1 (mm_lset ls q.2 .null) [] r'.2 r)
def mm_seq (k : mm_Kt) (mi : Nat) (e : mm_En) (ls st : List Value) (h : mm_Hp) (r : mm_Res) : Prop :=
  match mm_stp e ls st h with | some (pc', ls', st', h', P) => P ∧ k mi pc' ls' st' h' r | none => False
def mm_cl9 (k : mm_Kt) (mi : Nat) (e : mm_En) (ls st : List Value) (h : mm_Hp) (r : mm_Res) : Prop :=
  match e.2.2.2 with
  | ck :: mj :: na :: L :: aux => (match ck with
    | 0 => mm_seq k mi e ls st h r
    | 7 => mm_seq k mi e ls st h r
    | 8 => mm_seq k mi e ls st h r
    | _ => mm_call k mi e.2.1 ck mj na L (aux.headD 99) ls st h r)
  | _ => False
def mm_act (k : mm_Kt) (mi : Nat) (e : mm_En) (ls st : List Value) (h : mm_Hp) (r : mm_Res) : Prop :=
  match e.1 with
  | .ireturn => (match e.2.2.2, st with
    | [0], [.int v] => r = ((0, some (.int v)), h)
    | [1], [.int v] => r = ((0, some (.int v)), h) ∧ (v = 0 ∨ v = 1)
    | [2], [.int v] => r = ((0, some (.int v)), h) ∧ vp_nar .char v = v
    | _, _ => False)
  | .lreturn => (match st with | [.long v] => r = ((0, some (.long v)), h) | _ => False)
  | .dreturn => (match st with | [.double v] => r = ((0, some (.double v)), h) | _ => False)
  | .return_ => (match st with | [] => r = ((0, none), h) | _ => False)
  | .ifCond c _ => (match e.2.2.2, st with
    | [t], .int x :: q => (mm_cz c x → k mi t ls q h r) ∧ (¬ mm_cz c x → k mi e.2.1 ls q h r)
    | _, _ => False)
  | .if_icmp c _ => (match e.2.2.2, st with
    | [t], .int y :: .int x :: q => (mm_c2 c x y → k mi t ls q h r) ∧ (¬ mm_c2 c x y → k mi e.2.1 ls q h r)
    | _, _ => False)
  | .tableswitch _ _ _ _ => (match e.2.2.2, st with
    | d :: ts, .int x :: q => k mi (mm_tsw d ts x) ls q h r
    | _, _ => False)
  | .lookupswitch _ _ => (match e.2.2.2, st with
    | d :: ps, .int x :: q => k mi (mm_lsw d ps x) ls q h r
    | _, _ => False)
  | .new _ => (match e.2.2.2 with
    | 1 :: E :: _ => r = ((E, none), mm_ex h) ∧ (st.map Value.category).sum ≤ 8
    | _ => mm_seq k mi e ls st h r)
  | .invokevirtual _ => mm_cl9 k mi e ls st h r
  | .invokestatic _ => mm_cl9 k mi e ls st h r
  | .invokespecial _ => mm_cl9 k mi e ls st h r
  | _ => mm_seq k mi e ls st h r
/-- from the method mi at pc with locals, stack and heap the machine comes to the answer r, in at most so many steps (calls nested) -/
def mm_Rn : Nat → mm_Kt
  | 0 => fun _ _ _ _ _ _ => False
  | n + 1 => fun mi pc ls st h r => match mm_code mi pc with
    | none => False
    | some e => mm_act (mm_Rn n) mi e ls st h r
def mm_Ru (mi pc : Nat) (ls st : List Value) (h : mm_Hp) (r : mm_Res) : Prop := ∃ n, mm_Rn n mi pc ls st h r
def mm_le (k k' : mm_Kt) : Prop := ∀ mi pc ls st h r, k mi pc ls st h r → k' mi pc ls st h r
theorem mm_seq_mono {k k' : mm_Kt} (hk : mm_le k k') {mi : Nat} {e : mm_En} {ls st : List Value} {h : mm_Hp} {r : mm_Res} (x : mm_seq k mi e ls st h r) : mm_seq k' mi e ls st h r := by
  unfold mm_seq at x ⊢
  split at x
  · exact ⟨x.1, hk _ _ _ _ _ _ x.2⟩
  · exact x
theorem mm_call_mono {k k' : mm_Kt} (hk : mm_le k k') {mi np ck mj na L ci : Nat} {ls st : List Value} {h : mm_Hp} {r : mm_Res} (x : mm_call k mi np ck mj na L ci ls st h r) : mm_call k' mi np ck mj na L ci ls st h r := by
  obtain ⟨a1, a2, a3, a4, r', b1, b2, b3⟩ := x
  refine ⟨a1, a2, a3, a4, r', hk _ _ _ _ _ _ b1, b2, ?_⟩
  rcases b3 with ⟨c1, c2⟩ | ⟨q, c1, c2, c4, c3⟩
  · exact Or.inl ⟨c1, hk _ _ _ _ _ _ c2⟩
  · exact Or.inr ⟨q, c1, c2, c4, hk _ _ _ _ _ _ c3⟩
theorem mm_cl9_mono {k k' : mm_Kt} (hk : mm_le k k') {mi : Nat} {e : mm_En} {ls st : List Value} {h : mm_Hp} {r : mm_Res} (x : mm_cl9 k mi e ls st h r) : mm_cl9 k' mi e ls st h r := by
  unfold mm_cl9 at x ⊢
  split at x
  · split at x
    · exact mm_seq_mono hk x
    · exact mm_seq_mono hk x
    · exact mm_seq_mono hk x
    · exact mm_call_mono hk x
  · exact x
end
section
/-! ===== rules of the mini machine ===== -/
set_option maxHeartbeats 4000000 in
theorem mm_act_mono {k k' : mm_Kt} (hk : mm_le k k') {mi : Nat} {e : mm_En} {ls st : List Value} {h : mm_Hp} {r : mm_Res} (x : mm_act k mi e ls st h r) : mm_act k' mi e ls st h r := by
  obtain ⟨ins, np, v, aux⟩ := e
  cases ins <;> simp only [mm_act] at x ⊢ <;> first
    | exact mm_seq_mono hk x
    | exact mm_cl9_mono hk x
    | exact x
    | (split at x
       · first
         | exact ⟨fun c => hk _ _ _ _ _ _ (x.1 c), fun c => hk _ _ _ _ _ _ (x.2 c)⟩
         | exact hk _ _ _ _ _ _ x
         | exact x
       · first
         | exact mm_seq_mono hk x
         | exact x)
theorem mm_Rn_mono : ∀ (n : Nat), mm_le (mm_Rn n) (mm_Rn (n + 1)) := by
  intro n
  induction n with
  | zero => intro mi pc ls st h r x; exact x.elim
  | succ n ih =>
    intro mi pc ls st h r x
    show (match mm_code mi pc with | none => False | some e => mm_act (mm_Rn (n + 1)) mi e ls st h r)
    have x' : (match mm_code mi pc with | none => False | some e => mm_act (mm_Rn n) mi e ls st h r) := x
    split at x'
    · exact x'
    · exact mm_act_mono ih x'
theorem mm_Rn_le {n m : Nat} (h : n ≤ m) : mm_le (mm_Rn n) (mm_Rn m) := by
  induction h with
  | refl => intro _ _ _ _ _ _ x; exact x
  | step _ ih => intro mi pc ls st h r x; exact mm_Rn_mono _ _ _ _ _ _ _ (ih _ _ _ _ _ _ x)
theorem mm_of_act {n mi pc : Nat} {ls st : List Value} {h : mm_Hp} {r : mm_Res} {e : mm_En} (he : mm_code mi pc = some e) (x : mm_act (mm_Rn n) mi e ls st h r) : mm_Ru mi pc ls st h r := by
  refine ⟨n + 1, ?_⟩
  show (match mm_code mi pc with | none => False | some e => mm_act (mm_Rn n) mi e ls st h r)
  rw [he]
  exact x
/-- the ways of control: which instructions 'mm_stp' steps -/
def mm_pl (e : mm_En) : Bool := match e.1 with
  | .ireturn => false | .lreturn => false | .dreturn => false | .return_ => false
  | .ifCond _ _ => false | .if_icmp _ _ => false | .tableswitch _ _ _ _ => false | .lookupswitch _ _ => false
  | .new _ => (match e.2.2.2 with | 1 :: _ :: _ => false | _ => true)
  | .invokevirtual _ => false
  | .invokestatic _ => (match e.2.2.2 with | 0 :: _ :: _ :: _ :: _ => true | 7 :: _ :: _ :: _ :: _ => true | 8 :: _ :: _ :: _ :: _ => true | _ => false)
  | .invokespecial _ => (match e.2.2.2 with | 0 :: _ :: _ :: _ :: _ => true | 7 :: _ :: _ :: _ :: _ => true | 8 :: _ :: _ :: _ :: _ => true | _ => false)
  | _ => true
set_option maxHeartbeats 4000000 in
theorem mm_act_pl {k : mm_Kt} {mi : Nat} {e : mm_En} {ls st : List Value} {h : mm_Hp} {r : mm_Res} (hp : mm_pl e = true) (x : mm_seq k mi e ls st h r) : mm_act k mi e ls st h r := by
  obtain ⟨ins, np, v, aux⟩ := e
  cases ins <;> first
    | exact x
    | (simp [mm_pl] at hp; done)
    | (simp only [mm_pl] at hp
       simp only [mm_act, mm_cl9]
       split at hp
       · first | exact absurd hp (by decide) | exact x
       · first | exact absurd hp (by decide) | exact x
       · exact x
       · exact absurd hp (by decide))
    | (simp only [mm_pl] at hp
       simp only [mm_act, mm_cl9]
       split at hp
       · exact absurd hp (by decide)
       · split <;> first | exact x | (exfalso; simp_all; done))
/-- the place, its entry, and one step -/
theorem mm_step {mi pc pc' : Nat} {ls ls' st st' : List Value} {h h' : mm_Hp} {r : mm_Res} {P : Prop} {e : mm_En} (he : mm_code mi pc = some e) (hp : mm_pl e = true) (hs : mm_stp e ls st h = some (pc', ls', st', h', P)) (hP : P) (k : mm_Ru mi pc' ls' st' h' r) : mm_Ru mi pc ls st h r := by
  obtain ⟨n, k⟩ := k
  refine mm_of_act he (n := n) (mm_act_pl hp ?_)
  unfold mm_seq
  rw [hs]
  exact ⟨hP, k⟩
theorem mm_ifz {mi pc t np : Nat} {ls q : List Value} {h : mm_Hp} {r : mm_Res} {c : Jvm.ClassFile.Cond} {o : Int} {v : Value} {x : Int32} (he : mm_code mi pc = some (.ifCond c o, np, v, [t])) (k1 : mm_cz c x → mm_Ru mi t ls q h r) (k2 : ¬ mm_cz c x → mm_Ru mi np ls q h r) : mm_Ru mi pc ls (.int x :: q) h r := by
  by_cases hc : mm_cz c x
  · obtain ⟨n, k⟩ := k1 hc
    exact mm_of_act he (n := n) ⟨fun _ => k, fun z => absurd hc z⟩
  · obtain ⟨n, k⟩ := k2 hc
    exact mm_of_act he (n := n) ⟨fun z => absurd z hc, fun _ => k⟩
theorem mm_if2 {mi pc t np : Nat} {ls q : List Value} {h : mm_Hp} {r : mm_Res} {c : Jvm.ClassFile.Cond} {o : Int} {v : Value} {x y : Int32} (he : mm_code mi pc = some (.if_icmp c o, np, v, [t])) (k1 : mm_c2 c x y → mm_Ru mi t ls q h r) (k2 : ¬ mm_c2 c x y → mm_Ru mi np ls q h r) : mm_Ru mi pc ls (.int y :: .int x :: q) h r := by
  by_cases hc : mm_c2 c x y
  · obtain ⟨n, k⟩ := k1 hc
    exact mm_of_act he (n := n) ⟨fun _ => k, fun z => absurd hc z⟩
  · obtain ⟨n, k⟩ := k2 hc
    exact mm_of_act he (n := n) ⟨fun z => absurd z hc, fun _ => k⟩
theorem mm_tab {mi pc np d : Nat} {ts : List Nat} {ls q : List Value} {h : mm_Hp} {r : mm_Res} {a b c : Int} {o : Array Int} {v : Value} {x : Int32} (he : mm_code mi pc = some (.tableswitch a b c o, np, v, d :: ts)) (t : Nat) (ht : mm_tsw d ts x = t) (k : mm_Ru mi t ls q h r) : mm_Ru mi pc ls (.int x :: q) h r := by
  subst ht
  obtain ⟨n, k⟩ := k
  exact mm_of_act he (n := n) k
theorem mm_lok {mi pc np d : Nat} {ts : List Nat} {ls q : List Value} {h : mm_Hp} {r : mm_Res} {a : Int} {o : Array (Int × Int)} {v : Value} {x : Int32} (he : mm_code mi pc = some (.lookupswitch a o, np, v, d :: ts)) (t : Nat) (ht : mm_lsw d ts x = t) (k : mm_Ru mi t ls q h r) : mm_Ru mi pc ls (.int x :: q) h r := by
  subst ht
  obtain ⟨n, k⟩ := k
  exact mm_of_act he (n := n) k
theorem mm_reti {mi pc np : Nat} {ls : List Value} {h : mm_Hp} {v : Value} {x : Int32} (he : mm_code mi pc = some (.ireturn, np, v, [0])) : mm_Ru mi pc ls [.int x] h ((0, some (.int x)), h) := mm_of_act he (n := 0) rfl
theorem mm_retz {mi pc np : Nat} {ls : List Value} {h : mm_Hp} {v : Value} {x : Int32} (he : mm_code mi pc = some (.ireturn, np, v, [1])) (hx : x = 0 ∨ x = 1) : mm_Ru mi pc ls [.int x] h ((0, some (.int x)), h) := mm_of_act he (n := 0) ⟨rfl, hx⟩
theorem mm_retc {mi pc np : Nat} {ls : List Value} {h : mm_Hp} {v : Value} {x : Int32} (he : mm_code mi pc = some (.ireturn, np, v, [2])) (hx : vp_nar .char x = x) : mm_Ru mi pc ls [.int x] h ((0, some (.int x)), h) := mm_of_act he (n := 0) ⟨rfl, hx⟩
theorem mm_retl {mi pc np : Nat} {ls : List Value} {h : mm_Hp} {v : Value} {x : Int64} {a : List Nat} (he : mm_code mi pc = some (.lreturn, np, v, a)) : mm_Ru mi pc ls [.long x] h ((0, some (.long x)), h) := mm_of_act he (n := 0) rfl
theorem mm_retd {mi pc np : Nat} {ls : List Value} {h : mm_Hp} {v : Value} {x : UInt64} {a : List Nat} (he : mm_code mi pc = some (.dreturn, np, v, a)) : mm_Ru mi pc ls [.double x] h ((0, some (.double x)), h) := mm_of_act he (n := 0) rfl
theorem mm_retv {mi pc np : Nat} {ls : List Value} {h : mm_Hp} {v : Value} {a : List Nat} (he : mm_code mi pc = some (.return_, np, v, a)) : mm_Ru mi pc ls [] h ((0, none), h) := mm_of_act he (n := 0) rfl
theorem mm_thr {mi pc np E i : Nat} {ls st : List Value} {h : mm_Hp} {v : Value} {a : List Nat} (he : mm_code mi pc = some (.new i, np, v, 1 :: E :: a)) (hs : (st.map Value.category).sum ≤ 8) : mm_Ru mi pc ls st h ((E, none), mm_ex h) := mm_of_act he (n := 0) ⟨rfl, hs⟩
/-- a call whose method answers -/
theorem mm_cal_of {mi np ck mj na L : Nat} {aux : List Nat} {ls st : List Value} {h h1 : mm_Hp} {r : mm_Res} {vo : Option Value} {n : Nat}
    (hn : na ≤ st.length) (hcat : ((st.drop na).map Value.category).sum ≤ 8) (hr : mm_recv ck (aux.headD 99) (st.take na).reverse h) (hL : (mm_spread (st.take na).reverse).length ≤ L)
    (hc : mm_Rn n mj 0 (mm_ent L (st.take na).reverse) [] h ((0, vo), h1)) (ho : mm_n h1 = mm_n h ∨ ∀ v ∈ ls ++ st.drop na, mm_old (mm_n h) v)
    (k : mm_Rn n mi np ls (vo.toList ++ st.drop na) h1 r) : mm_call (mm_Rn n) mi np ck mj na L (aux.headD 99) ls st h r :=
  ⟨hn, hcat, hr, hL, _, hc, ho, Or.inl ⟨rfl, k⟩⟩
/-- what a call does, said of a method: with these arguments it comes to this answer -/
def mm_Me (mj L : Nat) (args : List Value) (h : mm_Hp) (r : mm_Res) : Prop := mm_Ru mj 0 (mm_ent L args) [] h r
def mm_isc (e : mm_En) (ck mj na L : Nat) (aux : List Nat) : Prop := e.2.2.2 = ck :: mj :: na :: L :: aux ∧ ck ≠ 0 ∧ ck ≠ 7 ∧ ck ≠ 8 ∧ ((∃ i, e.1 = .invokevirtual i) ∨ (∃ i, e.1 = .invokestatic i) ∨ (∃ i, e.1 = .invokespecial i))
theorem mm_act_call {k : mm_Kt} {mi ck mj na L : Nat} {aux : List Nat} {e : mm_En} {ls st : List Value} {h : mm_Hp} {r : mm_Res} (hi : mm_isc e ck mj na L aux) (x : mm_call k mi e.2.1 ck mj na L (aux.headD 99) ls st h r) : mm_act k mi e ls st h r := by
  obtain ⟨h1, h2, h3, h4, h5⟩ := hi
  have key : mm_cl9 k mi e ls st h r := by
    unfold mm_cl9
    rw [h1]
    dsimp only
    split
    · exact absurd rfl h2
    · exact absurd rfl h3
    · exact absurd rfl h4
    · exact x
  obtain ⟨ins, np, v, a⟩ := e
  rcases h5 with ⟨i, h5⟩ | ⟨i, h5⟩ | ⟨i, h5⟩ <;> (dsimp only at h5; subst h5; exact key)
theorem mm_cll {mi pc ck mj na L : Nat} {aux : List Nat} {e : mm_En} {ls st args : List Value} {h h1 : mm_Hp} {r : mm_Res} {vo : Option Value}
    (he : mm_code mi pc = some e) (hi : mm_isc e ck mj na L aux) (ha : (st.take na).reverse = args) (hc : mm_Me mj L args h ((0, vo), h1))
    (hn : na ≤ st.length) (hcat : ((st.drop na).map Value.category).sum ≤ 8) (hr : mm_recv ck (aux.headD 99) args h) (hL : (mm_spread args).length ≤ L)
    (ho : mm_n h1 = mm_n h ∨ ∀ v ∈ ls ++ st.drop na, mm_old (mm_n h) v)
    (k : mm_Ru mi e.2.1 ls (vo.toList ++ st.drop na) h1 r) : mm_Ru mi pc ls st h r := by
  subst ha
  obtain ⟨n1, hc⟩ := hc
  obtain ⟨n2, k⟩ := k
  refine mm_of_act he (n := n1 + n2) (mm_act_call hi (mm_cal_of hn hcat hr hL (mm_Rn_le (Nat.le_add_right n1 n2) _ _ _ _ _ _ hc) ho (mm_Rn_le (Nat.le_add_left n2 n1) _ _ _ _ _ _ k)))
/-- a call whose method throws, caught here -/
theorem mm_clx {mi pc ck mj na L E : Nat} {aux : List Nat} {e : mm_En} {ls st args : List Value} {h h1 : mm_Hp} {r : mm_Res} {q : Nat × Nat}
    (he : mm_code mi pc = some e) (hi : mm_isc e ck mj na L aux) (ha : (st.take na).reverse = args) (hc : mm_Me mj L args h ((E, none), h1))
    (hn : na ≤ st.length) (hcat : ((st.drop na).map Value.category).sum ≤ 8) (hr : mm_recv ck (aux.headD 99) args h) (hL : (mm_spread args).length ≤ L)
    (ho : mm_n h1 = mm_n h ∨ ∀ v ∈ ls ++ st.drop na, mm_old (mm_n h) v) (hE : E ≠ 0) (hq : mm_hand mi E = some q) (hpre : mm_pre ls q.2 = false)
    (k : mm_Ru mi q.1 (mm_lset ls q.2 .null) [] h1 r) : mm_Ru mi pc ls st h r := by
  subst ha
  obtain ⟨n1, hc⟩ := hc
  obtain ⟨n2, k⟩ := k
  exact mm_of_act he (n := n1 + n2) (mm_act_call hi ⟨hn, hcat, hr, hL, _, mm_Rn_le (Nat.le_add_right n1 n2) _ _ _ _ _ _ hc, ho, Or.inr ⟨q, hE, hq, hpre, mm_Rn_le (Nat.le_add_left n2 n1) _ _ _ _ _ _ k⟩⟩)
end
section
/-! ===== what is checked of the program table, by computation ===== -/
def mm_row (mi : Nat) : mm_MI := mm_mt.getD mi (⟨"", "", ""⟩, ByteArray.empty, 0, none, (0, 0), 0, 0, [])
def mm_y (mi : Nat) : MethodName := (mm_row mi).1
def mm_b (mi : Nat) : ByteArray := (mm_row mi).2.1
def mm_ml (mi : Nat) : Nat := (mm_row mi).2.2.1
def mm_rt (mi : Nat) : Option FieldType := (mm_row mi).2.2.2.1
def mm_fr (mi : Nat) : Nat := (mm_row mi).2.2.2.2.1.1
def mm_lo (mi : Nat) : Nat := (mm_row mi).2.2.2.2.1.2
def mm_hh (mi : Nat) : List (Nat × Nat × Nat × Nat) := (mm_row mi).2.2.2.2.2.2.2
def mm_w (i : Nat) (w : Jvm.Cond) : Bool := decide (lw_tbl[i]? = some w)
/-- the kind of a field: 0 a whole number, 1 a reference, 2 a truth value -/
def mm_ft (ci k : Nat) : Nat := match ci, k with
  | 0, 4 => 0 | 0, 5 => 0 | 0, _ => 1
  | 1, 0 => 1 | 1, _ => 0
  | 2, _ => 1
  | 3, 0 => 1 | 3, _ => 0
  | 4, _ => 1
  | _, 3 => 0 | _, 5 => 0 | _, 6 => 0 | _, 7 => 0 | _, 8 => 2 | _, 10 => 0 | _, _ => 1
def mm_exn (E : Nat) : String := match E with | 1 => "java/lang/IndexOutOfBoundsException" | 2 => "java/lang/IllegalArgumentException" | _ => "java/lang/IllegalStateException"
def mm_exi (E : Nat) : Nat := match E with | 1 => 52 | 2 => 62 | _ => 70
def mm_okF (mi idx : Nat) (aux : List Nat) (put : Bool) : Bool := match aux with
  | [ci, k, fl, ne, wi, fin] => (match mm_cl[ci]? with
    | some (C, T, N) => decide (k < N) && decide (N = mm_nf ci) && decide (fl = mm_ft ci k) &&
        (match ne with
         | 0 => mm_w wi (.fieldLink (mm_y mi).cls idx (T k).1 (T k).2.1 (T k).2.2.1)
         | _ => mm_w wi (.fieldLinkNest (mm_y mi).cls idx (T k).1 (T k).2.1 (T k).2.2.1 "BulbShapes")) &&
        (!put || (match fin with
         | 0 => decide ((T k).2.2.2 = false)
         | _ => decide ((T k).2.2.2 = true) && decide ((mm_y mi).name = "<init>") && decide ((T k).1 = (mm_y mi).cls) && decide (ne = 0)))
    | none => false)
  | _ => false
def mm_okC (mi mj na L wl cw wt : Nat) (idx : Nat) (nest wt2 self : Bool) : Bool :=
  (if nest then mm_w wl (.methodLinkNest (mm_y mi).cls idx (mm_y mj) "BulbShapes") else mm_w wl (.methodLink (mm_y mi).cls idx (mm_y mj))) &&
  (if wt2 then mm_w cw (.codeWith (mm_y mj) (mm_b mj) L (mm_rt mj) (mm_hh mj)) && decide (mm_hh mj ≠ []) else mm_w cw (.code (mm_y mj) (mm_b mj) L (mm_rt mj)) && decide (mm_hh mj = [])) &&
  mm_w wt (.initialized (mm_y mj).cls) && decide (L = mm_ml mj) && decide (mj < 77) &&
  decide ((mm_y mj).cls ≠ "java/lang/invoke/MethodHandle" ∧ (mm_y mj).cls ≠ "java/lang/invoke/VarHandle") &&
  (if self then decide (0 < na) && decide ((parseMethodDescriptor (mm_y mj).desc).map (fun d => d.parameters.length) = some (na - 1)) else decide ((parseMethodDescriptor (mm_y mj).desc).map (fun d => d.parameters.length) = some na)) &&
  decide (mm_fr mj + 1 ≤ mm_fr mi) && decide (8 + (L + 11) + mm_lo mj ≤ mm_lo mi)
def mm_okV (mi idx : Nat) (aux : List Nat) : Bool := match aux with
  | [1, mj, na, L, ci, wl, cw, wt, wn, ws] => mm_okC mi mj na L wl cw wt idx false false true && mm_w wn (.instanceMethod (mm_y mj)) && mm_w ws (.selects (mm_y mj).cls (mm_y mj) (mm_y mj)) && decide ((mm_cl[ci]?).map (·.1) = some (mm_y mj).cls)
  | [4, mj, na, L, ci, wl, cw, wt, wn, ws] => mm_okC mi mj na L wl cw wt idx true false true && mm_w wn (.instanceMethod (mm_y mj)) && mm_w ws (.selects (mm_y mj).cls (mm_y mj) (mm_y mj)) && decide ((mm_cl[ci]?).map (·.1) = some (mm_y mj).cls)
  | _ => false
def mm_okS (mi idx : Nat) (aux : List Nat) : Bool := match aux with
  | [2, mj, na, L, _, wl, cw, wt, ws] => mm_okC mi mj na L wl cw wt idx false false false && mm_w ws (.static (mm_y mj))
  | [5, mj, na, L, _, wl, cw, wt, ws] => mm_okC mi mj na L wl cw wt idx true false false && mm_w ws (.static (mm_y mj))
  | [9, mj, na, L, _, wl, cw, wt, ws] => mm_okC mi mj na L wl cw wt idx false true false && mm_w ws (.static (mm_y mj))
  | [7, wl, wn, ws, wt] => mm_w wl (.methodLink (mm_y mi).cls idx arraycopyName) && mm_w wn (.native arraycopyName) && mm_w ws (.static arraycopyName) && mm_w wt (.initialized "java/lang/System") && decide (1 ≤ mm_fr mi) && decide (60 ≤ mm_lo mi)
  | [8, wl, wn, ws, wt] => mm_w wl (.methodLink (mm_y mi).cls idx ⟨"java/lang/Double", "doubleToRawLongBits", "(D)J"⟩) && mm_w wn (.native ⟨"java/lang/Double", "doubleToRawLongBits", "(D)J"⟩) && mm_w ws (.static ⟨"java/lang/Double", "doubleToRawLongBits", "(D)J"⟩) && mm_w wt (.initialized "java/lang/Double") && decide (1 ≤ mm_fr mi) && decide (60 ≤ mm_lo mi)
  | _ => false
def mm_okP (mi idx : Nat) (aux : List Nat) : Bool := match aux with
  | [0, wl, wn, wc] => mm_w wl (.methodLink (mm_y mi).cls idx Lib.objectInit) && mm_w wn (.instanceMethod Lib.objectInit) && mm_w wc (.code Lib.objectInit ⟨#[0xb1]⟩ 1 none) && decide (1 ≤ mm_fr mi) && decide (20 ≤ mm_lo mi)
  | [3, mj, na, L, _, wl, cw, wt, wn] => mm_okC mi mj na L wl cw wt idx false false true && mm_w wn (.instanceMethod (mm_y mj)) && decide ((mm_y mj).name = "<init>") && decide (mm_rt mj = none)
  | [6, mj, na, L, _, wl, cw, wt, wn] => mm_okC mi mj na L wl cw wt idx true false true && mm_w wn (.instanceMethod (mm_y mj)) && decide ((mm_y mj).name = "<init>") && decide (mm_rt mj = none)
  | _ => false
def mm_okN (mi pc idx : Nat) (aux : List Nat) : Bool := match aux with
  | [0, ci, N, wi, wn, wt] => (match mm_cl[ci]? with
    | some (C, _, N') => decide (N = N') && decide (N = mm_nf ci) && mm_w wi (.classLink (mm_y mi).cls idx C) && mm_w wn (.instantiable C N) && mm_w wt (.initialized C)
    | none => false)
  | [1, E, wi, is, ic, wt, ws] => decide (E = 1 ∨ E = 2 ∨ E = 3) && decide ((mm_y mi).cls = "BulbShapes") && mm_w wi (.classLink (mm_y mi).cls idx (mm_exn E)) && mm_w wt (.initialized (mm_exn E)) && decide (ic = mm_exi E) &&
      decide (decode (mm_b mi) (pc + 3) = .ok (.dup, 1)) && decide (decode (mm_b mi) (pc + 4) = .ok (.ldc is, 2)) && decide (decode (mm_b mi) (pc + 6) = .ok (.invokespecial ic, 3)) && decide (decode (mm_b mi) (pc + 9) = .ok (.athrow, 1)) &&
      (match lw_tbl[ws]? with | some (.stringRef o k _) => decide (o = (mm_y mi).cls) && decide (k = is) | _ => false) && decide (6 ≤ mm_fr mi) && decide (90 ≤ mm_lo mi) && decide (mm_hh mi = [])
  | _ => false
def mm_okNA (a : ArrayType) (aux : List Nat) : Bool := match a, aux with
  | .int, [10, wi] => mm_w wi (.arrayClass .int)
  | .char, [11, wi] => mm_w wi (.arrayClass .char)
  | .long, [12, wi] => mm_w wi (.arrayClass .long)
  | _, _ => false
def mm_okAA (mi i : Nat) (aux : List Nat) : Bool := match aux with
  | [13, wi, wo] => mm_w wi (.classLink (mm_y mi).cls i "BulbShapes$Table") && mm_w wo (.arrayOver (.object "BulbShapes$Table"))
  | [14, wi, wo] => mm_w wi (.classLink (mm_y mi).cls i "BulbShapes$Board") && mm_w wo (.arrayOver (.object "BulbShapes$Board"))
  | _ => false
def mm_ok2 (mi pc : Nat) (e : mm_En) : Bool := match e with
  | (ins, _, v, aux) => match ins with
    | .iconst n => decide (v = .int (Int32.ofInt n))
    | .bipush n => decide (v = .int (Int8.ofInt n).toInt32)
    | .sipush n => decide (v = .int (Int16.ofInt n).toInt32)
    | .lconst n => decide (v = .long (Int64.ofNat (n : Nat)))
    | .dconst n => (match n with | 0 => decide (v = .double FP.dconst0) | 1 => decide (v = .double FP.dconst1))
    | .ldc i => (match v, aux with | .int x, [wi] => mm_w wi (.constant (mm_y mi).cls i x) | _, _ => false)
    | .ldc_w i => (match v, aux with | .int x, [wi] => mm_w wi (.constant (mm_y mi).cls i x) | _, _ => false)
    | .ldc2_w i => (match v, aux with | .long x, [wi] => mm_w wi (.constantLong (mm_y mi).cls i x) | .double x, [wi] => mm_w wi (.constantDouble (mm_y mi).cls i x) | _, _ => false)
    | .iload i => decide (aux = [i])
    | .iload_n k => decide (aux = [(k : Nat)])
    | .lload i => decide (aux = [i])
    | .lload_n k => decide (aux = [(k : Nat)])
    | .dload i => decide (aux = [i])
    | .dload_n k => decide (aux = [(k : Nat)])
    | .aload i => decide (aux = [i])
    | .aload_n k => decide (aux = [(k : Nat)])
    | .istore i => decide (aux = [i])
    | .istore_n k => decide (aux = [(k : Nat)])
    | .lstore i => decide (aux = [i])
    | .lstore_n k => decide (aux = [(k : Nat)])
    | .dstore i => decide (aux = [i])
    | .dstore_n k => decide (aux = [(k : Nat)])
    | .astore i => decide (aux = [i])
    | .astore_n k => decide (aux = [(k : Nat)])
    | .iinc i n => decide (aux = [i]) && decide (v = .int (Int32.ofInt n))
    | .ifCond _ o => (match aux with | [t] => decide ((pc : Int) + o = (t : Int)) | _ => false)
    | .if_icmp _ o => (match aux with | [t] => decide ((pc : Int) + o = (t : Int)) | _ => false)
    | .goto o => (match aux with | [t] => decide ((pc : Int) + o = (t : Int)) | _ => false)
    | .tableswitch d lo hi offs => (match aux with | t :: ts => decide (lo = 0) && decide (hi + 1 = (ts.length : Int)) && decide ((pc : Int) + d = (t : Int)) && decide (ts.map (fun q => ((q : Nat) : Int)) = offs.toList.map (fun o => (pc : Int) + o)) | _ => false)
    | .lookupswitch d ps => (match aux with | t :: ts => decide ((ps.toList.zip (ps.toList.drop 1)).all (fun (a, next) => a.1 < next.1) = true) && decide ((pc : Int) + d = (t : Int)) && decide (ts.map (fun q => ((q : Nat) : Int)) = ps.toList.flatMap (fun o => [o.1, (pc : Int) + o.2])) | _ => false)
    | .getfield i => mm_okF mi i aux false
    | .putfield i => mm_okF mi i aux true
    | .getstatic i => (match aux with | [wi, 1] => mm_w wi (.fieldLinkNest (mm_y mi).cls i "BulbShapes" "SHAPES" "[I" "BulbShapes") | _ => false)
    | .newarray a => mm_okNA a aux
    | .anewarray i => mm_okAA mi i aux
    | .new i => mm_okN mi pc i aux
    | .invokevirtual i => mm_okV mi i aux
    | .invokestatic i => mm_okS mi i aux
    | .invokespecial i => mm_okP mi i aux
    | .ireturn => (match aux with | [0] => decide (mm_rt mi = some .int) | [1] => decide (mm_rt mi = some .boolean) | [2] => decide (mm_rt mi = some .char) | _ => false)
    | .lreturn => decide (mm_rt mi = some .long)
    | .dreturn => decide (mm_rt mi = some .double)
    | .return_ => decide (mm_rt mi = none)
    | _ => true
/-- how long an instruction is, but the switches -/
def mm_il : Instr → Nat
  | .bipush _ => 2 | .sipush _ => 3 | .ldc _ => 2 | .ldc_w _ => 3 | .ldc2_w _ => 3
  | .iload _ => 2 | .lload _ => 2 | .dload _ => 2 | .aload _ => 2 | .istore _ => 2 | .lstore _ => 2 | .dstore _ => 2 | .astore _ => 2
  | .iinc _ _ => 3 | .ifCond _ _ => 3 | .if_icmp _ _ => 3 | .goto _ => 3
  | .getfield _ => 3 | .putfield _ => 3 | .getstatic _ => 3 | .newarray _ => 2 | .anewarray _ => 3 | .new _ => 3
  | .invokevirtual _ => 3 | .invokestatic _ => 3 | .invokespecial _ => 3
  | _ => 1
def mm_isw : Instr → Bool
  | .tableswitch _ _ _ _ => true | .lookupswitch _ _ => true | _ => false
def mm_ok1 (mi pc : Nat) (e : mm_En) : Bool := decide (decode (mm_b mi) pc = .ok (e.1, bif mm_isw e.1 then e.2.1 - pc else mm_il e.1)) && decide (e.2.1 = pc + bif mm_isw e.1 then e.2.1 - pc else mm_il e.1)
def mm_okE (mi pc : Nat) : Bool := match mm_code mi pc with
  | none => true
  | some e => mm_ok1 mi pc e && mm_ok2 mi pc e
def mm_okA (mi : Nat) : Bool := (List.range (mm_lb mi)).all (mm_okE mi)
/-- the tables of handlers: each takes the reference into a local place -/
def mm_okH (b : ByteArray) : List (Nat × Nat × Nat × Nat) → List (Nat × Nat × Nat × Nat) → Bool
  | [], [] => true
  | (_, _, hp, ct) :: r, (E, hp', li, np) :: r' => decide (hp = hp') && decide (ct ≠ 0) && decide (E = 1 ∨ E = 2 ∨ E = 3) && decide (Cond.classLink "BulbShapesLaw" ct (mm_exn E) ∈ lw_tbl) &&
      ((decide (decode b hp = .ok (.astore li, 2)) && decide (np = hp + 2)) || (match li with | 1 => decide (decode b hp = .ok (.astore_n 1, 1)) | 2 => decide (decode b hp = .ok (.astore_n 2, 1)) | 3 => decide (decode b hp = .ok (.astore_n 3, 1)) | _ => false) && decide (np = hp + 1)) && mm_okH b r r'
  | _, _ => false
def mm_okX (mi : Nat) : Bool := mm_okH (mm_b mi) (mm_hh mi) (mm_hl mi) && (mm_hh mi = [] || decide ((mm_y mi).cls = "BulbShapesLaw")) && (mm_hl mi).all (fun q => decide (q.2.2.1 < mm_ml mi)) &&
  (mm_hh mi = [] || (List.range (mm_lb mi)).all fun pc => match mm_code mi pc with
  | some (.invokevirtual _, _, _, _) => (mm_hh mi).all (fun q => decide (q.1 ≤ pc) && decide (pc < q.2.1))
  | some (.invokestatic _, _, _, _) => false
  | some (.invokespecial _, _, _, _) => false
  | _ => true)
theorem mm_okXall : (List.range 78).all mm_okX = true := by decide +kernel
end
section
/-! the checks, by computation -/
set_option maxRecDepth 100000 in
theorem mm_okg_0 : (List.range' 0 10).all mm_okA = true := by decide +kernel
set_option maxRecDepth 100000 in
theorem mm_okg_10 : (List.range' 10 11).all mm_okA = true := by decide +kernel
set_option maxRecDepth 100000 in
theorem mm_okg_21 : (List.range' 21 6).all mm_okA = true := by decide +kernel
set_option maxRecDepth 100000 in
theorem mm_okg_27 : (List.range' 27 4).all mm_okA = true := by decide +kernel
set_option maxRecDepth 100000 in
theorem mm_okg_31 : (List.range' 31 3).all mm_okA = true := by decide +kernel
set_option maxRecDepth 100000 in
theorem mm_okg_34 : (List.range' 34 3).all mm_okA = true := by decide +kernel
set_option maxRecDepth 100000 in
theorem mm_okg_37 : (List.range' 37 5).all mm_okA = true := by decide +kernel
set_option maxRecDepth 100000 in
theorem mm_okg_42 : (List.range' 42 14).all mm_okA = true := by decide +kernel
set_option maxRecDepth 100000 in
theorem mm_okg_56 : (List.range' 56 9).all mm_okA = true := by decide +kernel
set_option maxRecDepth 100000 in
theorem mm_okg_65 : (List.range' 65 9).all mm_okA = true := by decide +kernel
set_option maxRecDepth 100000 in
theorem mm_okm_74_0 : (List.range' 0 100).all (mm_okE 74) = true := by decide +kernel
set_option maxRecDepth 100000 in
theorem mm_okm_74_100 : (List.range' 100 100).all (mm_okE 74) = true := by decide +kernel
set_option maxRecDepth 100000 in
theorem mm_okm_74_200 : (List.range' 200 100).all (mm_okE 74) = true := by decide +kernel
set_option maxRecDepth 100000 in
theorem mm_okm_74_300 : (List.range' 300 100).all (mm_okE 74) = true := by decide +kernel
set_option maxRecDepth 100000 in
theorem mm_okm_74_400 : (List.range' 400 100).all (mm_okE 74) = true := by decide +kernel
set_option maxRecDepth 100000 in
theorem mm_okm_74_500 : (List.range' 500 100).all (mm_okE 74) = true := by decide +kernel
set_option maxRecDepth 100000 in
theorem mm_okm_74_600 : (List.range' 600 100).all (mm_okE 74) = true := by decide +kernel
theorem mm_okM_74 : ∀ pc, pc < 620 → mm_okE 74 pc = true := by
  intro pc hpc
  by_cases h0 : pc < 100
  · exact List.all_eq_true.mp mm_okm_74_0 pc (by rw [List.mem_range'_1]; omega)
  by_cases h100 : pc < 200
  · exact List.all_eq_true.mp mm_okm_74_100 pc (by rw [List.mem_range'_1]; omega)
  by_cases h200 : pc < 300
  · exact List.all_eq_true.mp mm_okm_74_200 pc (by rw [List.mem_range'_1]; omega)
  by_cases h300 : pc < 400
  · exact List.all_eq_true.mp mm_okm_74_300 pc (by rw [List.mem_range'_1]; omega)
  by_cases h400 : pc < 500
  · exact List.all_eq_true.mp mm_okm_74_400 pc (by rw [List.mem_range'_1]; omega)
  by_cases h500 : pc < 600
  · exact List.all_eq_true.mp mm_okm_74_500 pc (by rw [List.mem_range'_1]; omega)
  by_cases h600 : pc < 700
  · exact List.all_eq_true.mp mm_okm_74_600 pc (by rw [List.mem_range'_1]; omega)
  omega
set_option maxRecDepth 100000 in
theorem mm_okg_75 : (List.range' 75 1).all mm_okA = true := by decide +kernel
set_option maxRecDepth 100000 in
theorem mm_okg_76 : (List.range' 76 1).all mm_okA = true := by decide +kernel
set_option maxRecDepth 100000 in
theorem mm_okm_77_0 : (List.range' 0 100).all (mm_okE 77) = true := by decide +kernel
set_option maxRecDepth 100000 in
theorem mm_okm_77_100 : (List.range' 100 100).all (mm_okE 77) = true := by decide +kernel
set_option maxRecDepth 100000 in
theorem mm_okm_77_200 : (List.range' 200 100).all (mm_okE 77) = true := by decide +kernel
theorem mm_okM_77 : ∀ pc, pc < 283 → mm_okE 77 pc = true := by
  intro pc hpc
  by_cases h0 : pc < 100
  · exact List.all_eq_true.mp mm_okm_77_0 pc (by rw [List.mem_range'_1]; omega)
  by_cases h100 : pc < 200
  · exact List.all_eq_true.mp mm_okm_77_100 pc (by rw [List.mem_range'_1]; omega)
  by_cases h200 : pc < 300
  · exact List.all_eq_true.mp mm_okm_77_200 pc (by rw [List.mem_range'_1]; omega)
  omega
theorem mm_okAll : ∀ mi, mi < 78 → ∀ pc, pc < mm_lb mi → mm_okE mi pc = true := by
  intro mi hmi pc hpc
  by_cases h0 : mi < 10
  · exact List.all_eq_true.mp (List.all_eq_true.mp mm_okg_0 mi (by rw [List.mem_range'_1]; omega)) pc (List.mem_range.mpr hpc)
  by_cases h10 : mi < 21
  · exact List.all_eq_true.mp (List.all_eq_true.mp mm_okg_10 mi (by rw [List.mem_range'_1]; omega)) pc (List.mem_range.mpr hpc)
  by_cases h21 : mi < 27
  · exact List.all_eq_true.mp (List.all_eq_true.mp mm_okg_21 mi (by rw [List.mem_range'_1]; omega)) pc (List.mem_range.mpr hpc)
  by_cases h27 : mi < 31
  · exact List.all_eq_true.mp (List.all_eq_true.mp mm_okg_27 mi (by rw [List.mem_range'_1]; omega)) pc (List.mem_range.mpr hpc)
  by_cases h31 : mi < 34
  · exact List.all_eq_true.mp (List.all_eq_true.mp mm_okg_31 mi (by rw [List.mem_range'_1]; omega)) pc (List.mem_range.mpr hpc)
  by_cases h34 : mi < 37
  · exact List.all_eq_true.mp (List.all_eq_true.mp mm_okg_34 mi (by rw [List.mem_range'_1]; omega)) pc (List.mem_range.mpr hpc)
  by_cases h37 : mi < 42
  · exact List.all_eq_true.mp (List.all_eq_true.mp mm_okg_37 mi (by rw [List.mem_range'_1]; omega)) pc (List.mem_range.mpr hpc)
  by_cases h42 : mi < 56
  · exact List.all_eq_true.mp (List.all_eq_true.mp mm_okg_42 mi (by rw [List.mem_range'_1]; omega)) pc (List.mem_range.mpr hpc)
  by_cases h56 : mi < 65
  · exact List.all_eq_true.mp (List.all_eq_true.mp mm_okg_56 mi (by rw [List.mem_range'_1]; omega)) pc (List.mem_range.mpr hpc)
  by_cases h65 : mi < 74
  · exact List.all_eq_true.mp (List.all_eq_true.mp mm_okg_65 mi (by rw [List.mem_range'_1]; omega)) pc (List.mem_range.mpr hpc)
  by_cases h74 : mi < 75
  · have h9 : mi = 74 := by omega
    subst h9
    exact mm_okM_74 pc hpc
  by_cases h75 : mi < 76
  · exact List.all_eq_true.mp (List.all_eq_true.mp mm_okg_75 mi (by rw [List.mem_range'_1]; omega)) pc (List.mem_range.mpr hpc)
  by_cases h76 : mi < 77
  · exact List.all_eq_true.mp (List.all_eq_true.mp mm_okg_76 mi (by rw [List.mem_range'_1]; omega)) pc (List.mem_range.mpr hpc)
  have h9 : mi = 77 := by omega
  subst h9
  exact mm_okM_77 pc hpc
theorem mm_ok {mi pc : Nat} {e : mm_En} (h : mm_code mi pc = some e) : mi < 78 ∧ mm_ok1 mi pc e = true ∧ mm_ok2 mi pc e = true := by
  have h0 := h
  unfold mm_code at h
  by_cases h1 : 78 ≤ mi
  · rw [show Nat.ble 78 mi = true from Nat.ble_eq_true_of_le h1] at h
    cases h
  · have hm : mi < 78 := by omega
    by_cases h2 : mm_lb mi ≤ pc
    · rw [show Nat.ble (mm_lb mi) pc = true from Nat.ble_eq_true_of_le h2] at h
      cases hb : Nat.ble 78 mi <;> rw [hb] at h <;> cases h
    · have h3 := mm_okAll mi hm pc (by omega)
      unfold mm_okE at h3
      rw [h0] at h3
      simp only [Bool.and_eq_true] at h3
      exact ⟨hm, h3⟩
end
section
/-! ===== the mini heap and the real one ===== -/
def mm_tr (ad : Nat → Nat) : Value → Value
  | .ref i => .ref (ad i)
  | v => v
def mm_asc (ad : Nat → Nat) : Nat → List Value → List (Nat × Value)
  | _, [] => []
  | i, v :: t => (bif decide (v = .null) then [] else [(i, mm_tr ad v)]) ++ mm_asc ad (i + 1) t
def mm_orf (ad : Nat → Nat) (r : Nat) : Option Nat := if r = 0 then none else some (ad r)
def mm_fd (ad : Nat → Nat) (h : mm_Hp) (i ci k : Nat) : Value := if mm_ft ci k = 1 then va_rf (mm_orf ad (mm_R h i k)) else .int (mm_I h i k)
def mm_flds (ad : Nat → Nat) (h : mm_Hp) (i ci : Nat) : List Value := (List.range (mm_nf ci)).map (mm_fd ad h i ci)
def mm_kd (ad : Nat → Nat) (cA : Nat → Nat) (h : mm_Hp) (i k len : Nat) : va_E := match k with
  | 10 => .inl (cA i, len, .inl (mm_I h i))
  | 11 => .inl (cA i, len, .inl (mm_I h i))
  | 12 => .inl (cA i, len, .inr (.inl (mm_J h i)))
  | 13 => .inl (cA i, len, .inr (.inr (.inr (.inr (fun j => mm_orf ad (mm_R h i j))))))
  | 14 => .inl (cA i, len, .inr (.inr (.inr (.inr (fun j => mm_orf ad (mm_R h i j))))))
  | ci => .inr (ci, mm_flds ad h i ci)
def mm_en (ad : Nat → Nat) (cA : Nat → Nat) (h : mm_Hp) (i : Nat) : va_E := mm_kd ad cA h i (mm_K h i).1 (mm_K h i).2
def mm_ws (ad : Nat → Nat) (cA : Nat → Nat) (h : mm_Hp) : va_W := (List.range (mm_n h)).map (fun i => (ad i, mm_en ad cA h i))
def mm_aty (k : Nat) : FieldType := match k with
  | 10 => .int | 11 => .char | 12 => .long | 13 => .object "BulbShapes$Table" | _ => .object "BulbShapes$Board"
theorem mm_ws_get {ad cA : Nat → Nat} {h : mm_Hp} {i : Nat} (hi : i < mm_n h) : (mm_ws ad cA h)[i]? = some (ad i, mm_en ad cA h i) := by
  unfold mm_ws
  rw [List.getElem?_map, List.getElem?_range hi]
  rfl
theorem mm_ws_len (ad cA : Nat → Nat) (h : mm_Hp) : (mm_ws ad cA h).length = mm_n h := by simp [mm_ws]
theorem mm_ws_set {ad cA : Nat → Nat} {h h' : mm_Hp} {i : Nat} {e : va_E} (hn : mm_n h' = mm_n h) (hi : mm_en ad cA h' i = e) (ho : ∀ j, j < mm_n h → j ≠ i → mm_en ad cA h' j = mm_en ad cA h j) : (mm_ws ad cA h).set i (ad i, e) = mm_ws ad cA h' := by
  apply List.ext_getElem?
  intro j
  rw [List.getElem?_set]
  by_cases hj : j < mm_n h
  · rw [mm_ws_get (h := h') (by rw [hn]; exact hj)]
    by_cases hji : i = j
    · subst hji
      rw [if_pos rfl, if_pos (by rw [mm_ws_len]; exact hj), hi]
    · rw [if_neg hji, mm_ws_get hj, ho j hj (fun q => hji q.symm)]
  · have h1 : (mm_ws ad cA h')[j]? = none := List.getElem?_eq_none (by rw [mm_ws_len, hn]; omega)
    have h2 : (mm_ws ad cA h)[j]? = none := List.getElem?_eq_none (by rw [mm_ws_len]; omega)
    rw [h1, h2]
    by_cases hji : i = j
    · rw [if_pos hji, if_neg (by rw [mm_ws_len]; omega)]
    · rw [if_neg hji]
theorem mm_ws_push {ad ad' cA cA' : Nat → Nat} {h h' : mm_Hp} {q : Nat} {e : va_E} (hn : mm_n h' = mm_n h + 1) (hq : ad' (mm_n h) = q) (he : mm_en ad' cA' h' (mm_n h) = e) (ho : ∀ j, j < mm_n h → ad' j = ad j ∧ mm_en ad' cA' h' j = mm_en ad cA h j) : mm_ws ad cA h ++ [(q, e)] = mm_ws ad' cA' h' := by
  apply List.ext_getElem?
  intro j
  by_cases hj : j < mm_n h
  · rw [List.getElem?_append_left (by rw [mm_ws_len]; exact hj), mm_ws_get hj, mm_ws_get (h := h') (by omega), (ho j hj).1, (ho j hj).2]
  · by_cases hj2 : j = mm_n h
    · subst hj2
      rw [List.getElem?_append_right (by rw [mm_ws_len]; exact Nat.le_refl _), mm_ws_len, Nat.sub_self, mm_ws_get (h := h') (by omega), hq, he]
      rfl
    · rw [List.getElem?_eq_none (by rw [List.length_append, mm_ws_len]; simp; omega), List.getElem?_eq_none (by rw [mm_ws_len]; omega)]
theorem mm_kd_congr {ad cA : Nat → Nat} {h h' : mm_Hp} {i : Nat} (k len : Nat) (hR : mm_R h' i = mm_R h i) (hI : mm_I h' i = mm_I h i) (hJ : mm_J h' i = mm_J h i) : mm_kd ad cA h' i k len = mm_kd ad cA h i k len := by
  have hf : ∀ ci, mm_flds ad h' i ci = mm_flds ad h i ci := by
    intro ci
    unfold mm_flds
    congr 1
    funext k
    unfold mm_fd
    rw [hR, hI]
  unfold mm_kd
  split <;> first | rw [hI] | rw [hJ] | rw [hR] | rw [hf]
theorem mm_en_congr {ad cA : Nat → Nat} {h h' : mm_Hp} {i : Nat} (hK : mm_K h' i = mm_K h i) (hR : mm_R h' i = mm_R h i) (hI : mm_I h' i = mm_I h i) (hJ : mm_J h' i = mm_J h i) : mm_en ad cA h' i = mm_en ad cA h i := by
  unfold mm_en
  rw [hK]
  exact mm_kd_congr _ _ hR hI hJ
theorem mm_orf_ad {ad ad' : Nat → Nat} {r : Nat} (h : ad' r = ad r) : mm_orf ad' r = mm_orf ad r := by
  unfold mm_orf; rw [h]
/-- the same cell under other addresses that agree where it refers to -/
theorem mm_en_ad {ad ad' cA cA' : Nat → Nat} {h : mm_Hp} {i : Nat} (hc : cA' i = cA i) (ha : ∀ k, ad' (mm_R h i k) = ad (mm_R h i k)) : mm_en ad' cA' h i = mm_en ad cA h i := by
  have hf : ∀ ci, mm_flds ad' h i ci = mm_flds ad h i ci := by
    intro ci
    unfold mm_flds
    congr 1
    funext k
    unfold mm_fd
    rw [mm_orf_ad (ha k)]
  have hr : (fun j => mm_orf ad' (mm_R h i j)) = (fun j => mm_orf ad (mm_R h i j)) := by
    funext j
    exact mm_orf_ad (ha j)
  unfold mm_en mm_kd
  split <;> first | rw [hc, hr] | rw [hc] | rw [hf]
-- locals
theorem mm_lget_nil (k : Nat) : mm_lget [] k = .null := by cases k <;> rfl
theorem mm_lset_len : ∀ (ls : List Value) (i : Nat) (v : Value), (mm_lset ls i v).length = ls.length
  | [], _, _ => rfl
  | _ :: _, 0, _ => rfl
  | a :: t, n + 1, v => by show (mm_lset t n v).length + 1 = t.length + 1; rw [mm_lset_len t n v]
theorem mm_lget_lset : ∀ (ls : List Value) (i k : Nat) (v : Value), mm_lget (mm_lset ls i v) k = if k = i then (if i < ls.length then v else .null) else mm_lget ls k
  | [], i, k, v => by
    show mm_lget [] k = _
    rw [mm_lget_nil]
    split
    · rw [if_neg (by simp)]
    · rfl
  | a :: t, 0, 0, v => by simp [mm_lset, mm_lget]
  | a :: t, 0, k + 1, v => by simp [mm_lset, mm_lget]
  | a :: t, n + 1, 0, v => by simp [mm_lset, mm_lget]
  | a :: t, n + 1, k + 1, v => by
    show mm_lget (mm_lset t n v) k = _
    rw [mm_lget_lset t n k v]
    simp [mm_lget]
theorem mm_asc_mem {ad : Nat → Nat} : ∀ (ls : List Value) (i : Nat) (q : Nat × Value), q ∈ mm_asc ad i ls ↔ ∃ k, q.1 = i + k ∧ mm_lget ls k ≠ .null ∧ q.2 = mm_tr ad (mm_lget ls k)
  | [], i, q => by simp [mm_asc, mm_lget_nil]
  | v :: t, i, q => by
    unfold mm_asc
    rw [List.mem_append, mm_asc_mem t (i + 1) q]
    constructor
    · rintro (hq | ⟨k, h1, h2, h3⟩)
      · by_cases hv : v = .null
        · simp [hv] at hq
        · simp [hv] at hq
          exact ⟨0, by rw [hq]; rfl, hv, by rw [hq]; rfl⟩
      · exact ⟨k + 1, by omega, h2, h3⟩
    · rintro ⟨k, h1, h2, h3⟩
      cases k with
      | zero =>
        left
        have hv : ¬ v = .null := h2
        simp [hv]
        exact Prod.ext h1 h3
      | succ k => exact Or.inr ⟨k, by omega, h2, h3⟩
/-- the real locals hold the mini ones -/
def mm_LR (ad : Nat → Nat) (lsR : Array Slot) (nL : Nat) (ls : List Value) : Prop := lv_has lsR nL (mm_asc ad 0 ls) ∧ ls.length = nL
theorem mm_LR.get {ad : Nat → Nat} {lsR : Array Slot} {nL : Nat} {ls : List Value} (h : mm_LR ad lsR nL ls) {i : Nat} {v : Value} (hv : mm_lget ls i = v) (hn : v ≠ .null) : lsR[i]? = some (.val (mm_tr ad v)) :=
  h.1.2.2 (i, mm_tr ad v) ((mm_asc_mem ls 0 (i, mm_tr ad v)).mpr ⟨i, by simp, by rw [hv]; exact hn, by rw [hv]⟩)
theorem mm_tr_two (ad : Nat → Nat) (v : Value) : ((mm_tr ad v).category = 2) ↔ mm_two v = true := by
  cases v <;> simp [mm_tr, mm_two, Value.category]
theorem mm_tr_cat (ad : Nat → Nat) (v : Value) : (mm_tr ad v).category = v.category := by
  cases v <;> rfl
theorem mm_LR.set1 {ad : Nat → Nat} {lsR lsR' : Array Slot} {nL : Nat} {ls : List Value} {i : Nat} {v : Value} (h : mm_LR ad lsR nL ls) (hp : mm_pre ls i = false) (hi : i < ls.length)
    (h' : lv_has lsR' nL ((i, mm_tr ad v) :: (mm_asc ad 0 ls).filter (fun q => !(q.1 == i) && !(q.1 + 1 == i && q.2.category == 2)))) : mm_LR ad lsR' nL (mm_lset ls i v) := by
  refine ⟨⟨h'.1, h'.2.1, fun q hq => h'.2.2 q ?_⟩, by rw [mm_lset_len]; exact h.2⟩
  obtain ⟨k, h1, h2, h3⟩ := (mm_asc_mem _ _ _).mp hq
  rw [mm_lget_lset] at h2 h3
  simp only [Nat.zero_add] at h1
  by_cases hk : k = i
  · rw [if_pos hk, if_pos hi] at h3
    exact List.mem_cons.mpr (Or.inl (Prod.ext (h1.trans hk) h3))
  · rw [if_neg hk] at h2 h3
    refine List.mem_cons.mpr (Or.inr (List.mem_filter.mpr ⟨(mm_asc_mem _ _ _).mpr ⟨k, by omega, h2, h3⟩, ?_⟩))
    have hki : ¬ q.1 = i := by rw [h1]; exact hk
    simp only [Bool.and_eq_true, Bool.not_eq_true', beq_eq_false_iff_ne, ne_eq, hki, not_false_eq_true, true_and, Bool.and_eq_false_iff]
    by_cases hk1 : q.1 + 1 = i
    · right
      have hik : i = k + 1 := by omega
      subst hik
      intro hc
      rw [h3] at hc
      have := (mm_tr_two ad (mm_lget ls k)).mp hc
      rw [show mm_pre ls (k + 1) = mm_two (mm_lget ls k) from rfl, this] at hp
      cases hp
    · exact Or.inl hk1
theorem mm_LR.set2 {ad : Nat → Nat} {lsR lsR' : Array Slot} {nL : Nat} {ls : List Value} {i : Nat} {v : Value} (h : mm_LR ad lsR nL ls) (hp : mm_pre ls i = false) (hi : i + 1 < ls.length)
    (h' : lv_has lsR' nL ((i, mm_tr ad v) :: (mm_asc ad 0 ls).filter (fun q => !(q.1 == i) && (!(q.1 == i + 1) && !(q.1 + 1 == i && q.2.category == 2))))) : mm_LR ad lsR' nL (mm_lset (mm_lset ls i v) (i + 1) .null) := by
  refine ⟨⟨h'.1, h'.2.1, fun q hq => h'.2.2 q ?_⟩, by rw [mm_lset_len, mm_lset_len]; exact h.2⟩
  obtain ⟨k, h1, h2, h3⟩ := (mm_asc_mem _ _ _).mp hq
  rw [mm_lget_lset] at h2 h3
  simp only [Nat.zero_add] at h1
  by_cases hk2 : k = i + 1
  · rw [if_pos hk2] at h2
    split at h2 <;> exact absurd rfl h2
  · rw [if_neg hk2, mm_lget_lset] at h2 h3
    by_cases hk : k = i
    · rw [if_pos hk, if_pos (by omega)] at h3
      exact List.mem_cons.mpr (Or.inl (Prod.ext (h1.trans hk) h3))
    · rw [if_neg hk] at h2 h3
      refine List.mem_cons.mpr (Or.inr (List.mem_filter.mpr ⟨(mm_asc_mem _ _ _).mpr ⟨k, by omega, h2, h3⟩, ?_⟩))
      have hki : ¬ q.1 = i := by rw [h1]; exact hk
      have hki2 : ¬ q.1 = i + 1 := by rw [h1]; exact hk2
      simp only [Bool.and_eq_true, Bool.not_eq_true', beq_eq_false_iff_ne, ne_eq, hki, hki2, not_false_eq_true, true_and, Bool.and_eq_false_iff]
      by_cases hk1 : q.1 + 1 = i
      · right
        have hik : i = k + 1 := by omega
        subst hik
        intro hc
        rw [h3] at hc
        have := (mm_tr_two ad (mm_lget ls k)).mp hc
        rw [show mm_pre ls (k + 1) = mm_two (mm_lget ls k) from rfl, this] at hp
        cases hp
      · exact Or.inl hk1
theorem mm_tr_ad {ad ad' : Nat → Nat} {v : Value} (h : ∀ j : Nat, v = .ref j → ad' j = ad j) : mm_tr ad' v = mm_tr ad v := by
  cases v <;> first | rfl | (show Value.ref (ad' _) = Value.ref (ad _); rw [h _ rfl])
theorem mm_lget_mem : ∀ (ls : List Value) (k : Nat), mm_lget ls k = .null ∨ mm_lget ls k ∈ ls
  | [], k => Or.inl (mm_lget_nil k)
  | v :: t, 0 => Or.inr List.mem_cons_self
  | v :: t, k + 1 => (mm_lget_mem t k).imp id (fun h => List.mem_cons_of_mem _ h)
theorem mm_LR.ad {ad ad' : Nat → Nat} {lsR : Array Slot} {nL : Nat} {ls : List Value} (h : mm_LR ad lsR nL ls) (ha : ∀ v ∈ ls, ∀ j : Nat, v = .ref j → ad' j = ad j) : mm_LR ad' lsR nL ls := by
  refine ⟨⟨h.1.1, h.1.2.1, fun q hq => h.1.2.2 q ?_⟩, h.2⟩
  obtain ⟨k, h1, h2, h3⟩ := (mm_asc_mem _ _ _).mp hq
  rcases mm_lget_mem ls k with h4 | h4
  · exact absurd h4 h2
  · exact (mm_asc_mem _ _ _).mpr ⟨k, h1, h2, h3.trans (mm_tr_ad (ha _ h4))⟩
theorem mm_trs_ad {ad ad' : Nat → Nat} {st : List Value} (ha : ∀ v ∈ st, ∀ j : Nat, v = .ref j → ad' j = ad j) : st.map (mm_tr ad') = st.map (mm_tr ad) :=
  List.map_congr_left fun v hv => mm_tr_ad (ha v hv)
theorem mm_trs_cat (ad : Nat → Nat) (st : List Value) : ((st.map (mm_tr ad)).map fun v => v.category) = st.map Value.category := by
  rw [List.map_map]
  exact List.map_congr_left fun v _ => mm_tr_cat ad v
end
section
/-! ===== what stays true along a walk ===== -/
def mm_G : List Jvm.Cond := lw_tbl.filter goodWord
theorem mm_inG {i : Nat} {w : Jvm.Cond} (h : mm_w i w = true) (g : goodWord w = true) : w ∈ mm_G := List.mem_filter.mpr ⟨List.mem_of_getElem? (of_decide_eq_true h), g⟩
def mm_ty (ci : Nat) : Nat → FieldType := match ci with | 0 => tyX0 | 1 => tyX1 | 2 => tyX2 | 3 => tyX3 | _ => tyX4
theorem mm_u0 : ∀ w ∈ u_ws RX0 TX0 6, w ∈ mm_G := by decide +kernel
theorem mm_u1 : ∀ w ∈ u_ws RX1 TX1 3, w ∈ mm_G := by decide +kernel
theorem mm_u2 : ∀ w ∈ u_ws RX2 TX2 3, w ∈ mm_G := by decide +kernel
theorem mm_u3 : ∀ w ∈ u_ws RX3 TX3 2, w ∈ mm_G := by decide +kernel
theorem mm_u4 : ∀ w ∈ u_ws RX4 TX4 5, w ∈ mm_G := by decide +kernel
def mm_isr : FieldType → Bool
  | .object _ => true
  | .array _ => true
  | _ => false
def mm_fok (ci N : Nat) : Bool := (List.range N).all fun k => (decide (mm_ft ci k = 0) && decide (mm_ty ci k = .int)) || (decide (mm_ft ci k = 2) && decide (mm_ty ci k = .boolean)) || (decide (mm_ft ci k = 1) && mm_isr (mm_ty ci k))
theorem mm_fok0 : mm_fok 0 6 = true := by decide +kernel
theorem mm_fok1 : mm_fok 1 3 = true := by decide +kernel
theorem mm_fok2 : mm_fok 2 3 = true := by decide +kernel
theorem mm_fok3 : mm_fok 3 2 = true := by decide +kernel
theorem mm_fok4 : mm_fok 4 5 = true := by decide +kernel
theorem mm_clf {ci : Nat} {C : String} {T : u_T} {N : Nat} (h : mm_cl[ci]? = some (C, T, N)) : ci < 6 ∧ (∀ w ∈ u_ws C T N, w ∈ mm_G) ∧ (∀ k, k < N → parseFieldDescriptor (T k).2.2.1 = some (mm_ty ci k)) ∧ (∀ a, a < N → ∀ b, b < N → a ≠ b → (T a).2.1 ≠ (T b).2.1) ∧ mm_fok ci N = true := by
  match ci, h with
  | 0, h => cases h; exact ⟨by decide, mm_u0, tyX0_ok, nmX0, mm_fok0⟩
  | 1, h => cases h; exact ⟨by decide, mm_u1, tyX1_ok, nmX1, mm_fok1⟩
  | 2, h => cases h; exact ⟨by decide, mm_u2, tyX2_ok, nmX2, mm_fok2⟩
  | 3, h => cases h; exact ⟨by decide, mm_u3, tyX3_ok, nmX3, mm_fok3⟩
  | 4, h => cases h; exact ⟨by decide, mm_u4, tyX4_ok, nmX4, mm_fok4⟩
  | k + 5, h => simp [mm_cl] at h
theorem mm_fok_at {ci N k : Nat} (h : mm_fok ci N = true) (hk : k < N) : (mm_ft ci k = 0 ∧ mm_ty ci k = .int) ∨ (mm_ft ci k = 2 ∧ mm_ty ci k = .boolean) ∨ (mm_ft ci k = 1 ∧ mm_isr (mm_ty ci k) = true) := by
  have h1 := List.all_eq_true.mp h k (List.mem_range.mpr hk)
  simp only [Bool.or_eq_true, Bool.and_eq_true, decide_eq_true_eq] at h1
  rcases h1 with (h1 | h1) | h1
  · exact Or.inl h1
  · exact Or.inr (Or.inl h1)
  · exact Or.inr (Or.inr h1)
theorem mm_en_obj {ad cA : Nat → Nat} {h : mm_Hp} {i ci : Nat} (hk : (mm_K h i).1 = ci) (hc : ci < 6) : mm_en ad cA h i = .inr (ci, mm_flds ad h i ci) := by
  unfold mm_en
  rw [hk]
  match ci, hc with
  | 0, _ => rfl
  | 1, _ => rfl
  | 2, _ => rfl
  | 3, _ => rfl
  | 4, _ => rfl
  | 5, _ => rfl
theorem mm_flds_len (ad : Nat → Nat) (h : mm_Hp) (i ci : Nat) : (mm_flds ad h i ci).length = mm_nf ci := by simp [mm_flds]
theorem mm_flds_get {ad : Nat → Nat} {h : mm_Hp} {i ci k : Nat} (hk : k < mm_nf ci) : (mm_flds ad h i ci)[k]? = some (mm_fd ad h i ci k) := by
  unfold mm_flds
  rw [List.getElem?_map, List.getElem?_range hk]
  rfl
theorem mm_flds_set {ad : Nat → Nat} {h h' : mm_Hp} {i ci k : Nat} {v : Value} (hv : mm_fd ad h' i ci k = v) (ho : ∀ j, j ≠ k → mm_fd ad h' i ci j = mm_fd ad h i ci j) : (mm_flds ad h i ci).set k v = mm_flds ad h' i ci := by
  apply List.ext_getElem?
  intro j
  rw [List.getElem?_set]
  by_cases hj : j < mm_nf ci
  · rw [mm_flds_get hj, mm_flds_get hj]
    by_cases hjk : k = j
    · subst hjk
      rw [if_pos rfl, if_pos (by rw [mm_flds_len]; exact hj), hv]
    · rw [if_neg hjk, ho j (fun q => hjk q.symm)]
  · rw [List.getElem?_eq_none (l := mm_flds ad h i ci) (by rw [mm_flds_len]; omega), List.getElem?_eq_none (l := mm_flds ad h' i ci) (by rw [mm_flds_len]; omega)]
    by_cases hjk : k = j
    · rw [if_pos hjk, if_neg (by rw [mm_flds_len]; omega)]
    · rw [if_neg hjk]
theorem mm_up_self {α : Type} (f : Nat → α) (k : Nat) (v : α) : va_up f k v k = v := by simp [va_up]
theorem mm_up_ne {α : Type} (f : Nat → α) {k j : Nat} (v : α) (h : j ≠ k) : va_up f k v j = f j := by simp [va_up, h]
def mm_Wd (D : va_G) (A : Nat → Prop) (tS b L : Nat) (xs : Nat → Int32) (s : State) (ad cA : Nat → Nat) (tys : List (ClassId × FieldType)) (h : mm_Hp) (H : Heap) : Prop :=
  va_K D mm_cl tys s ∧ va_P D mm_cl (mm_ws ad cA h) H ∧ va_D A (mm_ws ad cA h) ∧ (∀ i, i < mm_n h → 10 ≤ (mm_K h i).1 → ∃ t0 : Nat, tys[t0]? = some (cA i, mm_aty (mm_K h i).1)) ∧ ad 1000 = tS ∧ ad 1001 = b ∧ mm_L h = L ∧ mm_X h = xs ∧ mm_n h ≤ 1000
def mm_Iv (D : va_G) (A : Nat → Prop) (tS b L : Nat) (xs : Nat → Int32) (s : State) (ad0 : Nat → Nat) (n0 c0 s0 nL : Nat) (ad cA : Nat → Nat) (tys : List (ClassId × FieldType)) (lsR : Array Slot) (ls : List Value) (h : mm_Hp) (H : Heap) (locs : List Loc) (cells slots : Nat) : Prop :=
  mm_Wd D A tS b L xs s ad cA tys h H ∧ va_S A s.heap H locs ∧ mm_LR ad lsR nL ls ∧ cells + c0 = mm_c h ∧ slots + s0 = mm_s h ∧ n0 ≤ mm_n h ∧ ∀ j, (j < n0 ∨ mm_n h ≤ j) → ad j = ad0 j
section MM
variable {p : Program} {l : Launch} {e : Env} {R : Room} {s : State} {m : MethodId} {args : Array Value} {below : List Frame} {meth : Method} {c : Code} {Q : State → Prop} {D : va_G} {A : Nat → Prop} {tS b L : Nat} {xs : Nat → Int32} {ad0 : Nat → Nat} {n0 c0 s0 nL mi : Nat}
/-- from here the machine comes to the end: for every real state that the mini one pictures -/
def mm_Go (p : Program) (l : Launch) (e : Env) (R : Room) (s : State) (m : MethodId) (args : Array Value) (below : List Frame) (meth : Method) (c : Code) (Q : State → Prop) (D : va_G) (A : Nat → Prop) (tS b L : Nat) (xs : Nat → Int32) (ad0 : Nat → Nat) (n0 c0 s0 nL : Nat) (pc : Nat) (ls st : List Value) (h : mm_Hp) : Prop :=
  ∀ (H : Heap) (locs : List Loc) (cells slots : Nat) (lsR : Array Slot) (ad cA : Nat → Nat) (tys : List (ClassId × FieldType)), mm_Iv D A tS b L xs s ad0 n0 c0 s0 nL ad cA tys lsR ls h H locs cells slots → W p l e R s m args below meth c H locs cells slots Q (F0 m pc lsR (st.map (mm_tr ad)))
theorem mm_Wd.upd {ad cA : Nat → Nat} {tys : List (ClassId × FieldType)} {h h' : mm_Hp} {H H' : Heap} {i : Nat} {v : va_E} (hW : mm_Wd D A tS b L xs s ad cA tys h H) (hn : h'.1 = h.1) (hK : mm_K h' = mm_K h) (hL : h'.2.2.2.2.2 = h.2.2.2.2.2)
    (hi : mm_en ad cA h' i = v) (ho : ∀ j, j < mm_n h → j ≠ i → mm_en ad cA h' j = mm_en ad cA h j) (hP : va_P D mm_cl ((mm_ws ad cA h).set i (ad i, v)) H') (hD : va_D A ((mm_ws ad cA h).set i (ad i, v))) : mm_Wd D A tS b L xs s ad cA tys h' H' := by
  obtain ⟨a1, a2, a3, a4, a5, a6, a7, a8, a9⟩ := hW
  have hn' : mm_n h' = mm_n h := by unfold mm_n; rw [hn]
  have hs := mm_ws_set (ad := ad) (cA := cA) hn' hi ho
  rw [hs] at hP hD
  refine ⟨a1, hP, hD, fun i hi h10 => ?_, a5, a6, ?_, ?_, by rw [hn']; exact a9⟩
  · rw [hK] at h10 ⊢
    exact a4 i (by rw [← hn']; exact hi) h10
  · rw [← a7]; unfold mm_L; rw [hL]
  · rw [← a8]; unfold mm_X; rw [hL]
theorem mm_Iv.upd {ad cA : Nat → Nat} {tys : List (ClassId × FieldType)} {lsR : Array Slot} {ls : List Value} {h h' : mm_Hp} {H H' : Heap} {locs locs' : List Loc} {cells slots : Nat} {i : Nat} {v : va_E} (hI : mm_Iv D A tS b L xs s ad0 n0 c0 s0 nL ad cA tys lsR ls h H locs cells slots) (hn : h'.1 = h.1) (hK : mm_K h' = mm_K h) (hL : h'.2.2.2.2.2 = h.2.2.2.2.2)
    (hi : mm_en ad cA h' i = v) (ho : ∀ j, j < mm_n h → j ≠ i → mm_en ad cA h' j = mm_en ad cA h j) (hP : va_P D mm_cl ((mm_ws ad cA h).set i (ad i, v)) H') (hD : va_D A ((mm_ws ad cA h).set i (ad i, v))) (hS : va_S A s.heap H' locs') : mm_Iv D A tS b L xs s ad0 n0 c0 s0 nL ad cA tys lsR ls h' H' locs' cells slots := by
  obtain ⟨a1, a2, a3, a4, a5, a6, a7⟩ := hI
  have hn9 : mm_n h' = mm_n h := by unfold mm_n; rw [hn]
  refine ⟨a1.upd hn hK hL hi ho hP hD, hS, a3, ?_, ?_, ?_, fun j hj => a7 j (by rw [hn9] at hj; exact hj)⟩
  · rw [a4]; unfold mm_c; rw [hn]
  · rw [a5]; unfold mm_s; rw [hn]
  · rw [hn9]; exact a6
/-- other locals -/
theorem mm_Iv.loc {ad cA : Nat → Nat} {tys : List (ClassId × FieldType)} {lsR lsR' : Array Slot} {ls ls' : List Value} {h : mm_Hp} {H : Heap} {locs : List Loc} {cells slots : Nat} (hI : mm_Iv D A tS b L xs s ad0 n0 c0 s0 nL ad cA tys lsR ls h H locs cells slots) (hl : mm_LR ad lsR' nL ls') : mm_Iv D A tS b L xs s ad0 n0 c0 s0 nL ad cA tys lsR' ls' h H locs cells slots :=
  ⟨hI.1, hI.2.1, hl, hI.2.2.2⟩
/-- what a walk of the method mi has at hand of the machine -/
def mm_Cx (p : Program) (l : Launch) (s : State) (m : MethodId) (args : Array Value) (meth : Method) (c : Code) (mi nL : Nat) : Prop :=
  p.tables.exec = Jvm.exec ∧ c.code = mm_b mi ∧ meth.sig.returnType = mm_rt mi ∧ c.maxLocals = nL ∧ nL = mm_ml mi ∧ s.vm.findClass (mm_y mi).cls = some m.cls ∧ (∀ w ∈ mm_G, w.before args s = true) ∧ meth.locks = false ∧ ((mm_y mi).name = "<init>" → meth.name = "<init>") ∧ l.stackTraces = false
end MM
end
section
/-! ===== single instructions, 1: constants, locals, arithmetic ===== -/
section MM
variable {p : Program} {l : Launch} {e : Env} {R : Room} {s : State} {m : MethodId} {args : Array Value} {below : List Frame} {meth : Method} {c : Code} {Q : State → Prop} {D : va_G} {A : Nat → Prop} {tS b L : Nat} {xs : Nat → Int32} {ad0 : Nat → Nat} {n0 c0 s0 nL mi : Nat}
theorem mm_dec {mi pc np : Nat} {ins : Instr} {v : Value} {aux : List Nat} (h : mm_ok1 mi pc (ins, np, v, aux) = true) (hs : mm_isw ins = false) : decode (mm_b mi) pc = .ok (ins, mm_il ins) ∧ np = pc + mm_il ins := by
  unfold mm_ok1 at h
  simp only [hs, cond_false, Bool.and_eq_true, decide_eq_true_eq] at h
  exact h
theorem mm_i_const {pc pc' : Nat} {ls st : List Value} {h : mm_Hp} {v : Value}
    (row : ∀ (H : Heap) (locs : List Loc) (cells slots : Nat) (lsR : Array Slot) (rest : List Value), W p l e R s m args below meth c H locs cells slots Q (F0 m pc' lsR (v :: rest)) → W p l e R s m args below meth c H locs cells slots Q (F0 m pc lsR rest)) (hv : ∀ ad, mm_tr ad v = v)
    (K : mm_Go p l e R s m args below meth c Q D A tS b L xs ad0 n0 c0 s0 nL pc' ls (v :: st) h) : mm_Go p l e R s m args below meth c Q D A tS b L xs ad0 n0 c0 s0 nL pc ls st h := by
  intro H locs cells slots lsR ad cA tys hI
  refine row _ _ _ _ _ _ ?_
  have k := K _ _ _ _ _ _ _ _ hI
  rw [List.map_cons, hv] at k
  exact k
theorem mm_i_loadI {pc np : Nat} {aux : List Nat} {ls st : List Value} {h : mm_Hp} {z : mm_St} {i : Nat} (hs : mm_ldI np aux ls st h = some z) (ha : aux = [i])
    (row : ∀ (H : Heap) (locs : List Loc) (cells slots : Nat) (lsR : Array Slot) (rest : List Value) (x : Int32), lsR[i]? = some (.val (.int x)) → W p l e R s m args below meth c H locs cells slots Q (F0 m np lsR (.int x :: rest)) → W p l e R s m args below meth c H locs cells slots Q (F0 m pc lsR rest))
    (K : mm_Go p l e R s m args below meth c Q D A tS b L xs ad0 n0 c0 s0 nL z.1 z.2.1 z.2.2.1 z.2.2.2.1) : mm_Go p l e R s m args below meth c Q D A tS b L xs ad0 n0 c0 s0 nL pc ls st h := by
  subst ha
  simp only [mm_ldI] at hs
  split at hs
  case h_1 x hx =>
    cases hs
    intro H locs cells slots lsR ad cA tys hI
    exact row _ _ _ _ _ _ _ (hI.2.2.1.get hx (by simp)) (K _ _ _ _ _ _ _ _ hI)
  case h_2 => cases hs
theorem mm_i_loadL {pc np : Nat} {aux : List Nat} {ls st : List Value} {h : mm_Hp} {z : mm_St} {i : Nat} (hs : mm_ldL np aux ls st h = some z) (ha : aux = [i])
    (row : ∀ (H : Heap) (locs : List Loc) (cells slots : Nat) (lsR : Array Slot) (rest : List Value) (x : Int64), lsR[i]? = some (.val (.long x)) → W p l e R s m args below meth c H locs cells slots Q (F0 m np lsR (.long x :: rest)) → W p l e R s m args below meth c H locs cells slots Q (F0 m pc lsR rest))
    (K : mm_Go p l e R s m args below meth c Q D A tS b L xs ad0 n0 c0 s0 nL z.1 z.2.1 z.2.2.1 z.2.2.2.1) : mm_Go p l e R s m args below meth c Q D A tS b L xs ad0 n0 c0 s0 nL pc ls st h := by
  subst ha
  simp only [mm_ldL] at hs
  split at hs
  case h_1 x hx =>
    cases hs
    intro H locs cells slots lsR ad cA tys hI
    exact row _ _ _ _ _ _ _ (hI.2.2.1.get hx (by simp)) (K _ _ _ _ _ _ _ _ hI)
  case h_2 => cases hs
theorem mm_i_loadD {pc np : Nat} {aux : List Nat} {ls st : List Value} {h : mm_Hp} {z : mm_St} {i : Nat} (hs : mm_ldD np aux ls st h = some z) (ha : aux = [i])
    (row : ∀ (H : Heap) (locs : List Loc) (cells slots : Nat) (lsR : Array Slot) (rest : List Value) (x : UInt64), lsR[i]? = some (.val (.double x)) → W p l e R s m args below meth c H locs cells slots Q (F0 m np lsR (.double x :: rest)) → W p l e R s m args below meth c H locs cells slots Q (F0 m pc lsR rest))
    (K : mm_Go p l e R s m args below meth c Q D A tS b L xs ad0 n0 c0 s0 nL z.1 z.2.1 z.2.2.1 z.2.2.2.1) : mm_Go p l e R s m args below meth c Q D A tS b L xs ad0 n0 c0 s0 nL pc ls st h := by
  subst ha
  simp only [mm_ldD] at hs
  split at hs
  case h_1 x hx =>
    cases hs
    intro H locs cells slots lsR ad cA tys hI
    exact row _ _ _ _ _ _ _ (hI.2.2.1.get hx (by simp)) (K _ _ _ _ _ _ _ _ hI)
  case h_2 => cases hs
theorem mm_i_loadA {pc np : Nat} {aux : List Nat} {ls st : List Value} {h : mm_Hp} {z : mm_St} {i : Nat} (hs : mm_ldA np aux ls st h = some z) (ha : aux = [i])
    (row : ∀ (H : Heap) (locs : List Loc) (cells slots : Nat) (lsR : Array Slot) (rest : List Value) (x : Nat), lsR[i]? = some (.val (.ref x)) → W p l e R s m args below meth c H locs cells slots Q (F0 m np lsR (.ref x :: rest)) → W p l e R s m args below meth c H locs cells slots Q (F0 m pc lsR rest))
    (K : mm_Go p l e R s m args below meth c Q D A tS b L xs ad0 n0 c0 s0 nL z.1 z.2.1 z.2.2.1 z.2.2.2.1) : mm_Go p l e R s m args below meth c Q D A tS b L xs ad0 n0 c0 s0 nL pc ls st h := by
  subst ha
  simp only [mm_ldA] at hs
  split at hs
  case h_1 x hx =>
    cases hs
    intro H locs cells slots lsR ad cA tys hI
    exact row _ _ _ _ _ _ _ (hI.2.2.1.get hx (by simp)) (K _ _ _ _ _ _ _ _ hI)
  case h_2 => cases hs
abbrev mm_f1 (i : Nat) (lv : List (Nat × Value)) : List (Nat × Value) := lv.filter (fun q => !(q.1 == i) && !(q.1 + 1 == i && q.2.category == 2))
abbrev mm_f2' (i : Nat) (lv : List (Nat × Value)) : List (Nat × Value) := lv.filter (fun q => !(q.1 == i) && (!(q.1 == i + 1) && !(q.1 + 1 == i && q.2.category == 2)))
theorem mm_i_stoI {pc np : Nat} {aux : List Nat} {ls st : List Value} {h : mm_Hp} {z : mm_St} {i : Nat} (hs : mm_stI np aux ls st h = some z) (hP : z.2.2.2.2) (ha : aux = [i])
    (row : ∀ (H : Heap) (locs : List Loc) (cells slots : Nat) (lsR : Array Slot) (rest : List Value) (x : Int32) (lv : List (Nat × Value)), lv_has lsR nL lv → i < nL → (∀ lsR' : Array Slot, lv_has lsR' nL ((i, .int x) :: mm_f1 i lv) → W p l e R s m args below meth c H locs cells slots Q (F0 m np lsR' rest)) → W p l e R s m args below meth c H locs cells slots Q (F0 m pc lsR (.int x :: rest)))
    (K : mm_Go p l e R s m args below meth c Q D A tS b L xs ad0 n0 c0 s0 nL z.1 z.2.1 z.2.2.1 z.2.2.2.1) : mm_Go p l e R s m args below meth c Q D A tS b L xs ad0 n0 c0 s0 nL pc ls st h := by
  subst ha
  unfold mm_stI at hs
  split at hs
  case h_1 i' x r heq =>
    cases heq
    cases hp : mm_pre ls i with
    | true => rw [hp] at hs; cases hs
    | false =>
      rw [hp] at hs
      cases hs
      intro H locs cells slots lsR ad cA tys hI
      exact row _ _ _ _ _ _ _ _ hI.2.2.1.1 (by rw [← hI.2.2.1.2]; exact hP) (fun lsR' h' => K _ _ _ _ _ _ _ _ (hI.loc (hI.2.2.1.set1 hp hP h')))
  case h_2 => cases hs
theorem mm_i_stoA {pc np : Nat} {aux : List Nat} {ls st : List Value} {h : mm_Hp} {z : mm_St} {i : Nat} (hs : mm_stA np aux ls st h = some z) (hP : z.2.2.2.2) (ha : aux = [i])
    (row : ∀ (H : Heap) (locs : List Loc) (cells slots : Nat) (lsR : Array Slot) (rest : List Value) (x : Nat) (lv : List (Nat × Value)), lv_has lsR nL lv → i < nL → (∀ lsR' : Array Slot, lv_has lsR' nL ((i, .ref x) :: mm_f1 i lv) → W p l e R s m args below meth c H locs cells slots Q (F0 m np lsR' rest)) → W p l e R s m args below meth c H locs cells slots Q (F0 m pc lsR (.ref x :: rest)))
    (K : mm_Go p l e R s m args below meth c Q D A tS b L xs ad0 n0 c0 s0 nL z.1 z.2.1 z.2.2.1 z.2.2.2.1) : mm_Go p l e R s m args below meth c Q D A tS b L xs ad0 n0 c0 s0 nL pc ls st h := by
  subst ha
  unfold mm_stA at hs
  split at hs
  case h_1 i' x r heq =>
    cases heq
    cases hp : mm_pre ls i with
    | true => rw [hp] at hs; cases hs
    | false =>
      rw [hp] at hs
      cases hs
      intro H locs cells slots lsR ad cA tys hI
      exact row _ _ _ _ _ _ _ _ hI.2.2.1.1 (by rw [← hI.2.2.1.2]; exact hP) (fun lsR' h' => K _ _ _ _ _ _ _ _ (hI.loc (hI.2.2.1.set1 hp hP h')))
  case h_2 => cases hs
theorem mm_i_stoL {pc np : Nat} {aux : List Nat} {ls st : List Value} {h : mm_Hp} {z : mm_St} {i : Nat} (hs : mm_stL np aux ls st h = some z) (hP : z.2.2.2.2) (ha : aux = [i])
    (row : ∀ (H : Heap) (locs : List Loc) (cells slots : Nat) (lsR : Array Slot) (rest : List Value) (x : Int64) (lv : List (Nat × Value)), lv_has lsR nL lv → i + 1 < nL → (∀ lsR' : Array Slot, lv_has lsR' nL ((i, .long x) :: mm_f2' i lv) → W p l e R s m args below meth c H locs cells slots Q (F0 m np lsR' rest)) → W p l e R s m args below meth c H locs cells slots Q (F0 m pc lsR (.long x :: rest)))
    (K : mm_Go p l e R s m args below meth c Q D A tS b L xs ad0 n0 c0 s0 nL z.1 z.2.1 z.2.2.1 z.2.2.2.1) : mm_Go p l e R s m args below meth c Q D A tS b L xs ad0 n0 c0 s0 nL pc ls st h := by
  subst ha
  unfold mm_stL at hs
  split at hs
  case h_1 i' x r heq =>
    cases heq
    cases hp : mm_pre ls i with
    | true => rw [hp] at hs; cases hs
    | false =>
      rw [hp] at hs
      cases hs
      intro H locs cells slots lsR ad cA tys hI
      exact row _ _ _ _ _ _ _ _ hI.2.2.1.1 (by rw [← hI.2.2.1.2]; exact hP) (fun lsR' h' => K _ _ _ _ _ _ _ _ (hI.loc (hI.2.2.1.set2 hp hP h')))
  case h_2 => cases hs
theorem mm_i_stoD {pc np : Nat} {aux : List Nat} {ls st : List Value} {h : mm_Hp} {z : mm_St} {i : Nat} (hs : mm_stD np aux ls st h = some z) (hP : z.2.2.2.2) (ha : aux = [i])
    (row : ∀ (H : Heap) (locs : List Loc) (cells slots : Nat) (lsR : Array Slot) (rest : List Value) (x : UInt64) (lv : List (Nat × Value)), lv_has lsR nL lv → i + 1 < nL → (∀ lsR' : Array Slot, lv_has lsR' nL ((i, .double x) :: mm_f2' i lv) → W p l e R s m args below meth c H locs cells slots Q (F0 m np lsR' rest)) → W p l e R s m args below meth c H locs cells slots Q (F0 m pc lsR (.double x :: rest)))
    (K : mm_Go p l e R s m args below meth c Q D A tS b L xs ad0 n0 c0 s0 nL z.1 z.2.1 z.2.2.1 z.2.2.2.1) : mm_Go p l e R s m args below meth c Q D A tS b L xs ad0 n0 c0 s0 nL pc ls st h := by
  subst ha
  unfold mm_stD at hs
  split at hs
  case h_1 i' x r heq =>
    cases heq
    cases hp : mm_pre ls i with
    | true => rw [hp] at hs; cases hs
    | false =>
      rw [hp] at hs
      cases hs
      intro H locs cells slots lsR ad cA tys hI
      exact row _ _ _ _ _ _ _ _ hI.2.2.1.1 (by rw [← hI.2.2.1.2]; exact hP) (fun lsR' h' => K _ _ _ _ _ _ _ _ (hI.loc (hI.2.2.1.set2 hp hP h')))
  case h_2 => cases hs
theorem mm_i_inc {pc np : Nat} {aux : List Nat} {ls st : List Value} {h : mm_Hp} {z : mm_St} {i : Nat} {n : Int} {v : Value} (hs : mm_inc np v aux ls st h = some z) (hP : z.2.2.2.2) (ha : aux = [i]) (hv : v = .int (Int32.ofInt n)) (hx : p.tables.exec = Jvm.exec) (hb : c.code = mm_b mi) (hd : decode (mm_b mi) pc = .ok (.iinc i n, 3)) (hnp : np = pc + 3)
    (K : mm_Go p l e R s m args below meth c Q D A tS b L xs ad0 n0 c0 s0 nL z.1 z.2.1 z.2.2.1 z.2.2.2.1) : mm_Go p l e R s m args below meth c Q D A tS b L xs ad0 n0 c0 s0 nL pc ls st h := by
  subst ha
  subst hv
  simp only [mm_inc] at hs
  split at hs
  case h_1 x hg =>
    cases hp : mm_pre ls i with
    | true => rw [hp] at hs; cases hs
    | false =>
      rw [hp] at hs
      cases hs
      intro H locs cells slots lsR ad cA tys hI
      have hm : (i, Value.int x) ∈ mm_asc ad 0 ls := (mm_asc_mem ls 0 (i, .int x)).mpr ⟨i, by simp, by rw [hg]; simp, by rw [hg]; rfl⟩
      obtain ⟨k, hk, hk2⟩ := List.getElem_of_mem hm
      subst hnp
      exact lv_iinc hx hb hd hI.2.2.1.1 (k := k) (by rw [List.getElem?_eq_getElem hk, hk2]) rfl (by rw [← hI.2.2.1.2]; exact hP) rfl (fun lsR' h' => K _ _ _ _ _ _ _ _ (hI.loc (hI.2.2.1.set1 (v := .int (x + Int32.ofInt n)) hp hP h')))
  case h_2 => cases hs
end MM
end
section
/-! ===== single instructions, 2: fields and arrays ===== -/
def mm_nw : Jvm.Cond → Bool
  | .fieldLinkNest .. => true
  | .methodLinkNest .. => true
  | .declares _ => true
  | .castable .. => true
  | _ => false
def mm_NW : List Jvm.Cond := lw_tbl.filter mm_nw
theorem mm_inNW {i : Nat} {w : Jvm.Cond} (h : mm_w i w = true) (g : mm_nw w = true) : w ∈ mm_NW := List.mem_filter.mpr ⟨List.mem_of_getElem? (of_decide_eq_true h), g⟩
/-- what the walk has at hand of cells that are not the world's: the shapes, the script, two statics of Throwable; words that are no good ones; Strings; which classes are not castable -/
def mm_ES (A : Nat → Prop) (tS b L : Nat) (xs : Nat → Int32) (U : State) : Prop :=
  va_T .int tS 30 (fun j => .int (mm_SHP j)) A U U.heap ∧ va_Z "BulbShapes" "SHAPES" "[I" (.ref tS) A U U.heap ∧ (va_X b L xs U U.heap ∧ b < U.heap.size ∧ ¬ A b) ∧
  vx_Zq Bundle.tN "UNASSIGNED_STACK" Bundle.steD A U U.heap ∧ vx_Zq Bundle.tN "SUPPRESSED_SENTINEL" Bundle.listD A U U.heap ∧ (∀ w ∈ mm_NW, va_Nw w U) ∧
  (∀ (i k : Nat) (o tx : String), lw_tbl[i]? = some (.stringRef o k tx) → ∃ sa, vk_R o k tx sa U) ∧ va_AO "BulbShapes$Table" U ∧ va_AO "BulbShapes$Board" U ∧
  (∀ E E' : Nat, (E = 1 ∨ E = 2 ∨ E = 3) → (E' = 1 ∨ E' = 2 ∨ E' = 3) → E ≠ E' → va_Nc (mm_exn E) (mm_exn E') U)
theorem mm_en_ia {ad cA : Nat → Nat} {h : mm_Hp} {i k : Nat} (hk : (mm_K h i).1 = k) (h2 : k = 10 ∨ k = 11) : mm_en ad cA h i = .inl (cA i, (mm_K h i).2, .inl (mm_I h i)) := by
  unfold mm_en
  rw [hk]
  rcases h2 with rfl | rfl <;> rfl
theorem mm_en_la {ad cA : Nat → Nat} {h : mm_Hp} {i : Nat} (hk : (mm_K h i).1 = 12) : mm_en ad cA h i = .inl (cA i, (mm_K h i).2, .inr (.inl (mm_J h i))) := by
  unfold mm_en
  rw [hk]
  rfl
theorem mm_en_ra {ad cA : Nat → Nat} {h : mm_Hp} {i k : Nat} (hk : (mm_K h i).1 = k) (h2 : k = 13 ∨ k = 14) : mm_en ad cA h i = .inl (cA i, (mm_K h i).2, .inr (.inr (.inr (.inr (fun j => mm_orf ad (mm_R h i j)))))) := by
  unfold mm_en
  rw [hk]
  rcases h2 with rfl | rfl <;> rfl
theorem mm_orf_ne {ad : Nat → Nat} {r : Nat} (h : r ≠ 0) : va_rf (mm_orf ad r) = .ref (ad r) := by
  unfold mm_orf
  rw [if_neg h]
  rfl
section MM
variable {p : Program} {l : Launch} {e : Env} {R : Room} {s : State} {m : MethodId} {args : Array Value} {below : List Frame} {meth : Method} {c : Code} {Q : State → Prop} {D : va_G} {A : Nat → Prop} {tS b L : Nat} {xs : Nat → Int32} {ad0 : Nat → Nat} {n0 c0 s0 nL mi : Nat}
set_option maxHeartbeats 1000000 in
theorem mm_i_gf {pc np idx : Nat} {aux : List Nat} {ls st : List Value} {h : mm_Hp} {z : mm_St} (hs : mm_gf np aux ls st h = some z) (hP : z.2.2.2.2) (C : mm_Cx p l s m args meth c mi nL) (hN : ∀ w ∈ mm_NW, va_Nw w s) (hok : mm_okF mi idx aux false = true) (hd : decode (mm_b mi) pc = .ok (.getfield idx, 3)) (hnp : np = pc + 3)
    (K : mm_Go p l e R s m args below meth c Q D A tS b L xs ad0 n0 c0 s0 nL z.1 z.2.1 z.2.2.1 z.2.2.2.1) : mm_Go p l e R s m args below meth c Q D A tS b L xs ad0 n0 c0 s0 nL pc ls st h := by
  obtain ⟨hx, hb, hr, hml, hnl, hown, hts, hlk, hin, hst⟩ := C
  unfold mm_okF at hok
  split at hok
  case h_2 => cases hok
  case h_1 ci k fl ne wi fin =>
    split at hok
    case h_2 => cases hok
    case h_1 C T N hcl =>
      simp only [Bool.and_eq_true, decide_eq_true_eq, Bool.not_false, Bool.true_or, and_true] at hok
      obtain ⟨⟨⟨hk, hNn⟩, hfl⟩, hlink⟩ := hok
      obtain ⟨hci, hin', hty, hnm, hfk⟩ := mm_clf hcl
      unfold mm_gf at hs
      split at hs
      case h_2 => cases hs
      case h_1 ci' k' fl' tl i r heq =>
        injection heq with q1 q2
        injection q2 with q2 q3
        injection q3 with q3 q4
        subst q1; subst q2; subst q3
        subst hnp
        split at hs
        case h_1 hf1 =>
          cases hs
          obtain ⟨⟨hi, hKi⟩, h0⟩ := hP
          intro H locs cells slots lsR ad cA tys hI
          have hW := hI.1
          have he := mm_ws_get (ad := ad) (cA := cA) hi
          rw [mm_en_obj hKi hci] at he
          have hv : (mm_flds ad h i ci)[k]? = some (.ref (ad (mm_R h i k))) := by
            rw [mm_flds_get (by rw [← hNn]; exact hk)]
            unfold mm_fd
            rw [if_pos hfl.symm, mm_orf_ne h0]
          split at hlink
          · exact va_get hx hb hts hin' hown hW.1 hW.2.1 i he hcl k hk (hts _ (mm_inG hlink rfl)) (fun _ h9 => h9) hv hd (K _ _ _ _ _ _ _ _ hI)
          · exact va_getN hx hb hts hin' hown hW.1 hW.2.1 i he hcl k hk (va_Nw.use rfl (hN _ (mm_inNW hlink rfl))) (fun _ h9 => h9) hv hd (K _ _ _ _ _ _ _ _ hI)
        case h_2 hf1 =>
          cases hs
          obtain ⟨hi, hKi⟩ := hP
          intro H locs cells slots lsR ad cA tys hI
          have hW := hI.1
          have he := mm_ws_get (ad := ad) (cA := cA) hi
          rw [mm_en_obj hKi hci] at he
          have hv : (mm_flds ad h i ci)[k]? = some (.int (mm_I h i k)) := by
            rw [mm_flds_get (by rw [← hNn]; exact hk)]
            unfold mm_fd
            rw [if_neg (by rw [← hfl]; exact fun q => hf1 q)]
          split at hlink
          · exact va_get hx hb hts hin' hown hW.1 hW.2.1 i he hcl k hk (hts _ (mm_inG hlink rfl)) (fun _ h9 => h9) hv hd (K _ _ _ _ _ _ _ _ hI)
          · exact va_getN hx hb hts hin' hown hW.1 hW.2.1 i he hcl k hk (va_Nw.use rfl (hN _ (mm_inNW hlink rfl))) (fun _ h9 => h9) hv hd (K _ _ _ _ _ _ _ _ hI)
theorem mm_fit_int (x : Int32) : narrow .int (.int x) = .int x ∧ fits .int (.int x) = true := ⟨rfl, rfl⟩
theorem mm_fit_bool {x : Int32} (h : x = 0 ∨ x = 1) : narrow .boolean (.int x) = .int x ∧ fits .boolean (.int x) = true := by
  rcases h with rfl | rfl <;> exact ⟨rfl, by decide⟩
theorem mm_fit_ref {ty : FieldType} (h : mm_isr ty = true) (a : Nat) : narrow ty (.ref a) = .ref a ∧ fits ty (.ref a) = true := by
  cases ty <;> first | exact ⟨rfl, rfl⟩ | cases h
set_option maxHeartbeats 1000000 in
theorem mm_i_pf {pc np idx : Nat} {aux : List Nat} {ls st : List Value} {h : mm_Hp} {z : mm_St} (hs : mm_pf np aux ls st h = some z) (hP : z.2.2.2.2) (C : mm_Cx p l s m args meth c mi nL) (hN : ∀ w ∈ mm_NW, va_Nw w s) (hok : mm_okF mi idx aux true = true) (hd : decode (mm_b mi) pc = .ok (.putfield idx, 3)) (hnp : np = pc + 3)
    (K : mm_Go p l e R s m args below meth c Q D A tS b L xs ad0 n0 c0 s0 nL z.1 z.2.1 z.2.2.1 z.2.2.2.1) : mm_Go p l e R s m args below meth c Q D A tS b L xs ad0 n0 c0 s0 nL pc ls st h := by
  obtain ⟨hx, hb, hr, hml, hnl, hown, hts, hlk, hin, hst⟩ := C
  unfold mm_okF at hok
  split at hok
  case h_2 => cases hok
  case h_1 ci k fl ne wi fin =>
    split at hok
    case h_2 => cases hok
    case h_1 C T N hcl =>
      simp only [Bool.and_eq_true, decide_eq_true_eq, Bool.not_true, Bool.false_or] at hok
      obtain ⟨⟨⟨⟨hk, hNn⟩, hfl⟩, hlink⟩, hfin⟩ := hok
      obtain ⟨hci, hin', hty, hnm, hfk⟩ := mm_clf hcl
      have key : ∀ (i : Nat) (v : Value) (r : List Value) (h' : mm_Hp), mm_ob h i ci → h'.1 = h.1 → mm_K h' = mm_K h → h'.2.2.2.2.2 = h.2.2.2.2.2 → (∀ ad, mm_fd ad h' i ci k = mm_tr ad v) → (∀ ad j, j ≠ k → mm_fd ad h' i ci j = mm_fd ad h i ci j) → (∀ ad cA j, j ≠ i → mm_en ad cA h' j = mm_en ad cA h j) → (∀ ad, narrow (mm_ty ci k) (mm_tr ad v) = mm_tr ad v ∧ fits (mm_ty ci k) (mm_tr ad v) = true) →
          mm_Go p l e R s m args below meth c Q D A tS b L xs ad0 n0 c0 s0 nL (pc + 3) ls r h' → mm_Go p l e R s m args below meth c Q D A tS b L xs ad0 n0 c0 s0 nL pc ls (v :: .ref i :: r) h := by
        intro i v r h' hob hn hK hL hv ho hoe hft K H locs cells slots lsR ad cA tys hI
        have hW := hI.1
        have he := mm_ws_get (ad := ad) (cA := cA) hob.1
        rw [mm_en_obj hob.2 hci] at he
        have hset : (mm_flds ad h i ci).set k (mm_tr ad v) = mm_flds ad h' i ci := mm_flds_set (hv ad) (ho ad)
        have hen : mm_en ad cA h' i = .inr (ci, (mm_flds ad h i ci).set k (mm_tr ad v)) := by
          rw [hset]; exact mm_en_obj (by rw [hK]; exact hob.2) hci
        have fin' : ∀ (H1 : Heap) (locs1 : List Loc), va_P D mm_cl ((mm_ws ad cA h).set i (ad i, .inr (ci, (mm_flds ad h i ci).set k (mm_tr ad v)))) H1 → va_D A ((mm_ws ad cA h).set i (ad i, .inr (ci, (mm_flds ad h i ci).set k (mm_tr ad v)))) → va_S A s.heap H1 locs1 → W p l e R s m args below meth c H1 locs1 cells slots Q (F0 m (pc + 3) lsR (r.map (mm_tr ad))) :=
          fun H1 locs1 hP hD hS => K _ _ _ _ _ _ _ _ (hI.upd hn hK hL hen (fun j _ hj => hoe ad cA j hj) hP hD hS)
        split at hlink
        · split at hfin
          · exact va_put hx hb hts hin' (mm_ty ci) hty hnm hown hW.1 hW.2.1 hW.2.2.1 hI.2.1 i he hcl k hk (hts _ (mm_inG hlink rfl)) (fun _ h9 => h9) (of_decide_eq_true hfin) (hty k hk) (hft ad).1 (hft ad).2 (by rw [mm_flds_len, ← hNn]; exact hk) hd fin'
          · simp only [Bool.and_eq_true, decide_eq_true_eq] at hfin
            exact va_putF hx hb hts hin' (mm_ty ci) hty hnm hown hW.1 hW.2.1 hW.2.2.1 hI.2.1 i he hcl k hk (hts _ (mm_inG hlink rfl)) (fun _ h9 => h9) hfin.1.1.1 (hin hfin.1.1.2) hfin.1.2 (hty k hk) (hft ad).1 (hft ad).2 (by rw [mm_flds_len, ← hNn]; exact hk) hd fin'
        · rename_i hne
          split at hfin
          · exact va_putN hx hb hts hin' (mm_ty ci) hty hnm hown hW.1 hW.2.1 hW.2.2.1 hI.2.1 i he hcl k hk (va_Nw.use rfl (hN _ (mm_inNW hlink rfl))) (fun _ h9 => h9) (of_decide_eq_true hfin) (hty k hk) (hft ad).1 (hft ad).2 (by rw [mm_flds_len, ← hNn]; exact hk) hd fin'
          · simp only [Bool.and_eq_true, decide_eq_true_eq] at hfin
            exact absurd hfin.2 (fun q => hne q)
      unfold mm_pf at hs
      split at hs
      case h_2 => cases hs
      case h_1 ci' k' fl' tl v i r heq =>
        injection heq with q1 q2
        injection q2 with q2 q3
        injection q3 with q3 q4
        subst q1; subst q2; subst q3
        subst hnp
        split at hs
        case h_1 j =>
          cases hs
          obtain ⟨hob, hj⟩ := hP
          have hty9 : mm_isr (mm_ty ci k) = true := by
            rcases mm_fok_at hfk hk with h9 | h9 | h9
            · rw [← hfl] at h9; exact absurd h9.1 (by decide)
            · rw [← hfl] at h9; exact absurd h9.1 (by decide)
            · exact h9.2
          refine key i (.ref j) r (mm_sR h (va_up (mm_R h) i (va_up (mm_R h i) k j))) hob rfl rfl rfl (fun ad => ?_) (fun ad j' hj' => ?_) (fun ad cA j' hj' => ?_) (fun ad => mm_fit_ref hty9 _) K
          · unfold mm_fd
            rw [if_pos hfl.symm]
            show va_rf (mm_orf ad (va_up (mm_R h) i (va_up (mm_R h i) k j) i k)) = .ref (ad j)
            rw [mm_up_self, mm_up_self, mm_orf_ne hj]
          · unfold mm_fd
            show (if mm_ft ci j' = 1 then va_rf (mm_orf ad (va_up (mm_R h) i (va_up (mm_R h i) k j) i j')) else _) = _
            rw [mm_up_self, mm_up_ne _ _ hj']
            rfl
          · exact mm_en_congr rfl (mm_up_ne _ _ hj') rfl rfl
        case h_2 x =>
          cases hs
          obtain ⟨hob, hx01⟩ := hP
          have hty9 : mm_ty ci k = .boolean := by
            rcases mm_fok_at hfk hk with h9 | h9 | h9
            · rw [← hfl] at h9; exact absurd h9.1 (by decide)
            · exact h9.2
            · rw [← hfl] at h9; exact absurd h9.1 (by decide)
          refine key i (.int x) r (mm_sI h (va_up (mm_I h) i (upd (mm_I h i) k x))) hob rfl rfl rfl (fun ad => ?_) (fun ad j' hj' => ?_) (fun ad cA j' hj' => ?_) (fun ad => by rw [hty9]; exact mm_fit_bool hx01) K
          · unfold mm_fd
            rw [if_neg (by rw [← hfl]; decide)]
            show Value.int (va_up (mm_I h) i (upd (mm_I h i) k x) i k) = .int x
            rw [mm_up_self, pk_us]
          · unfold mm_fd
            show (if mm_ft ci j' = 1 then _ else Value.int (va_up (mm_I h) i (upd (mm_I h i) k x) i j')) = _
            rw [mm_up_self, pk_un hj']
            rfl
          · exact mm_en_congr rfl rfl (mm_up_ne _ _ hj') rfl
        case h_3 x =>
          cases hs
          have hty9 : mm_ty ci k = .int := by
            rcases mm_fok_at hfk hk with h9 | h9 | h9
            · exact h9.2
            · rw [← hfl] at h9; exact absurd h9.1 (by decide)
            · rw [← hfl] at h9; exact absurd h9.1 (by decide)
          refine key i (.int x) r (mm_sI h (va_up (mm_I h) i (upd (mm_I h i) k x))) hP rfl rfl rfl (fun ad => ?_) (fun ad j' hj' => ?_) (fun ad cA j' hj' => ?_) (fun ad => by rw [hty9]; exact mm_fit_int x) K
          · unfold mm_fd
            rw [if_neg (by rw [← hfl]; decide)]
            show Value.int (va_up (mm_I h) i (upd (mm_I h i) k x) i k) = .int x
            rw [mm_up_self, pk_us]
          · unfold mm_fd
            show (if mm_ft ci j' = 1 then _ else Value.int (va_up (mm_I h) i (upd (mm_I h i) k x) i j')) = _
            rw [mm_up_self, pk_un hj']
            rfl
          · exact mm_en_congr rfl rfl (mm_up_ne _ _ hj') rfl
        case h_4 => cases hs
end MM
end
section
/-! ===== single instructions, 3: arrays, statics, what is new ===== -/
section MM
variable {p : Program} {l : Launch} {e : Env} {R : Room} {s : State} {m : MethodId} {args : Array Value} {below : List Frame} {meth : Method} {c : Code} {Q : State → Prop} {D : va_G} {A : Nat → Prop} {tS b L : Nat} {xs : Nat → Int32} {ad0 : Nat → Nat} {n0 c0 s0 nL mi : Nat}
theorem mm_i_ial {pc np : Nat} {aux : List Nat} {ls st : List Value} {h : mm_Hp} {z : mm_St} (hs : mm_ial np aux ls st h = some z) (hP : z.2.2.2.2) (C : mm_Cx p l s m args meth c mi nL) (E : mm_ES A tS b L xs s) (hd : decode (mm_b mi) pc = .ok (.iaload, 1)) (hnp : np = pc + 1)
    (K : mm_Go p l e R s m args below meth c Q D A tS b L xs ad0 n0 c0 s0 nL z.1 z.2.1 z.2.2.1 z.2.2.2.1) : mm_Go p l e R s m args below meth c Q D A tS b L xs ad0 n0 c0 s0 nL pc ls st h := by
  subst hnp
  obtain ⟨hx, hb, hr, hml, hnl, hown, hts, hlk, hin, hst⟩ := C
  obtain ⟨eS, eZ, ⟨eX1, eX2, eX3⟩, -⟩ := E
  unfold mm_ial at hs
  split at hs
  case h_1 x i r =>
    cases hs
    obtain ⟨hi, hk, hv⟩ := hP
    intro H locs cells slots lsR ad cA tys hI
    have hW := hI.1
    have he := mm_ws_get (ad := ad) (cA := cA) hi
    rw [mm_en_ia hk (Or.inl rfl)] at he
    obtain ⟨t0, ht⟩ := hW.2.2.2.1 i hi (by rw [hk]; decide)
    rw [hk] at ht
    exact va_iald hx hb hW.1 hW.2.1 i t0 he ht hv hd (K _ _ _ _ _ _ _ _ hI)
  case h_2 x i r =>
    cases hs
    obtain ⟨rfl, hv⟩ := hP
    intro H locs cells slots lsR ad cA tys hI
    have hW := hI.1
    have k := K _ _ _ _ _ _ _ _ hI
    have h6 : ad 1001 = b := hW.2.2.2.2.2.1
    have h7 : mm_L h = L := hW.2.2.2.2.2.2.1
    have h8 : mm_X h = xs := hW.2.2.2.2.2.2.2.1
    rw [h7] at hv
    have k2 : W p l e R s m args below meth c H locs cells slots Q (F0 m (pc + 1) lsR (.int (xs x.toNatClampNeg) :: r.map (mm_tr ad))) := by rw [← h8]; exact k
    show W p l e R s m args below meth c H locs cells slots Q (F0 m pc lsR (.int x :: .ref (ad 1001) :: r.map (mm_tr ad)))
    rw [h6]
    exact va_sld hx hb eX1 eX2 eX3 hI.2.1 hv hd k2
  case h_3 x i r =>
    cases hs
    obtain ⟨rfl, hv⟩ := hP
    intro H locs cells slots lsR ad cA tys hI
    have hW := hI.1
    have k := K _ _ _ _ _ _ _ _ hI
    have h5 : ad 1000 = tS := hW.2.2.2.2.1
    show W p l e R s m args below meth c H locs cells slots Q (F0 m pc lsR (.int x :: .ref (ad 1000) :: r.map (mm_tr ad)))
    rw [h5]
    exact va_ti hx hb eS hI.2.1 hv rfl hd k
  case h_4 => cases hs
theorem mm_i_alen {pc np : Nat} {ls st : List Value} {h : mm_Hp} {z : mm_St} (hs : mm_alen np ls st h = some z) (hP : z.2.2.2.2) (C : mm_Cx p l s m args meth c mi nL) (E : mm_ES A tS b L xs s) (hd : decode (mm_b mi) pc = .ok (.arraylength, 1)) (hnp : np = pc + 1)
    (K : mm_Go p l e R s m args below meth c Q D A tS b L xs ad0 n0 c0 s0 nL z.1 z.2.1 z.2.2.1 z.2.2.2.1) : mm_Go p l e R s m args below meth c Q D A tS b L xs ad0 n0 c0 s0 nL pc ls st h := by
  subst hnp
  obtain ⟨hx, hb, hr, hml, hnl, hown, hts, hlk, hin, hst⟩ := C
  obtain ⟨eS, eZ, ⟨eX1, eX2, eX3⟩, -⟩ := E
  unfold mm_alen at hs
  split at hs
  case h_1 i r =>
    cases hs
    have hP : i = 1001 := hP
    subst hP
    intro H locs cells slots lsR ad cA tys hI
    have hW := hI.1
    have k := K _ _ _ _ _ _ _ _ hI
    have h6 : ad 1001 = b := hW.2.2.2.2.2.1
    have h7 : mm_L h = L := hW.2.2.2.2.2.2.1
    have k2 : W p l e R s m args below meth c H locs cells slots Q (F0 m (pc + 1) lsR (.int (Int32.ofNat L) :: r.map (mm_tr ad))) := by rw [← h7]; exact k
    show W p l e R s m args below meth c H locs cells slots Q (F0 m pc lsR (.ref (ad 1001) :: r.map (mm_tr ad)))
    rw [h6]
    exact va_slen hx hb eX1 eX2 eX3 hI.2.1 hd k2
  case h_2 => cases hs
theorem mm_i_gs {pc np wi idx : Nat} {ls st : List Value} {h : mm_Hp} (C : mm_Cx p l s m args meth c mi nL) (E : mm_ES A tS b L xs s) (hw : mm_w wi (.fieldLinkNest (mm_y mi).cls idx "BulbShapes" "SHAPES" "[I" "BulbShapes") = true) (hd : decode (mm_b mi) pc = .ok (.getstatic idx, 3)) (hnp : np = pc + 3)
    (K : mm_Go p l e R s m args below meth c Q D A tS b L xs ad0 n0 c0 s0 nL np ls (.ref 1000 :: st) h) : mm_Go p l e R s m args below meth c Q D A tS b L xs ad0 n0 c0 s0 nL pc ls st h := by
  subst hnp
  obtain ⟨hx, hb, hr, hml, hnl, hown, hts, hlk, hin, hst⟩ := C
  obtain ⟨-, eZ, -, -, -, hN, -⟩ := E
  intro H locs cells slots lsR ad cA tys hI
  have hW := hI.1
  have k := K _ _ _ _ _ _ _ _ hI
  have h5 : ad 1000 = tS := hW.2.2.2.2.1
  have k2 : W p l e R s m args below meth c H locs cells slots Q (F0 m (pc + 3) lsR (.ref tS :: st.map (mm_tr ad))) := by rw [← h5]; exact k
  exact va_getsN hx hb eZ hI.2.1 hown (va_Nw.use rfl (hN _ (mm_inNW hw rfl))) (fun _ h9 => h9) hd k2
theorem mm_i_cal {pc np : Nat} {ls st : List Value} {h : mm_Hp} {z : mm_St} (hs : mm_cal np ls st h = some z) (hP : z.2.2.2.2) (C : mm_Cx p l s m args meth c mi nL) (hd : decode (mm_b mi) pc = .ok (.caload, 1)) (hnp : np = pc + 1)
    (K : mm_Go p l e R s m args below meth c Q D A tS b L xs ad0 n0 c0 s0 nL z.1 z.2.1 z.2.2.1 z.2.2.2.1) : mm_Go p l e R s m args below meth c Q D A tS b L xs ad0 n0 c0 s0 nL pc ls st h := by
  subst hnp
  obtain ⟨hx, hb, hr, hml, hnl, hown, hts, hlk, hin, hst⟩ := C
  unfold mm_cal at hs
  split at hs
  case h_1 x i r =>
    cases hs
    obtain ⟨hi, hk, hv⟩ := hP
    intro H locs cells slots lsR ad cA tys hI
    have hW := hI.1
    have he := mm_ws_get (ad := ad) (cA := cA) hi
    rw [mm_en_ia hk (Or.inr rfl)] at he
    obtain ⟨t0, ht⟩ := hW.2.2.2.1 i hi (by rw [hk]; decide)
    rw [hk] at ht
    exact va_cald hx hb hW.1 hW.2.1 i t0 he ht hv hd (K _ _ _ _ _ _ _ _ hI)
  case h_2 => cases hs
theorem mm_i_lal {pc np : Nat} {ls st : List Value} {h : mm_Hp} {z : mm_St} (hs : mm_lal np ls st h = some z) (hP : z.2.2.2.2) (C : mm_Cx p l s m args meth c mi nL) (hd : decode (mm_b mi) pc = .ok (.laload, 1)) (hnp : np = pc + 1)
    (K : mm_Go p l e R s m args below meth c Q D A tS b L xs ad0 n0 c0 s0 nL z.1 z.2.1 z.2.2.1 z.2.2.2.1) : mm_Go p l e R s m args below meth c Q D A tS b L xs ad0 n0 c0 s0 nL pc ls st h := by
  subst hnp
  obtain ⟨hx, hb, hr, hml, hnl, hown, hts, hlk, hin, hst⟩ := C
  unfold mm_lal at hs
  split at hs
  case h_1 x i r =>
    cases hs
    obtain ⟨hi, hk, hv⟩ := hP
    intro H locs cells slots lsR ad cA tys hI
    have hW := hI.1
    have he := mm_ws_get (ad := ad) (cA := cA) hi
    rw [mm_en_la hk] at he
    obtain ⟨t0, ht⟩ := hW.2.2.2.1 i hi (by rw [hk]; decide)
    rw [hk] at ht
    exact va_lald hx hb hW.1 hW.2.1 i t0 he ht hv hd (K _ _ _ _ _ _ _ _ hI)
  case h_2 => cases hs
theorem mm_i_aal {pc np : Nat} {ls st : List Value} {h : mm_Hp} {z : mm_St} (hs : mm_aal np ls st h = some z) (hP : z.2.2.2.2) (C : mm_Cx p l s m args meth c mi nL) (hd : decode (mm_b mi) pc = .ok (.aaload, 1)) (hnp : np = pc + 1)
    (K : mm_Go p l e R s m args below meth c Q D A tS b L xs ad0 n0 c0 s0 nL z.1 z.2.1 z.2.2.1 z.2.2.2.1) : mm_Go p l e R s m args below meth c Q D A tS b L xs ad0 n0 c0 s0 nL pc ls st h := by
  subst hnp
  obtain ⟨hx, hb, hr, hml, hnl, hown, hts, hlk, hin, hst⟩ := C
  unfold mm_aal at hs
  split at hs
  case h_1 x i r =>
    cases hs
    obtain ⟨har, h0⟩ := hP
    intro H locs cells slots lsR ad cA tys hI
    have hW := hI.1
    have k := K _ _ _ _ _ _ _ _ hI
    have k2 : W p l e R s m args below meth c H locs cells slots Q (F0 m (pc + 1) lsR (va_rf (mm_orf ad (mm_R h i x.toNatClampNeg)) :: r.map (mm_tr ad))) := by rw [mm_orf_ne h0]; exact k
    rcases har with ⟨hi, hk, hv⟩ | ⟨hi, hk, hv⟩
    · have he := mm_ws_get (ad := ad) (cA := cA) hi
      rw [mm_en_ra hk (Or.inl rfl)] at he
      obtain ⟨t0, ht⟩ := hW.2.2.2.1 i hi (by rw [hk]; decide)
      rw [hk] at ht
      exact va_aldq hx hb hW.1 hW.2.1 i t0 he ht hv hd k2
    · have he := mm_ws_get (ad := ad) (cA := cA) hi
      rw [mm_en_ra hk (Or.inr rfl)] at he
      obtain ⟨t0, ht⟩ := hW.2.2.2.1 i hi (by rw [hk]; decide)
      rw [hk] at ht
      exact va_aldq hx hb hW.1 hW.2.1 i t0 he ht hv hd k2
  case h_2 => cases hs
theorem mm_i_ias {pc np : Nat} {ls st : List Value} {h : mm_Hp} {z : mm_St} (hs : mm_ias np ls st h = some z) (hP : z.2.2.2.2) (C : mm_Cx p l s m args meth c mi nL) (hd : decode (mm_b mi) pc = .ok (.iastore, 1)) (hnp : np = pc + 1)
    (K : mm_Go p l e R s m args below meth c Q D A tS b L xs ad0 n0 c0 s0 nL z.1 z.2.1 z.2.2.1 z.2.2.2.1) : mm_Go p l e R s m args below meth c Q D A tS b L xs ad0 n0 c0 s0 nL pc ls st h := by
  subst hnp
  obtain ⟨hx, hb, hr, hml, hnl, hown, hts, hlk, hin, hst⟩ := C
  unfold mm_ias at hs
  split at hs
  case h_1 x j i r =>
    cases hs
    obtain ⟨hi, hk, hv⟩ := hP
    intro H locs cells slots lsR ad cA tys hI
    have hW := hI.1
    have he := mm_ws_get (ad := ad) (cA := cA) hi
    rw [mm_en_ia hk (Or.inl rfl)] at he
    obtain ⟨t0, ht⟩ := hW.2.2.2.1 i hi (by rw [hk]; decide)
    rw [hk] at ht
    refine va_iast hx hb hW.1 hW.2.1 hW.2.2.1 hI.2.1 i t0 he ht hv hd (fun H1 locs1 hP1 hD1 hS1 => K _ _ _ _ _ _ _ _ (hI.upd (h' := mm_sI h (va_up (mm_I h) i (upd (mm_I h i) j.toNatClampNeg x))) rfl rfl rfl ?_ (fun j' _ hj' => mm_en_congr rfl rfl (mm_up_ne _ _ hj') rfl) hP1 hD1 hS1))
    rw [mm_en_ia (h := mm_sI h (va_up (mm_I h) i (upd (mm_I h i) j.toNatClampNeg x))) (k := 10) hk (Or.inl rfl)]
    show Sum.inl (cA i, (mm_K h i).2, Sum.inl (va_up (mm_I h) i (upd (mm_I h i) j.toNatClampNeg x) i)) = _
    rw [mm_up_self]
  case h_2 => cases hs
theorem mm_i_cas {pc np : Nat} {ls st : List Value} {h : mm_Hp} {z : mm_St} (hs : mm_cas np ls st h = some z) (hP : z.2.2.2.2) (C : mm_Cx p l s m args meth c mi nL) (hd : decode (mm_b mi) pc = .ok (.castore, 1)) (hnp : np = pc + 1)
    (K : mm_Go p l e R s m args below meth c Q D A tS b L xs ad0 n0 c0 s0 nL z.1 z.2.1 z.2.2.1 z.2.2.2.1) : mm_Go p l e R s m args below meth c Q D A tS b L xs ad0 n0 c0 s0 nL pc ls st h := by
  subst hnp
  obtain ⟨hx, hb, hr, hml, hnl, hown, hts, hlk, hin, hst⟩ := C
  unfold mm_cas at hs
  split at hs
  case h_1 x j i r =>
    cases hs
    obtain ⟨⟨hi, hk, hv⟩, hnar⟩ := hP
    intro H locs cells slots lsR ad cA tys hI
    have hW := hI.1
    have he := mm_ws_get (ad := ad) (cA := cA) hi
    rw [mm_en_ia hk (Or.inr rfl)] at he
    obtain ⟨t0, ht⟩ := hW.2.2.2.1 i hi (by rw [hk]; decide)
    rw [hk] at ht
    refine va_cast hx hb hW.1 hW.2.1 hW.2.2.1 hI.2.1 i t0 he ht hv hd (fun H1 locs1 hP1 hD1 hS1 => K _ _ _ _ _ _ _ _ (hI.upd (h' := mm_sI h (va_up (mm_I h) i (upd (mm_I h i) j.toNatClampNeg x))) rfl rfl rfl ?_ (fun j' _ hj' => mm_en_congr rfl rfl (mm_up_ne _ _ hj') rfl) hP1 hD1 hS1))
    rw [mm_en_ia (h := mm_sI h (va_up (mm_I h) i (upd (mm_I h i) j.toNatClampNeg x))) (k := 11) hk (Or.inr rfl)]
    show Sum.inl (cA i, (mm_K h i).2, Sum.inl (va_up (mm_I h) i (upd (mm_I h i) j.toNatClampNeg x) i)) = _
    rw [mm_up_self, hnar]
  case h_2 => cases hs
theorem mm_i_las {pc np : Nat} {ls st : List Value} {h : mm_Hp} {z : mm_St} (hs : mm_las np ls st h = some z) (hP : z.2.2.2.2) (C : mm_Cx p l s m args meth c mi nL) (hd : decode (mm_b mi) pc = .ok (.lastore, 1)) (hnp : np = pc + 1)
    (K : mm_Go p l e R s m args below meth c Q D A tS b L xs ad0 n0 c0 s0 nL z.1 z.2.1 z.2.2.1 z.2.2.2.1) : mm_Go p l e R s m args below meth c Q D A tS b L xs ad0 n0 c0 s0 nL pc ls st h := by
  subst hnp
  obtain ⟨hx, hb, hr, hml, hnl, hown, hts, hlk, hin, hst⟩ := C
  unfold mm_las at hs
  split at hs
  case h_1 x j i r =>
    cases hs
    obtain ⟨hi, hk, hv⟩ := hP
    intro H locs cells slots lsR ad cA tys hI
    have hW := hI.1
    have he := mm_ws_get (ad := ad) (cA := cA) hi
    rw [mm_en_la hk] at he
    obtain ⟨t0, ht⟩ := hW.2.2.2.1 i hi (by rw [hk]; decide)
    rw [hk] at ht
    refine va_last hx hb hW.1 hW.2.1 hW.2.2.1 hI.2.1 i t0 he ht hv hd (fun H1 locs1 hP1 hD1 hS1 => K _ _ _ _ _ _ _ _ (hI.upd (h' := mm_sJ h (va_up (mm_J h) i (vp_updL (mm_J h i) j.toNatClampNeg x))) rfl rfl rfl ?_ (fun j' _ hj' => mm_en_congr rfl rfl rfl (mm_up_ne _ _ hj')) hP1 hD1 hS1))
    rw [mm_en_la (h := mm_sJ h (va_up (mm_J h) i (vp_updL (mm_J h i) j.toNatClampNeg x))) hk]
    show Sum.inl (cA i, (mm_K h i).2, Sum.inr (Sum.inl (va_up (mm_J h) i (vp_updL (mm_J h i) j.toNatClampNeg x) i))) = _
    rw [mm_up_self]
  case h_2 => cases hs
theorem mm_orf_up {ad : Nat → Nat} {f : Nat → Nat} {k q : Nat} (hq : q ≠ 0) : (fun j => mm_orf ad (va_up f k q j)) = va_up (fun j => mm_orf ad (f j)) k (some (ad q)) := by
  funext j
  by_cases h : j = k
  · subst h
    rw [mm_up_self, mm_up_self]
    unfold mm_orf
    rw [if_neg hq]
  · rw [mm_up_ne _ _ h, mm_up_ne _ _ h]
theorem mm_i_aas {pc np : Nat} {ls st : List Value} {h : mm_Hp} {z : mm_St} (hs : mm_aas np ls st h = some z) (hP : z.2.2.2.2) (C : mm_Cx p l s m args meth c mi nL) (hd : decode (mm_b mi) pc = .ok (.aastore, 1)) (hnp : np = pc + 1)
    (K : mm_Go p l e R s m args below meth c Q D A tS b L xs ad0 n0 c0 s0 nL z.1 z.2.1 z.2.2.1 z.2.2.2.1) : mm_Go p l e R s m args below meth c Q D A tS b L xs ad0 n0 c0 s0 nL pc ls st h := by
  subst hnp
  obtain ⟨hx, hb, hr, hml, hnl, hown, hts, hlk, hin, hst⟩ := C
  unfold mm_aas at hs
  split at hs
  case h_1 q j i r =>
    cases hs
    obtain ⟨hor, h0⟩ := hP
    have key : ∀ (k ci : Nat) (rr : vw_C), (k = 13 ∨ k = 14) → mm_ar h i k j → mm_ob h q ci → ci < 6 → mm_cl[ci]? = some rr → mm_aty k = .object rr.1 → mm_Go p l e R s m args below meth c Q D A tS b L xs ad0 n0 c0 s0 nL pc ls (.ref q :: .int j :: .ref i :: r) h := by
      intro k ci rr hk2 ⟨hi, hk, hv⟩ ⟨hq, hkq⟩ hc6 hcl hat H locs cells slots lsR ad cA tys hI
      have hW := hI.1
      have he := mm_ws_get (ad := ad) (cA := cA) hi
      rw [mm_en_ra hk hk2] at he
      have hq9 := mm_ws_get (ad := ad) (cA := cA) hq
      rw [mm_en_obj hkq hc6] at hq9
      obtain ⟨t0, ht⟩ := hW.2.2.2.1 i hi (by rw [hk]; omega)
      rw [hk, hat] at ht
      refine va_astq hx hb hW.1 hW.2.1 hW.2.2.1 hI.2.1 i t0 q ci he ht hq9 hcl hv hd (fun H1 locs1 hP1 hD1 hS1 => K _ _ _ _ _ _ _ _ (hI.upd (h' := mm_sR h (va_up (mm_R h) i (va_up (mm_R h i) j.toNatClampNeg q))) rfl rfl rfl ?_ (fun j' _ hj' => mm_en_congr rfl (mm_up_ne _ _ hj') rfl rfl) hP1 hD1 hS1))
      rw [mm_en_ra (h := mm_sR h (va_up (mm_R h) i (va_up (mm_R h i) j.toNatClampNeg q))) hk hk2]
      show Sum.inl (cA i, (mm_K h i).2, Sum.inr (Sum.inr (Sum.inr (Sum.inr (fun j' => mm_orf ad (va_up (mm_R h) i (va_up (mm_R h i) j.toNatClampNeg q) i j')))))) = _
      rw [mm_up_self, mm_orf_up h0]
    rcases hor with ⟨h1, h2⟩ | ⟨h1, h2⟩
    · exact key 13 2 (RX2, TX2, 3) (Or.inl rfl) h1 h2 (by decide) rfl rfl
    · exact key 14 0 (RX0, TX0, 6) (Or.inr rfl) h1 h2 (by decide) rfl rfl
  case h_2 => cases hs
end MM
end
section
/-! ===== single instructions, 4: what is made; calls of the machine's own ===== -/
section MM
variable {p : Program} {l : Launch} {e : Env} {R : Room} {s : State} {m : MethodId} {args : Array Value} {below : List Frame} {meth : Method} {c : Code} {Q : State → Prop} {D : va_G} {A : Nat → Prop} {tS b L : Nat} {xs : Nat → Int32} {ad0 : Nat → Nat} {n0 c0 s0 nL mi : Nat}
theorem mm_fresh_ad {ad : Nat → Nat} {q : Nat} {ls st : List Value} {h : mm_Hp} (hf : mm_fresh ls st h) : (∀ v ∈ ls, ∀ j : Nat, v = .ref j → va_up ad (mm_n h) q j = ad j) ∧ (∀ v ∈ st, ∀ j : Nat, v = .ref j → va_up ad (mm_n h) q j = ad j) :=
  ⟨fun v hv j hj => mm_up_ne _ _ (hf.2.1 v (List.mem_append_left _ hv) j hj), fun v hv j hj => mm_up_ne _ _ (hf.2.1 v (List.mem_append_right _ hv) j hj)⟩
theorem mm_Iv.new {ad cA : Nat → Nat} {tys tys' : List (ClassId × FieldType)} {lsR : Array Slot} {ls st : List Value} {h : mm_Hp} {H H' : Heap} {locs : List Loc} {cells slots q cN k len w : Nat} {en : va_E} (hI : mm_Iv D A tS b L xs s ad0 n0 c0 s0 nL ad cA tys lsR ls h H locs cells slots) (hf : mm_fresh ls st h)
    (hK : va_K D mm_cl tys' s) (ht : ∀ (i : Nat) (z : ClassId × FieldType), tys[i]? = some z → tys'[i]? = some z) (ht2 : 10 ≤ k → ∃ t0 : Nat, tys'[t0]? = some (cN, mm_aty k)) (hen : mm_en (va_up ad (mm_n h) q) (va_up cA (mm_n h) cN) (mm_al h k len w) (mm_n h) = en)
    (hP : va_P D mm_cl (mm_ws ad cA h ++ [(q, en)]) H') (hD : va_D A (mm_ws ad cA h ++ [(q, en)])) (hS : va_S A s.heap H' locs) : mm_Iv D A tS b L xs s ad0 n0 c0 s0 nL (va_up ad (mm_n h) q) (va_up cA (mm_n h) cN) tys' lsR ls (mm_al h k len w) H' locs (cells + 1) (slots + w) := by
  obtain ⟨⟨a1, a2, a3, a4, a5, a6, a7, a8, a9⟩, b2, b3, b4, b5, b6, b7⟩ := hI
  have hws : mm_ws ad cA h ++ [(q, en)] = mm_ws (va_up ad (mm_n h) q) (va_up cA (mm_n h) cN) (mm_al h k len w) := by
    refine mm_ws_push rfl (mm_up_self _ _ _) hen (fun j hj => ⟨mm_up_ne _ _ (Nat.ne_of_lt hj), ?_⟩)
    have h1 : mm_en (va_up ad (mm_n h) q) (va_up cA (mm_n h) cN) (mm_al h k len w) j = mm_en (va_up ad (mm_n h) q) (va_up cA (mm_n h) cN) h j :=
      mm_en_congr (mm_up_ne _ _ (Nat.ne_of_lt hj)) (mm_up_ne _ _ (Nat.ne_of_lt hj)) (mm_up_ne _ _ (Nat.ne_of_lt hj)) (mm_up_ne _ _ (Nat.ne_of_lt hj))
    rw [h1]
    exact mm_en_ad (mm_up_ne _ _ (Nat.ne_of_lt hj)) (fun k' => mm_up_ne _ _ (hf.2.2 j hj k'))
  rw [hws] at hP hD
  refine ⟨⟨hK, hP, hD, fun i hi h10 => ?_, ?_, ?_, a7, a8, hf.1⟩, hS, b3.ad (mm_fresh_ad hf).1, ?_, ?_, Nat.le_succ_of_le b6, fun j hj => ?_⟩
  · have hi' : i < mm_n h + 1 := hi
    by_cases hin : i = mm_n h
    · subst hin
      have hk : (mm_K (mm_al h k len w) (mm_n h)).1 = k := by show (va_up (mm_K h) (mm_n h) (k, len) (mm_n h)).1 = k; rw [mm_up_self]
      rw [hk] at h10 ⊢
      rw [mm_up_self]
      exact ht2 h10
    · have hk : mm_K (mm_al h k len w) i = mm_K h i := mm_up_ne _ _ hin
      rw [hk] at h10 ⊢
      rw [mm_up_ne _ _ hin]
      obtain ⟨t0, h9⟩ := a4 i (by omega) h10
      exact ⟨t0, ht _ _ h9⟩
  · rw [mm_up_ne _ _ (by have := hf.1; omega)]; exact a5
  · rw [mm_up_ne _ _ (by have := hf.1; omega)]; exact a6
  · show cells + 1 + c0 = mm_c h + 1
    omega
  · show slots + w + s0 = mm_s h + w
    omega
  · have hj' : j < n0 ∨ mm_n h + 1 ≤ j := hj
    rw [mm_up_ne _ _ (by omega)]
    exact b7 j (by omega)
theorem mm_bytes {N : Nat} (ty : FieldType) (h : N ≤ 1000) : N * componentBytes ty ≤ 536870912 := by
  have h1 : componentBytes ty ≤ 8 := by cases ty <;> simp [componentBytes]
  calc N * componentBytes ty ≤ 1000 * 8 := Nat.mul_le_mul h h1
    _ ≤ 536870912 := by omega
theorem mm_okna {at_ : ArrayType} {aux : List Nat} (hok : mm_okNA at_ aux = true) :
    (at_ = .int ∧ ∃ wi, aux = [10, wi] ∧ mm_w wi (.arrayClass .int) = true) ∨ (at_ = .char ∧ ∃ wi, aux = [11, wi] ∧ mm_w wi (.arrayClass .char) = true) ∨ (at_ = .long ∧ ∃ wi, aux = [12, wi] ∧ mm_w wi (.arrayClass .long) = true) := by
  unfold mm_okNA at hok
  split at hok
  · exact Or.inl ⟨rfl, _, rfl, hok⟩
  · exact Or.inr (Or.inl ⟨rfl, _, rfl, hok⟩)
  · exact Or.inr (Or.inr ⟨rfl, _, rfl, hok⟩)
  · cases hok
theorem mm_okaa {mi idx : Nat} {aux : List Nat} (hok : mm_okAA mi idx aux = true) :
    (∃ wi wo, aux = [13, wi, wo] ∧ mm_w wi (.classLink (mm_y mi).cls idx "BulbShapes$Table") = true) ∨ (∃ wi wo, aux = [14, wi, wo] ∧ mm_w wi (.classLink (mm_y mi).cls idx "BulbShapes$Board") = true) := by
  unfold mm_okAA at hok
  split at hok
  · simp only [Bool.and_eq_true] at hok; exact Or.inl ⟨_, _, rfl, hok.1⟩
  · simp only [Bool.and_eq_true] at hok; exact Or.inr ⟨_, _, rfl, hok.1⟩
  · cases hok
theorem mm_i_nar {pc np : Nat} {at_ : ArrayType} {aux : List Nat} {ls st : List Value} {h : mm_Hp} {z : mm_St} (hs : mm_nar np aux ls st h = some z) (hP : z.2.2.2.2) (C : mm_Cx p l s m args meth c mi nL) (hA : ∀ q, s.heap.size ≤ q → A q)
    (hok : mm_okNA at_ aux = true) (hd : decode (mm_b mi) pc = .ok (.newarray at_, 2)) (hnp : np = pc + 2) (hB : mm_c z.2.2.2.1 ≤ c0 + R.cells ∧ mm_s z.2.2.2.1 ≤ s0 + R.slots)
    (K : mm_Go p l e R s m args below meth c Q D A tS b L xs ad0 n0 c0 s0 nL z.1 z.2.1 z.2.2.1 z.2.2.2.1) : mm_Go p l e R s m args below meth c Q D A tS b L xs ad0 n0 c0 s0 nL pc ls st h := by
  subst hnp
  obtain ⟨hx, hb, hr, hml, hnl, hown, hts, hlk, hin, hst⟩ := C
  unfold mm_nar at hs
  split at hs
  case h_2 => cases hs
  case h_1 k tl x r =>
    cases hs
    obtain ⟨h0, h1000, hf⟩ := hP
    obtain ⟨hB1, hB2⟩ := hB
    have hB1 : mm_c h + 1 ≤ c0 + R.cells := hB1
    have hB2 : mm_s h + x.toNatClampNeg ≤ s0 + R.slots := hB2
    have fin : ∀ {H : Heap} {locs : List Loc} {cells slots : Nat} {lsR : Array Slot} {ad cA : Nat → Nat} {tys : List (ClassId × FieldType)} (ty : FieldType) (q cN : Nat) (en : va_E) (H1 : Heap), mm_aty k = ty → mm_Iv D A tS b L xs s ad0 n0 c0 s0 nL ad cA tys lsR ls h H locs cells slots → mm_en (va_up ad (mm_n h) q) (va_up cA (mm_n h) cN) (mm_al h k x.toNatClampNeg x.toNatClampNeg) (mm_n h) = en → va_K D mm_cl (tys ++ [(cN, ty)]) s → va_P D mm_cl (mm_ws ad cA h ++ [(q, en)]) H1 → va_D A (mm_ws ad cA h ++ [(q, en)]) → va_S A s.heap H1 locs →
        W p l e R s m args below meth c H1 locs (cells + 1) (slots + x.toNatClampNeg) Q (F0 m (pc + 2) lsR (.ref q :: r.map (mm_tr ad))) := by
      intro H locs cells slots lsR ad cA tys ty q cN en H1 hty hI hen hK hP hD hS
      have hI' := hI.new (q := q) (cN := cN) (k := k) (len := x.toNatClampNeg) (w := x.toNatClampNeg) hf hK (fun i z hz => by rw [List.getElem?_append_left (List.getElem?_eq_some_iff.mp hz).1]; exact hz) (fun _ => ⟨tys.length, by rw [hty]; simp⟩) hen hP hD hS
      have k9 := K _ _ _ _ _ _ _ _ hI'
      have e1 : (Value.ref (mm_n h) :: r).map (mm_tr (va_up ad (mm_n h) q)) = .ref q :: r.map (mm_tr ad) := by
        rw [List.map_cons, mm_trs_ad (mm_fresh_ad hf).2]
        show Value.ref (va_up ad (mm_n h) q (mm_n h)) :: _ = _
        rw [mm_up_self]
      rw [e1] at k9
      exact k9
    intro H locs cells slots lsR ad cA tys hI
    have hW := hI.1
    have q4 := hI.2.2.2.1
    have q5 := hI.2.2.2.2.1
    have hke : (mm_K (mm_al h k x.toNatClampNeg x.toNatClampNeg) (mm_n h)) = (k, x.toNatClampNeg) := mm_up_self _ _ _
    rcases mm_okna hok with ⟨rfl, wi, heq, hok2⟩ | ⟨rfl, wi, heq, hok2⟩ | ⟨rfl, wi, heq, hok2⟩
    · injection heq with u1 u2
      subst u1
      refine va_newa (atype := .int) hx hb (hts _ (mm_inG hok2 rfl)) (ty := .int) rfl hW.1 hW.2.1 hW.2.2.1 hI.2.1 hA (N' := x.toNatClampNeg) (a0 := (x.toNatClampNeg, .inl (fun _ => 0))) (fun _ => rfl) h0 rfl (mm_bytes _ h1000) (by omega) (by omega) hd (fun q cN H1 hK hP hD hS => fin .int q cN _ H1 rfl hI ?_ hK hP hD hS)
      rw [mm_en_ia (k := 10) (by rw [hke]) (Or.inl rfl), hke]
      show Sum.inl (va_up cA (mm_n h) cN (mm_n h), x.toNatClampNeg, Sum.inl (va_up (mm_I h) (mm_n h) (fun _ => 0) (mm_n h))) = _
      rw [mm_up_self, mm_up_self]
    · injection heq with u1 u2
      subst u1
      refine va_newa (atype := .char) hx hb (hts _ (mm_inG hok2 rfl)) (ty := .char) rfl hW.1 hW.2.1 hW.2.2.1 hI.2.1 hA (N' := x.toNatClampNeg) (a0 := (x.toNatClampNeg, .inl (fun _ => 0))) (fun _ => rfl) h0 rfl (mm_bytes _ h1000) (by omega) (by omega) hd (fun q cN H1 hK hP hD hS => fin .char q cN _ H1 rfl hI ?_ hK hP hD hS)
      rw [mm_en_ia (k := 11) (by rw [hke]) (Or.inr rfl), hke]
      show Sum.inl (va_up cA (mm_n h) cN (mm_n h), x.toNatClampNeg, Sum.inl (va_up (mm_I h) (mm_n h) (fun _ => 0) (mm_n h))) = _
      rw [mm_up_self, mm_up_self]
    · injection heq with u1 u2
      subst u1
      refine va_newa (atype := .long) hx hb (hts _ (mm_inG hok2 rfl)) (ty := .long) rfl hW.1 hW.2.1 hW.2.2.1 hI.2.1 hA (N' := x.toNatClampNeg) (a0 := (x.toNatClampNeg, .inr (.inl (fun _ => 0)))) (fun _ => rfl) h0 rfl (mm_bytes _ h1000) (by omega) (by omega) hd (fun q cN H1 hK hP hD hS => fin .long q cN _ H1 rfl hI ?_ hK hP hD hS)
      rw [mm_en_la (by rw [hke]), hke]
      show Sum.inl (va_up cA (mm_n h) cN (mm_n h), x.toNatClampNeg, Sum.inr (Sum.inl (va_up (mm_J h) (mm_n h) (fun _ => 0) (mm_n h)))) = _
      rw [mm_up_self, mm_up_self]
theorem mm_i_ana {pc np idx : Nat} {aux : List Nat} {ls st : List Value} {h : mm_Hp} {z : mm_St} (hs : mm_nar np aux ls st h = some z) (hP : z.2.2.2.2) (C : mm_Cx p l s m args meth c mi nL) (E : mm_ES A tS b L xs s) (hA : ∀ q, s.heap.size ≤ q → A q)
    (hok : mm_okAA mi idx aux = true) (hd : decode (mm_b mi) pc = .ok (.anewarray idx, 3)) (hnp : np = pc + 3) (hB : mm_c z.2.2.2.1 ≤ c0 + R.cells ∧ mm_s z.2.2.2.1 ≤ s0 + R.slots)
    (K : mm_Go p l e R s m args below meth c Q D A tS b L xs ad0 n0 c0 s0 nL z.1 z.2.1 z.2.2.1 z.2.2.2.1) : mm_Go p l e R s m args below meth c Q D A tS b L xs ad0 n0 c0 s0 nL pc ls st h := by
  subst hnp
  obtain ⟨hx, hb, hr, hml, hnl, hown, hts, hlk, hin, hst⟩ := C
  obtain ⟨-, -, -, -, -, -, -, hAO1, hAO2, -⟩ := E
  unfold mm_nar at hs
  split at hs
  case h_2 => cases hs
  case h_1 k tl x r =>
    cases hs
    obtain ⟨h0, h1000, hf⟩ := hP
    obtain ⟨hB1, hB2⟩ := hB
    have hB1 : mm_c h + 1 ≤ c0 + R.cells := hB1
    have hB2 : mm_s h + x.toNatClampNeg ≤ s0 + R.slots := hB2
    intro H locs cells slots lsR ad cA tys hI
    have hW := hI.1
    have q4 := hI.2.2.2.1
    have q5 := hI.2.2.2.2.1
    have hke : (mm_K (mm_al h k x.toNatClampNeg x.toNatClampNeg) (mm_n h)) = (k, x.toNatClampNeg) := mm_up_self _ _ _
    have fin : ∀ (ty : FieldType) (q cN : Nat) (H1 : Heap), (k = 13 ∨ k = 14) → mm_aty k = ty → va_K D mm_cl (tys ++ [(cN, ty)]) s → va_P D mm_cl (mm_ws ad cA h ++ [(q, .inl (cN, x.toNatClampNeg, .inr (.inr (.inr (.inr (fun _ => none))))))]) H1 → va_D A (mm_ws ad cA h ++ [(q, .inl (cN, x.toNatClampNeg, .inr (.inr (.inr (.inr (fun _ => none))))))]) → va_S A s.heap H1 locs →
        W p l e R s m args below meth c H1 locs (cells + 1) (slots + x.toNatClampNeg) Q (F0 m (pc + 3) lsR (.ref q :: r.map (mm_tr ad))) := by
      intro ty q cN H1 hk hty hK hP hD hS
      have hen : mm_en (va_up ad (mm_n h) q) (va_up cA (mm_n h) cN) (mm_al h k x.toNatClampNeg x.toNatClampNeg) (mm_n h) = .inl (cN, x.toNatClampNeg, .inr (.inr (.inr (.inr (fun _ => none))))) := by
        rw [mm_en_ra (k := k) (by rw [hke]) hk, hke]
        have e2 : (fun j => mm_orf (va_up ad (mm_n h) q) (mm_R (mm_al h k x.toNatClampNeg x.toNatClampNeg) (mm_n h) j)) = fun _ => none := by
          funext j
          show mm_orf _ (va_up (mm_R h) (mm_n h) (fun _ => 0) (mm_n h) j) = none
          rw [mm_up_self]
          rfl
        rw [e2, mm_up_self]
      have hI' := hI.new (q := q) (cN := cN) (k := k) (len := x.toNatClampNeg) (w := x.toNatClampNeg) hf hK (fun i z hz => by rw [List.getElem?_append_left (List.getElem?_eq_some_iff.mp hz).1]; exact hz) (fun _ => ⟨tys.length, by rw [hty]; simp⟩) hen hP hD hS
      have k9 := K _ _ _ _ _ _ _ _ hI'
      have e1 : (Value.ref (mm_n h) :: r).map (mm_tr (va_up ad (mm_n h) q)) = .ref q :: r.map (mm_tr ad) := by
        rw [List.map_cons, mm_trs_ad (mm_fresh_ad hf).2]
        show Value.ref (va_up ad (mm_n h) q (mm_n h)) :: _ = _
        rw [mm_up_self]
      rw [e1] at k9
      exact k9
    rcases mm_okaa hok with ⟨wi, wo, heq, hok2⟩ | ⟨wi, wo, heq, hok2⟩
    · injection heq with u1 u2
      subst u1
      exact va_newq hx hb hown (hts _ (mm_inG hok2 rfl)) hAO1 hW.1 hW.2.1 hW.2.2.1 hI.2.1 hA (N' := x.toNatClampNeg) h0 rfl (by omega) (by omega) (by omega) hd (fun q cN H1 hK hP hD hS => fin _ q cN H1 (Or.inl rfl) rfl hK hP hD hS)
    · injection heq with u1 u2
      subst u1
      exact va_newq hx hb hown (hts _ (mm_inG hok2 rfl)) hAO2 hW.1 hW.2.1 hW.2.2.1 hI.2.1 hA (N' := x.toNatClampNeg) h0 rfl (by omega) (by omega) (by omega) hd (fun q cN H1 hK hP hD hS => fin _ q cN H1 (Or.inr rfl) rfl hK hP hD hS)
theorem mm_dflt {ci N : Nat} (h : mm_fok ci N = true) {ad : Nat → Nat} {h' : mm_Hp} {i : Nat} (hR : mm_R h' i = fun _ => 0) (hI : mm_I h' i = fun _ => 0) (hN : N = mm_nf ci) : ∀ j, j < N → defaultValue (mm_ty ci j) = vp_V (mm_flds ad h' i ci) j := by
  intro j hj
  have e1 : vp_V (mm_flds ad h' i ci) j = mm_fd ad h' i ci j := by
    unfold vp_V
    rw [List.getD_eq_getElem?_getD, mm_flds_get (by rw [← hN]; exact hj)]
    rfl
  rw [e1]
  unfold mm_fd
  rw [hR, hI]
  rcases mm_fok_at h hj with h1 | h1 | h1
  · rw [if_neg (by rw [h1.1]; decide), h1.2]; rfl
  · rw [if_neg (by rw [h1.1]; decide), h1.2]; rfl
  · rw [if_pos h1.1]
    have h2 := h1.2
    cases hty : mm_ty ci j <;> rw [hty] at h2 <;> first | rfl | cases h2
theorem mm_i_new {pc np idx : Nat} {aux : List Nat} {ls st : List Value} {h : mm_Hp} {z : mm_St} (hs : mm_new np aux ls st h = some z) (hP : z.2.2.2.2) (C : mm_Cx p l s m args meth c mi nL) (hA : ∀ q, s.heap.size ≤ q → A q) (hok : mm_okN mi pc idx aux = true) (hd : decode (mm_b mi) pc = .ok (.new idx, 3)) (hnp : np = pc + 3) (hB : mm_c z.2.2.2.1 ≤ c0 + R.cells ∧ mm_s z.2.2.2.1 ≤ s0 + R.slots)
    (K : mm_Go p l e R s m args below meth c Q D A tS b L xs ad0 n0 c0 s0 nL z.1 z.2.1 z.2.2.1 z.2.2.2.1) : mm_Go p l e R s m args below meth c Q D A tS b L xs ad0 n0 c0 s0 nL pc ls st h := by
  subst hnp
  obtain ⟨hx, hb, hr, hml, hnl, hown, hts, hlk, hin, hst⟩ := C
  unfold mm_okN at hok
  split at hok
  case h_3 => cases hok
  case h_2 => cases hs
  case h_1 ci N wi wn wt =>
    split at hok
    case h_2 => cases hok
    case h_1 C T N' hcl =>
      simp only [Bool.and_eq_true, decide_eq_true_eq] at hok
      obtain ⟨⟨⟨⟨rfl, hN⟩, hw1⟩, hw2⟩, hw3⟩ := hok
      obtain ⟨hci, hin', hty, hnm, hfk⟩ := mm_clf hcl
      cases hs
      have hf : mm_fresh ls st h := hP
      obtain ⟨hB1, hB2⟩ := hB
      have hB1 : mm_c h + 1 ≤ c0 + R.cells := hB1
      have hB2 : mm_s h + N ≤ s0 + R.slots := hB2
      intro H locs cells slots lsR ad cA tys hI
      have hW := hI.1
      have q4 := hI.2.2.2.1
      have q5 := hI.2.2.2.2.1
      have hR9 : mm_R (mm_al h ci N N) (mm_n h) = fun _ => 0 := mm_up_self _ _ _
      have hI9 : mm_I (mm_al h ci N N) (mm_n h) = fun _ => 0 := mm_up_self _ _ _
      have hke : (mm_K (mm_al h ci N N) (mm_n h)) = (ci, N) := mm_up_self _ _ _
      have hfl : ∀ ad', mm_flds ad' (mm_al h ci N N) (mm_n h) ci = mm_flds ad (mm_al h ci N N) (mm_n h) ci := by
        intro ad'
        unfold mm_flds
        congr 1
        funext k
        unfold mm_fd
        rw [hR9]
        rfl
      refine va_new hx hb hts hin' (mm_ty ci) hty hown (hts _ (mm_inG hw1 rfl)) (hts _ (mm_inG hw2 rfl)) (hts _ (mm_inG hw3 rfl)) hW.1 hW.2.1 hW.2.2.1 hI.2.1 hA hcl (fs := mm_flds ad (mm_al h ci N N) (mm_n h) ci) (mm_dflt hfk hR9 hI9 hN) (by omega) (by omega) hd (fun q H1 hP hD hS => ?_)
      have hI' := hI.new (q := q) (cN := 0) (k := ci) (len := N) (w := N) hf hW.1 (fun i z hz => hz) (fun h10 => by omega) (by rw [mm_en_obj (ci := ci) (by rw [hke]) hci, hfl]) hP hD hS
      have k9 := K _ _ _ _ _ _ _ _ hI'
      have e1 : (Value.ref (mm_n h) :: st).map (mm_tr (va_up ad (mm_n h) q)) = .ref q :: st.map (mm_tr ad) := by
        rw [List.map_cons, mm_trs_ad (mm_fresh_ad hf).2]
        show Value.ref (va_up ad (mm_n h) q (mm_n h)) :: _ = _
        rw [mm_up_self]
      rw [e1] at k9
      exact k9
end MM
end
section
/-! ===== single instructions, 5: Object.<init>, arraycopy, the bits of a double; what the walk has at hand, kept ===== -/
theorem mm_nfw1 : nativeFrameWords "java/lang/System" "arraycopy" 5 ≤ 41 := by decide +kernel
theorem mm_ES.go {A A' : Nat → Prop} {tS b L : Nat} {xs : Nat → Int32} {U T : State} (h : mm_ES A tS b L xs U) (hW : U.WarmedH T.vm) (hk : ∀ q : Nat, q < U.heap.size → ¬ A q → T.heap[q]? = U.heap[q]?) (hz : U.heap.size ≤ T.heap.size) (hA : ∀ q, A' q → A q) : mm_ES A' tS b L xs T := by
  obtain ⟨a1, b1, ⟨c1, c2, c3⟩, d1, d2, e1, f1, g1, g2, h1⟩ := h
  have hv := hW.alike
  refine ⟨va_T.moved hv ((a1.kept hk).narrow hA), va_Z.moved hv ((b1.kept hk).narrow hA), ⟨(c1.kept (hk _ c2 c3)).moved hv, Nat.lt_of_lt_of_le c2 hz, fun q => c3 (hA _ q)⟩,
    vx_Zq.moved hv ((d1.kept hk).narrow hA), vx_Zq.moved hv ((d2.kept hk).narrow hA), ?_, ?_, g1.moved hv, g2.moved hv, fun E E' x y n => (h1 E E' x y n).moved hv⟩
  · intro w hw
    have hn := (List.mem_filter.mp hw).2
    have hu := e1 w hw
    cases w <;> first | cases hn; done | exact va_Nw.warmF hW hu | exact va_Nw.warmM hW hu | exact va_Nw.warmD hW hu | exact va_Nw.warmC hW hu
  · intro i k o tx hi
    obtain ⟨sa, hs⟩ := f1 i k o tx hi
    exact ⟨sa, hs.warm hW⟩
section MM
variable {p : Program} {l : Launch} {e : Env} {R : Room} {s : State} {m : MethodId} {args : Array Value} {below : List Frame} {meth : Method} {c : Code} {Q : State → Prop} {D : va_G} {A : Nat → Prop} {tS b L : Nat} {xs : Nat → Int32} {ad0 : Nat → Nat} {n0 c0 s0 nL mi : Nat}
theorem mm_sumcat {ad : Nat → Nat} {r : List Value} (h : (r.map Value.category).sum ≤ 8) : ((r.map (mm_tr ad)).map fun v => v.category).sum ≤ 8 := by
  rw [mm_trs_cat]; exact h
theorem mm_i_obj {pc np idx : Nat} {aux : List Nat} {ls st : List Value} {h : mm_Hp} {z : mm_St} (hs : mm_inv np aux ls st h = some z) (hP : z.2.2.2.2) (C : mm_Cx p l s m args meth c mi nL) (hok : mm_okP mi idx aux = true) (hd : decode (mm_b mi) pc = .ok (.invokespecial idx, 3)) (hnp : np = pc + 3) (hF : mm_fr mi ≤ R.frames) (hL9 : mm_lo mi ≤ R.locals)
    (K : mm_Go p l e R s m args below meth c Q D A tS b L xs ad0 n0 c0 s0 nL z.1 z.2.1 z.2.2.1 z.2.2.2.1) : mm_Go p l e R s m args below meth c Q D A tS b L xs ad0 n0 c0 s0 nL pc ls st h := by
  subst hnp
  obtain ⟨hx, hb, hr, hml, hnl, hown, hts, hlk, hin, hst⟩ := C
  unfold mm_okP at hok
  split at hok
  case h_1 wl wn wc =>
    simp only [Bool.and_eq_true, decide_eq_true_eq] at hok
    obtain ⟨⟨⟨⟨h1, h2⟩, h3⟩, h4⟩, h5⟩ := hok
    unfold mm_inv at hs
    split at hs
    case h_1 tl i r heq =>
      cases hs
      intro H locs cells slots lsR ad cA tys hI
      have hsum := mm_sumcat (ad := ad) (show (r.map Value.category).sum ≤ 8 from hP)
      refine W.objInit hx hb hown (hts _ (mm_inG h1 rfl)) (hts _ (mm_inG h2 rfl)) (hts _ (mm_inG h3 rfl)) rfl (by rw [hml]; exact hI.2.2.1.1.1) (a := ad i) (rest := r.map (mm_tr ad)) rfl hd (by omega) ?_ ?_
      · show 2 * 0 + _ + 12 ≤ R.locals
        omega
      · exact W.eq (g2 := F0 m (pc + 3) lsR (r.map (mm_tr ad))) rfl (K _ _ _ _ _ _ _ _ hI)
    case h_2 heq => cases heq
    case h_3 heq => cases heq
    case h_4 => cases hs
  case h_2 => unfold mm_inv at hs; split at hs <;> first | cases hs; done | (rename_i heq; cases heq)
  case h_3 => unfold mm_inv at hs; split at hs <;> first | cases hs; done | (rename_i heq; cases heq)
  case h_4 => cases hok
theorem mm_i_nat {pc np idx : Nat} {aux : List Nat} {ls st : List Value} {h : mm_Hp} {z : mm_St} (hs : mm_inv np aux ls st h = some z) (hP : z.2.2.2.2) (C : mm_Cx p l s m args meth c mi nL) (hok : mm_okS mi idx aux = true) (hd : decode (mm_b mi) pc = .ok (.invokestatic idx, 3)) (hnp : np = pc + 3) (hF : mm_fr mi ≤ R.frames) (hL9 : mm_lo mi ≤ R.locals)
    (K : mm_Go p l e R s m args below meth c Q D A tS b L xs ad0 n0 c0 s0 nL z.1 z.2.1 z.2.2.1 z.2.2.2.1) : mm_Go p l e R s m args below meth c Q D A tS b L xs ad0 n0 c0 s0 nL pc ls st h := by
  subst hnp
  obtain ⟨hx, hb, hr, hml, hnl, hown, hts, hlk, hin, hst⟩ := C
  unfold mm_okS at hok
  split at hok
  case h_4 wl wn ws wt =>
    simp only [Bool.and_eq_true, decide_eq_true_eq] at hok
    obtain ⟨⟨⟨⟨⟨h1, h2⟩, h3⟩, h4⟩, h5⟩, h6⟩ := hok
    unfold mm_inv at hs
    split at hs
    case h_2 tl n dp b1 sp a1 r heq =>
      cases hs
      obtain ⟨⟨ha, hka⟩, ⟨hb1, hkb⟩, q1, q2, q3, q4, q5, q6⟩ := hP
      intro H locs cells slots lsR ad cA tys hI
      have hW := hI.1
      have hsum := mm_sumcat (ad := ad) q6
      have hea := mm_ws_get (ad := ad) (cA := cA) ha
      rw [mm_en_ia hka (Or.inl rfl)] at hea
      have heb := mm_ws_get (ad := ad) (cA := cA) hb1
      rw [mm_en_ia hkb (Or.inl rfl)] at heb
      obtain ⟨ta, hta⟩ := hW.2.2.2.1 a1 ha (by rw [hka]; decide)
      obtain ⟨tb, htb⟩ := hW.2.2.2.1 b1 hb1 (by rw [hkb]; decide)
      rw [hka] at hta
      rw [hkb] at htb
      have hw9 := mm_nfw1
      refine va_copyi hx hb (by rw [hml]; exact hI.2.2.1.1.1.symm) hown (hts _ (mm_inG h1 rfl)) (hts _ (mm_inG h2 rfl)) (hts _ (mm_inG h3 rfl)) (hts _ (mm_inG h4 rfl)) hW.1 hW.2.1 hW.2.2.1 hI.2.1 a1 b1 ta tb hea heb hta htb rfl q1 q2 q3 q4 q5 (fun _ _ => rfl) (by omega) (by omega) hd (fun H1 locs1 hP1 hD1 hS1 => K _ _ _ _ _ _ _ _ (hI.upd (h' := mm_sI h (va_up (mm_I h) b1 (va_cpy (mm_I h a1) (mm_I h b1) sp.toNatClampNeg dp.toNatClampNeg n.toNatClampNeg))) rfl rfl rfl ?_ (fun j' _ hj' => mm_en_congr rfl rfl (mm_up_ne _ _ hj') rfl) hP1 hD1 hS1))
      rw [mm_en_ia (h := mm_sI h (va_up (mm_I h) b1 (va_cpy (mm_I h a1) (mm_I h b1) sp.toNatClampNeg dp.toNatClampNeg n.toNatClampNeg))) (k := 10) hkb (Or.inl rfl)]
      show Sum.inl (cA b1, (mm_K h b1).2, Sum.inl (va_up (mm_I h) b1 (va_cpy (mm_I h a1) (mm_I h b1) sp.toNatClampNeg dp.toNatClampNeg n.toNatClampNeg) b1)) = _
      rw [mm_up_self]
    case h_1 heq => cases heq
    case h_3 heq => cases heq
    case h_4 => cases hs
  case h_5 wl wn ws wt =>
    simp only [Bool.and_eq_true, decide_eq_true_eq] at hok
    obtain ⟨⟨⟨⟨⟨h1, h2⟩, h3⟩, h4⟩, h5⟩, h6⟩ := hok
    unfold mm_inv at hs
    split at hs
    case h_3 tl x r heq =>
      cases hs
      intro H locs cells slots lsR ad cA tys hI
      have hsum := mm_sumcat (ad := ad) (show (r.map Value.category).sum ≤ 8 from hP)
      exact vn_d2l hx hb (by rw [hml]; exact hI.2.2.1.1.1.symm) hown (hts _ (mm_inG h1 rfl)) (hts _ (mm_inG h2 rfl)) (hts _ (mm_inG h3 rfl)) (hts _ (mm_inG h4 rfl)) (by omega) (by omega) hd (K _ _ _ _ _ _ _ _ hI)
    case h_1 heq => cases heq
    case h_2 heq => cases heq
    case h_4 => cases hs
  all_goals first
    | (cases hok; done)
    | (unfold mm_inv at hs; split at hs <;> first | (cases hs; done) | (rename_i heq; cases heq; done))
end MM
end
section
/-! ===== every single instruction of the mini machine is one of the real one ===== -/
section MM
variable {p : Program} {l : Launch} {e : Env} {R : Room} {s : State} {m : MethodId} {args : Array Value} {below : List Frame} {meth : Method} {c : Code} {Q : State → Prop} {D : va_G} {A : Nat → Prop} {tS b L : Nat} {xs : Nat → Int32} {ad0 : Nat → Nat} {n0 c0 s0 nL mi : Nat}
theorem mm_i_b2 {pc np : Nat} {f : Int32 → Int32 → Int32} {ls st : List Value} {h : mm_Hp} {z : mm_St} (hs : mm_b2 f np ls st h = some z)
    (row : ∀ (H : Heap) (locs : List Loc) (cells slots : Nat) (lsR : Array Slot) (rest : List Value) (x y : Int32), W p l e R s m args below meth c H locs cells slots Q (F0 m np lsR (.int (f x y) :: rest)) → W p l e R s m args below meth c H locs cells slots Q (F0 m pc lsR (.int y :: .int x :: rest)))
    (K : mm_Go p l e R s m args below meth c Q D A tS b L xs ad0 n0 c0 s0 nL z.1 z.2.1 z.2.2.1 z.2.2.2.1) : mm_Go p l e R s m args below meth c Q D A tS b L xs ad0 n0 c0 s0 nL pc ls st h := by
  unfold mm_b2 at hs
  split at hs
  · cases hs
    intro H locs cells slots lsR ad cA tys hI
    exact row _ _ _ _ _ _ _ _ (K _ _ _ _ _ _ _ _ hI)
  · cases hs
theorem mm_i_d2 {pc np : Nat} {f : Int32 → Int32 → Int32} {ls st : List Value} {h : mm_Hp} {z : mm_St} (hs : mm_d2 f np ls st h = some z) (hP : z.2.2.2.2)
    (row : ∀ (H : Heap) (locs : List Loc) (cells slots : Nat) (lsR : Array Slot) (rest : List Value) (x y : Int32), ¬ y = 0 → W p l e R s m args below meth c H locs cells slots Q (F0 m np lsR (.int (f x y) :: rest)) → W p l e R s m args below meth c H locs cells slots Q (F0 m pc lsR (.int y :: .int x :: rest)))
    (K : mm_Go p l e R s m args below meth c Q D A tS b L xs ad0 n0 c0 s0 nL z.1 z.2.1 z.2.2.1 z.2.2.2.1) : mm_Go p l e R s m args below meth c Q D A tS b L xs ad0 n0 c0 s0 nL pc ls st h := by
  unfold mm_d2 at hs
  split at hs
  · cases hs
    intro H locs cells slots lsR ad cA tys hI
    exact row _ _ _ _ _ _ _ _ hP (K _ _ _ _ _ _ _ _ hI)
  · cases hs
theorem mm_i_l2 {pc np : Nat} {f : Int64 → Int64 → Int64} {ls st : List Value} {h : mm_Hp} {z : mm_St} (hs : mm_l2 f np ls st h = some z)
    (row : ∀ (H : Heap) (locs : List Loc) (cells slots : Nat) (lsR : Array Slot) (rest : List Value) (x y : Int64), W p l e R s m args below meth c H locs cells slots Q (F0 m np lsR (.long (f x y) :: rest)) → W p l e R s m args below meth c H locs cells slots Q (F0 m pc lsR (.long y :: .long x :: rest)))
    (K : mm_Go p l e R s m args below meth c Q D A tS b L xs ad0 n0 c0 s0 nL z.1 z.2.1 z.2.2.1 z.2.2.2.1) : mm_Go p l e R s m args below meth c Q D A tS b L xs ad0 n0 c0 s0 nL pc ls st h := by
  unfold mm_l2 at hs
  split at hs
  · cases hs
    intro H locs cells slots lsR ad cA tys hI
    exact row _ _ _ _ _ _ _ _ (K _ _ _ _ _ _ _ _ hI)
  · cases hs
theorem mm_i_f2 {pc np : Nat} {f : UInt64 → UInt64 → UInt64} {ls st : List Value} {h : mm_Hp} {z : mm_St} (hs : mm_f2 f np ls st h = some z) (hP : z.2.2.2.2)
    (row : ∀ (H : Heap) (locs : List Loc) (cells slots : Nat) (lsR : Array Slot) (rest : List Value) (x y : UInt64), vf_n64 (f x y) → W p l e R s m args below meth c H locs cells slots Q (F0 m np lsR (.double (f x y) :: rest)) → W p l e R s m args below meth c H locs cells slots Q (F0 m pc lsR (.double y :: .double x :: rest)))
    (K : mm_Go p l e R s m args below meth c Q D A tS b L xs ad0 n0 c0 s0 nL z.1 z.2.1 z.2.2.1 z.2.2.2.1) : mm_Go p l e R s m args below meth c Q D A tS b L xs ad0 n0 c0 s0 nL pc ls st h := by
  unfold mm_f2 at hs
  split at hs
  · cases hs
    intro H locs cells slots lsR ad cA tys hI
    exact row _ _ _ _ _ _ _ _ hP (K _ _ _ _ _ _ _ _ hI)
  · cases hs
theorem mm_dups {v : Value} (ad : Nat → Nat) (h : mm_two v = false) : (mm_tr ad v).category = 1 := by
  cases v <;> first | rfl | cases h
set_option maxHeartbeats 8000000 in
theorem mm_sstp {pc : Nat} {z : mm_St} {e0 : mm_En} {ls st : List Value} {h : mm_Hp} (hs : mm_stp e0 ls st h = some z) (hP : z.2.2.2.2) (C : mm_Cx p l s m args meth c mi nL) (E : mm_ES A tS b L xs s) (hA : ∀ q, s.heap.size ≤ q → A q) (o1 : mm_ok1 mi pc e0 = true) (o2 : mm_ok2 mi pc e0 = true) (hF : mm_fr mi ≤ R.frames) (hL9 : mm_lo mi ≤ R.locals) (hB : mm_c z.2.2.2.1 ≤ c0 + R.cells ∧ mm_s z.2.2.2.1 ≤ s0 + R.slots)
    (K : mm_Go p l e R s m args below meth c Q D A tS b L xs ad0 n0 c0 s0 nL z.1 z.2.1 z.2.2.1 z.2.2.2.1) : mm_Go p l e R s m args below meth c Q D A tS b L xs ad0 n0 c0 s0 nL pc ls st h := by
  obtain ⟨ins, np, v, aux⟩ := e0
  have C9 := C
  obtain ⟨hx, hb, hr, hml, hnl, hown, hts, hlk, hin, hst⟩ := C9
  have hN : ∀ w ∈ mm_NW, va_Nw w s := E.2.2.2.2.2.1
  cases ins with
  | iconst n =>
    obtain ⟨hd, rfl⟩ := mm_dec o1 rfl
    have hv := of_decide_eq_true o2
    subst hv
    cases hs
    exact mm_i_const (fun _ _ _ _ _ _ k => lv_iconst hx hb hd rfl k) (fun _ => rfl) K
  | bipush n =>
    obtain ⟨hd, rfl⟩ := mm_dec o1 rfl
    have hv := of_decide_eq_true o2
    subst hv
    cases hs
    exact mm_i_const (fun _ _ _ _ _ _ k => lv_bipush hx hb hd rfl k) (fun _ => rfl) K
  | sipush n =>
    obtain ⟨hd, rfl⟩ := mm_dec o1 rfl
    have hv := of_decide_eq_true o2
    subst hv
    cases hs
    exact mm_i_const (fun _ _ _ _ _ _ k => lv_sipush hx hb hd rfl k) (fun _ => rfl) K
  | lconst n =>
    obtain ⟨hd, rfl⟩ := mm_dec o1 rfl
    have hv := of_decide_eq_true o2
    subst hv
    cases hs
    exact mm_i_const (fun _ _ _ _ _ _ k => lv_lconst hx hb hd rfl k) (fun _ => rfl) K
  | dconst n =>
    obtain ⟨hd, rfl⟩ := mm_dec o1 rfl
    cases hs
    match n, hd, o2 with
    | 0, hd, o2 =>
      have hv := of_decide_eq_true o2
      subst hv
      exact mm_i_const (fun _ _ _ _ _ _ k => lv_dconst0 hx hb hd k) (fun _ => rfl) K
    | 1, hd, o2 =>
      have hv := of_decide_eq_true o2
      subst hv
      exact mm_i_const (fun _ _ _ _ _ _ k => lv_dconst1 hx hb hd k) (fun _ => rfl) K
  | ldc i =>
    obtain ⟨hd, rfl⟩ := mm_dec o1 rfl
    cases hs
    simp only [mm_ok2] at o2
    split at o2
    · exact mm_i_const (fun _ _ _ _ _ _ k => lv_ldc hx hb hown (hts _ (mm_inG o2 rfl)) hd k) (fun _ => rfl) K
    · cases o2
  | ldc_w i =>
    obtain ⟨hd, rfl⟩ := mm_dec o1 rfl
    cases hs
    simp only [mm_ok2] at o2
    split at o2
    · exact mm_i_const (fun _ _ _ _ _ _ k => lv_ldcw hx hb hown (hts _ (mm_inG o2 rfl)) hd k) (fun _ => rfl) K
    · cases o2
  | ldc2_w i =>
    obtain ⟨hd, rfl⟩ := mm_dec o1 rfl
    cases hs
    simp only [mm_ok2] at o2
    split at o2
    · exact mm_i_const (fun _ _ _ _ _ _ k => lv_ldc2 hx hb hown (hts _ (mm_inG o2 rfl)) hd k) (fun _ => rfl) K
    · exact mm_i_const (fun _ _ _ _ _ _ k => lv_ldc2d hx hb hown (hts _ (mm_inG o2 rfl)) hd k) (fun _ => rfl) K
    · cases o2
  | iload i =>
    obtain ⟨hd, rfl⟩ := mm_dec o1 rfl
    exact mm_i_loadI hs (of_decide_eq_true o2) (fun _ _ _ _ _ _ _ hl k => lv_iload hx hb hd hl k) K
  | iload_n i =>
    obtain ⟨hd, rfl⟩ := mm_dec o1 rfl
    exact mm_i_loadI hs (of_decide_eq_true o2) (fun _ _ _ _ _ _ _ hl k => lv_iload_n hx hb hd rfl hl k) K
  | lload i =>
    obtain ⟨hd, rfl⟩ := mm_dec o1 rfl
    exact mm_i_loadL hs (of_decide_eq_true o2) (fun _ _ _ _ _ _ _ hl k => lv_lload hx hb hd hl k) K
  | lload_n i =>
    obtain ⟨hd, rfl⟩ := mm_dec o1 rfl
    exact mm_i_loadL hs (of_decide_eq_true o2) (fun _ _ _ _ _ _ _ hl k => lv_lload_n hx hb hd rfl hl k) K
  | dload i =>
    obtain ⟨hd, rfl⟩ := mm_dec o1 rfl
    exact mm_i_loadD hs (of_decide_eq_true o2) (fun _ _ _ _ _ _ _ hl k => lv_dload hx hb hd hl k) K
  | dload_n i =>
    obtain ⟨hd, rfl⟩ := mm_dec o1 rfl
    exact mm_i_loadD hs (of_decide_eq_true o2) (fun _ _ _ _ _ _ _ hl k => lv_dload_n hx hb hd rfl hl k) K
  | aload i =>
    obtain ⟨hd, rfl⟩ := mm_dec o1 rfl
    exact mm_i_loadA hs (of_decide_eq_true o2) (fun _ _ _ _ _ _ _ hl k => lv_aload hx hb hd hl k) K
  | aload_n i =>
    obtain ⟨hd, rfl⟩ := mm_dec o1 rfl
    exact mm_i_loadA hs (of_decide_eq_true o2) (fun _ _ _ _ _ _ _ hl k => lv_aload_n hx hb hd rfl hl k) K
  | istore i =>
    obtain ⟨hd, rfl⟩ := mm_dec o1 rfl
    exact mm_i_stoI hs hP (of_decide_eq_true o2) (fun _ _ _ _ _ _ _ _ hl hi k => lv_istore hx hb hd hl hi rfl (fun lsR' h' => k lsR' h')) K
  | istore_n i =>
    obtain ⟨hd, rfl⟩ := mm_dec o1 rfl
    exact mm_i_stoI hs hP (of_decide_eq_true o2) (fun _ _ _ _ _ _ _ _ hl hi k => lv_istore_n hx hb hd rfl hl hi rfl (fun lsR' h' => k lsR' h')) K
  | lstore i =>
    obtain ⟨hd, rfl⟩ := mm_dec o1 rfl
    exact mm_i_stoL hs hP (of_decide_eq_true o2) (fun _ _ _ _ _ _ _ _ hl hi k => lv_lstore hx hb hd hl hi rfl (fun lsR' h' => k lsR' h')) K
  | lstore_n i =>
    obtain ⟨hd, rfl⟩ := mm_dec o1 rfl
    exact mm_i_stoL hs hP (of_decide_eq_true o2) (fun _ _ _ _ _ _ _ _ hl hi k => lv_lstore_n hx hb hd rfl hl hi rfl (fun lsR' h' => k lsR' h')) K
  | dstore i =>
    obtain ⟨hd, rfl⟩ := mm_dec o1 rfl
    exact mm_i_stoD hs hP (of_decide_eq_true o2) (fun _ _ _ _ _ _ _ _ hl hi k => lv_dstore hx hb hd hl hi rfl (fun lsR' h' => k lsR' h')) K
  | dstore_n i =>
    obtain ⟨hd, rfl⟩ := mm_dec o1 rfl
    exact mm_i_stoD hs hP (of_decide_eq_true o2) (fun _ _ _ _ _ _ _ _ hl hi k => lv_dstore_n hx hb hd rfl hl hi rfl (fun lsR' h' => k lsR' h')) K
  | astore i =>
    obtain ⟨hd, rfl⟩ := mm_dec o1 rfl
    exact mm_i_stoA hs hP (of_decide_eq_true o2) (fun _ _ _ _ _ _ _ _ hl hi k => lv_astore hx hb hd hl hi rfl (fun lsR' h' => k lsR' h')) K
  | astore_n i =>
    obtain ⟨hd, rfl⟩ := mm_dec o1 rfl
    exact mm_i_stoA hs hP (of_decide_eq_true o2) (fun _ _ _ _ _ _ _ _ hl hi k => lv_astore_n hx hb hd rfl hl hi rfl (fun lsR' h' => k lsR' h')) K
  | iinc i n =>
    obtain ⟨hd, rfl⟩ := mm_dec o1 rfl
    simp only [mm_ok2, Bool.and_eq_true, decide_eq_true_eq] at o2
    exact mm_i_inc hs hP o2.1 o2.2 hx hb hd rfl K
  | iadd =>
    obtain ⟨hd, rfl⟩ := mm_dec o1 rfl
    exact mm_i_b2 (f := fun x y => x + y) hs (fun _ _ _ _ _ _ _ _ k => lv_iadd hx hb hd k) K
  | isub =>
    obtain ⟨hd, rfl⟩ := mm_dec o1 rfl
    exact mm_i_b2 (f := fun x y => x - y) hs (fun _ _ _ _ _ _ _ _ k => lv_isub hx hb hd k) K
  | imul =>
    obtain ⟨hd, rfl⟩ := mm_dec o1 rfl
    exact mm_i_b2 (f := fun x y => x * y) hs (fun _ _ _ _ _ _ _ _ k => lv_imul hx hb hd k) K
  | iand =>
    obtain ⟨hd, rfl⟩ := mm_dec o1 rfl
    exact mm_i_b2 (f := fun x y => x &&& y) hs (fun _ _ _ _ _ _ _ _ k => lv_iand hx hb hd k) K
  | ior =>
    obtain ⟨hd, rfl⟩ := mm_dec o1 rfl
    exact mm_i_b2 (f := fun x y => x ||| y) hs (fun _ _ _ _ _ _ _ _ k => lv_ior hx hb hd k) K
  | ixor =>
    obtain ⟨hd, rfl⟩ := mm_dec o1 rfl
    exact mm_i_b2 (f := fun x y => x ^^^ y) hs (fun _ _ _ _ _ _ _ _ k => lv_ixor hx hb hd k) K
  | ishl =>
    obtain ⟨hd, rfl⟩ := mm_dec o1 rfl
    exact mm_i_b2 (f := fun x y => x <<< (y &&& 31)) hs (fun _ _ _ _ _ _ _ _ k => lv_ishl hx hb hd k) K
  | iushr =>
    obtain ⟨hd, rfl⟩ := mm_dec o1 rfl
    exact mm_i_b2 (f := fun x y => (x.toUInt32 >>> (y.toUInt32 &&& Int32.toUInt32 31)).toInt32) hs (fun _ _ _ _ _ _ _ _ k => lv_iushr hx hb hd rfl k) K
  | ishr =>
    obtain ⟨hd, rfl⟩ := mm_dec o1 rfl
    exact mm_i_b2 (f := fun x y => x >>> (y &&& 31)) hs (fun _ _ _ _ _ _ _ _ k => lv_ishr hx hb hd k) K
  | idiv =>
    obtain ⟨hd, rfl⟩ := mm_dec o1 rfl
    exact mm_i_d2 (f := fun x y => x / y) hs hP (fun _ _ _ _ _ _ _ _ h0 k => lv_idiv hx hb hd h0 k) K
  | irem =>
    obtain ⟨hd, rfl⟩ := mm_dec o1 rfl
    exact mm_i_d2 (f := fun x y => x - x / y * y) hs hP (fun _ _ _ _ _ _ _ _ h0 k => lv_irem hx hb hd h0 k) K
  | ladd =>
    obtain ⟨hd, rfl⟩ := mm_dec o1 rfl
    exact mm_i_l2 (f := fun x y => x + y) hs (fun _ _ _ _ _ _ _ _ k => lv_ladd hx hb hd k) K
  | lmul =>
    obtain ⟨hd, rfl⟩ := mm_dec o1 rfl
    exact mm_i_l2 (f := fun x y => x * y) hs (fun _ _ _ _ _ _ _ _ k => lv_lmul hx hb hd k) K
  | dmul =>
    obtain ⟨hd, rfl⟩ := mm_dec o1 rfl
    exact mm_i_f2 (f := FP.dmul) hs hP (fun _ _ _ _ _ _ _ _ h0 k => lv_dmul hx hb hd h0 k) K
  | dsub =>
    obtain ⟨hd, rfl⟩ := mm_dec o1 rfl
    exact mm_i_f2 (f := FP.dsub) hs hP (fun _ _ _ _ _ _ _ _ h0 k => lv_dsub hx hb hd h0 k) K
  | ddiv =>
    obtain ⟨hd, rfl⟩ := mm_dec o1 rfl
    exact mm_i_f2 (f := FP.ddiv) hs hP (fun _ _ _ _ _ _ _ _ h0 k => lv_ddiv hx hb hd h0 k) K
  | lshl =>
    obtain ⟨hd, rfl⟩ := mm_dec o1 rfl
    simp only [mm_stp, mm_lsh] at hs
    split at hs
    · cases hs
      intro H locs cells slots lsR ad cA tys hI
      exact lv_lshl hx hb hd rfl (K _ _ _ _ _ _ _ _ hI)
    · cases hs
  | lcmp =>
    obtain ⟨hd, rfl⟩ := mm_dec o1 rfl
    simp only [mm_stp, mm_lcm] at hs
    split at hs
    · cases hs
      intro H locs cells slots lsR ad cA tys hI
      exact W.lcmp hx hb hd (K _ _ _ _ _ _ _ _ hI)
    · cases hs
  | dcmp op =>
    obtain ⟨hd, rfl⟩ := mm_dec o1 rfl
    simp only [mm_stp, mm_dcm] at hs
    split at hs
    · cases hs
      intro H locs cells slots lsR ad cA tys hI
      exact lv_dcmp hx hb hd (K _ _ _ _ _ _ _ _ hI)
    · cases hs
  | i2l =>
    obtain ⟨hd, rfl⟩ := mm_dec o1 rfl
    simp only [mm_stp, mm_i2l] at hs
    split at hs
    · cases hs
      intro H locs cells slots lsR ad cA tys hI
      exact lv_i2l hx hb hd rfl (K _ _ _ _ _ _ _ _ hI)
    · cases hs
  | i2d =>
    obtain ⟨hd, rfl⟩ := mm_dec o1 rfl
    simp only [mm_stp, mm_i2d] at hs
    split at hs
    · cases hs
      intro H locs cells slots lsR ad cA tys hI
      exact lv_i2d hx hb hd (K _ _ _ _ _ _ _ _ hI)
    · cases hs
  | i2c =>
    obtain ⟨hd, rfl⟩ := mm_dec o1 rfl
    simp only [mm_stp, mm_i2c] at hs
    split at hs
    · cases hs
      intro H locs cells slots lsR ad cA tys hI
      exact lv_i2c hx hb hd rfl (K _ _ _ _ _ _ _ _ hI)
    · cases hs
  | d2l =>
    obtain ⟨hd, rfl⟩ := mm_dec o1 rfl
    simp only [mm_stp, mm_d2l] at hs
    split at hs
    · cases hs
      intro H locs cells slots lsR ad cA tys hI
      exact lv_d2l hx hb hd (K _ _ _ _ _ _ _ _ hI)
    · cases hs
  | dup =>
    obtain ⟨hd, rfl⟩ := mm_dec o1 rfl
    simp only [mm_stp, mm_dup] at hs
    split at hs
    · rename_i v9 r9
      cases h2 : mm_two v9 with
      | true => rw [h2] at hs; cases hs
      | false =>
        rw [h2] at hs
        cases hs
        intro H locs cells slots lsR ad cA tys hI
        exact lv_dup hx hb hd (mm_dups ad h2) (K _ _ _ _ _ _ _ _ hI)
    · cases hs
  | dup2 =>
    obtain ⟨hd, rfl⟩ := mm_dec o1 rfl
    simp only [mm_stp, mm_dup2] at hs
    split at hs
    · rename_i v9 w9 r9
      cases h2 : mm_two v9 with
      | true => rw [h2] at hs; cases hs
      | false =>
        cases h3 : mm_two w9 with
        | true => rw [h2, h3] at hs; cases hs
        | false =>
          rw [h2, h3] at hs
          cases hs
          intro H locs cells slots lsR ad cA tys hI
          exact lv_dup2_11 hx hb hd (mm_dups ad h2) (mm_dups ad h3) (K _ _ _ _ _ _ _ _ hI)
    · cases hs
  | pop =>
    obtain ⟨hd, rfl⟩ := mm_dec o1 rfl
    simp only [mm_stp, mm_pop] at hs
    split at hs
    · rename_i v9 r9
      cases h2 : mm_two v9 with
      | true => rw [h2] at hs; cases hs
      | false =>
        rw [h2] at hs
        cases hs
        intro H locs cells slots lsR ad cA tys hI
        exact lv_pop hx hb hd (mm_dups ad h2) (K _ _ _ _ _ _ _ _ hI)
    · cases hs
  | goto o =>
    obtain ⟨hd, rfl⟩ := mm_dec o1 rfl
    simp only [mm_ok2] at o2
    simp only [mm_stp] at hs
    split at o2
    · cases hs
      intro H locs cells slots lsR ad cA tys hI
      exact lv_goto hx hb hd (of_decide_eq_true o2) (K _ _ _ _ _ _ _ _ hI)
    · cases o2
  | getfield i =>
    obtain ⟨hd, rfl⟩ := mm_dec o1 rfl
    exact mm_i_gf hs hP C hN o2 hd rfl K
  | putfield i =>
    obtain ⟨hd, rfl⟩ := mm_dec o1 rfl
    exact mm_i_pf hs hP C hN o2 hd rfl K
  | getstatic i =>
    obtain ⟨hd, rfl⟩ := mm_dec o1 rfl
    cases hs
    simp only [mm_ok2] at o2
    split at o2
    · exact mm_i_gs C E o2 hd rfl K
    · cases o2
  | iaload =>
    obtain ⟨hd, rfl⟩ := mm_dec o1 rfl
    exact mm_i_ial hs hP C E hd rfl K
  | caload =>
    obtain ⟨hd, rfl⟩ := mm_dec o1 rfl
    exact mm_i_cal hs hP C hd rfl K
  | laload =>
    obtain ⟨hd, rfl⟩ := mm_dec o1 rfl
    exact mm_i_lal hs hP C hd rfl K
  | aaload =>
    obtain ⟨hd, rfl⟩ := mm_dec o1 rfl
    exact mm_i_aal hs hP C hd rfl K
  | iastore =>
    obtain ⟨hd, rfl⟩ := mm_dec o1 rfl
    exact mm_i_ias hs hP C hd rfl K
  | castore =>
    obtain ⟨hd, rfl⟩ := mm_dec o1 rfl
    exact mm_i_cas hs hP C hd rfl K
  | lastore =>
    obtain ⟨hd, rfl⟩ := mm_dec o1 rfl
    exact mm_i_las hs hP C hd rfl K
  | aastore =>
    obtain ⟨hd, rfl⟩ := mm_dec o1 rfl
    exact mm_i_aas hs hP C hd rfl K
  | arraylength =>
    obtain ⟨hd, rfl⟩ := mm_dec o1 rfl
    exact mm_i_alen hs hP C E hd rfl K
  | newarray a =>
    obtain ⟨hd, rfl⟩ := mm_dec o1 rfl
    exact mm_i_nar hs hP C hA o2 hd rfl hB K
  | anewarray i =>
    obtain ⟨hd, rfl⟩ := mm_dec o1 rfl
    exact mm_i_ana hs hP C E hA o2 hd rfl hB K
  | new i =>
    obtain ⟨hd, rfl⟩ := mm_dec o1 rfl
    exact mm_i_new hs hP C hA o2 hd rfl hB K
  | invokespecial i =>
    obtain ⟨hd, rfl⟩ := mm_dec o1 rfl
    exact mm_i_obj hs hP C o2 hd rfl hF hL9 K
  | invokestatic i =>
    obtain ⟨hd, rfl⟩ := mm_dec o1 rfl
    exact mm_i_nat hs hP C o2 hd rfl hF hL9 K
  | _ => cases hs
end MM
end
section
/-! ===== contracts of the mini machine's methods over the real one; calls ===== -/
def mm_cw (mj : Nat) : Jvm.Cond := if mm_hh mj = [] then .code (mm_y mj) (mm_b mj) (mm_ml mj) (mm_rt mj) else .codeWith (mm_y mj) (mm_b mj) (mm_ml mj) (mm_rt mj) (mm_hh mj)
def mm_wd (mj : Nat) : List Jvm.Cond := mm_cw mj :: mm_G
def mm_Rm (mj : Nat) (h : mm_Hp) (r : mm_Res) : Room := { frames := mm_fr mj, cells := mm_c r.2 - mm_c h, slots := mm_s r.2 - mm_s h, locals := mm_lo mj }
def mm_Pr (D : va_G) (tS b L : Nat) (xs : Nat → Int32) (av : List Value) (ad cA : Nat → Nat) (tys : List (ClassId × FieldType)) (sz : Nat) (h : mm_Hp) : Array Value → State → Prop :=
  va_Pc (av.map (mm_tr ad)) (fun U => U.heap.size = sz ∧ mm_Wd D (fun _ => True) tS b L xs U ad cA tys h U.heap ∧ mm_ES (va_A (mm_ws ad cA h) sz) tS b L xs U)
def mm_Bw (D : va_G) (A : Nat → Prop) (tS b L : Nat) (xs : Nat → Int32) (ad : Nat → Nat) (n : Nat) (h' : mm_Hp) (t : State) : Prop :=
  ∃ (ad' cA' : Nat → Nat) (tys' : List (ClassId × FieldType)), mm_Wd D A tS b L xs t ad' cA' tys' h' t.heap ∧ ∀ j, (j < n ∨ mm_n h' ≤ j) → ad' j = ad j
def mm_Qr (D : va_G) (A : Nat → Prop) (tS b L : Nat) (xs : Nat → Int32) (ad : Nat → Nat) (n : Nat) (r : mm_Res) : Array Value → State → Outcome → State → Prop :=
  fun _ st oc t => r.1.1 = 0 ∧ oc = .returned r.1.2 ∧ mm_Bw D A tS b L xs ad n r.2 t ∧ va_F A st t
def mm_Xr (D : va_G) (A : Nat → Prop) (tS b L : Nat) (xs : Nat → Int32) (ad : Nat → Nat) (n : Nat) (r : mm_Res) : String → State → State → Prop :=
  fun E st t => (r.1.1 = 1 ∨ r.1.1 = 2 ∨ r.1.1 = 3) ∧ E = mm_exn r.1.1 ∧ mm_Bw D A tS b L xs ad n r.2 t ∧ va_F A st t
def mm_Con (l : Launch) (D : va_G) (tS b L : Nat) (xs : Nat → Int32) (mj : Nat) (av : List Value) (h : mm_Hp) (r : mm_Res) : Prop :=
  ∀ (ad cA : Nat → Nat) (tys : List (ClassId × FieldType)) (sz : Nat), vx_Met l (mm_y mj) (mm_wd mj) (mm_Rm mj h r) (mm_Pr D tS b L xs av ad cA tys sz h) (mm_Qr D (va_A (mm_ws ad cA h) sz) tS b L xs ad (mm_n h) r) (mm_Xr D (va_A (mm_ws ad cA h) sz) tS b L xs ad (mm_n h) r) (mm_c r.2 - mm_c h) (mm_s r.2 - mm_s h) (va_A (mm_ws ad cA h) sz)
theorem mm_G_good {w : Jvm.Cond} (h : w ∈ mm_G) : goodWord w = true := (List.mem_filter.mp h).2
theorem mm_goodIn {mj : Nat} (h : mm_cw mj ∈ mm_G) : GoodIn mm_G (mm_wd mj) := by
  intro w hw
  rcases List.mem_cons.mp hw with rfl | hw
  · exact ⟨h, good_of_word (mm_G_good h)⟩
  · exact ⟨hw, good_of_word (mm_G_good hw)⟩
theorem mm_Wd.moved {D : va_G} {A : Nat → Prop} {tS b L : Nat} {xs : Nat → Int32} {s U : State} {ad cA : Nat → Nat} {tys : List (ClassId × FieldType)} {h : mm_Hp} {H : Heap} (hv : s.vm.Alike U.vm) (hW : mm_Wd D A tS b L xs s ad cA tys h H) : mm_Wd D A tS b L xs U ad cA tys h H :=
  ⟨va_K.moved hv hW.1, hW.2⟩
theorem mm_blind {D : va_G} {tS b L : Nat} {xs : Nat → Int32} {av : List Value} {ad cA : Nat → Nat} {tys : List (ClassId × FieldType)} {sz : Nat} {h : mm_Hp} : FrameBlind (mm_Pr D tS b L xs av ad cA tys sz h) := by
  intro a U g mk q
  obtain ⟨q0, q1, q2, q3⟩ := q
  refine ⟨q0, q1, q2.moved (U := U.calling g mk a) (Vm.Alike.refl U.vm), q3.go (T := U.calling g mk a) (State.WarmedH.refl U) (fun _ _ _ => rfl) (Nat.le_refl _) (fun _ h => h)⟩
section MM
variable {p : Program} {l : Launch} {e : Env} {R : Room} {s : State} {m : MethodId} {args : Array Value} {below : List Frame} {meth : Method} {c : Code} {Q : State → Prop} {D : va_G} {A : Nat → Prop} {tS b L : Nat} {xs : Nat → Int32} {ad0 : Nat → Nat} {n0 c0 s0 nL mi : Nat}
theorem mm_A1 {ad cA : Nat → Nat} {tys : List (ClassId × FieldType)} {lsR : Array Slot} {ls : List Value} {h : mm_Hp} {H : Heap} {locs : List Loc} {cells slots : Nat} (hI : mm_Iv D A tS b L xs s ad0 n0 c0 s0 nL ad cA tys lsR ls h H locs cells slots) (hA : ∀ q, s.heap.size ≤ q → A q) : ∀ q, va_A (mm_ws ad cA h) H.size q → A q := by
  intro q hq
  rcases hq with ⟨k, en, hk⟩ | hq
  · exact hI.1.2.2.1.2 k _ hk
  · exact hA q (Nat.le_trans hI.2.1.1 hq)
/-- a call, run: what comes behind it -/
theorem mm_run {H : Heap} {locs : List Loc} {cells slots mc ms pc n : Nat} {lsR : Array Slot} {st0 rest : List Value} {a : Array Value} {A1 : Nat → Prop} {ad : Nat → Nat} {r : mm_Res}
    (hr : vx_Run p l e R s m args below meth c H locs cells slots mc ms (F0 m pc lsR st0) rest (mm_Qr D A1 tS b L xs ad n r a) (mm_Xr D A1 tS b L xs ad n r) A1) (hS : va_S A s.heap H locs) (hA1 : ∀ q, A1 q → A q)
    (kx : ∀ (ce : Cell) (q9 : Addr) (t : State) (H1 : Heap) (locs1 : List Loc), t.heap = H1 → s.vm.Alike t.vm → (r.1.1 = 1 ∨ r.1.1 = 2 ∨ r.1.1 = 3) → mm_Bw D A1 tS b L xs ad n r.2 t → va_S A s.heap H1 locs1 → H1[q9]? = some ce → ce.vm = .none → s.vm.findClass (mm_exn r.1.1) = some ce.cls → vx_W p l e R s m args below meth c H1 locs1 (cells + mc) (slots + ms) Q (F0 m pc lsR rest) q9)
    (kk : ∀ (t : State) (H1 : Heap) (locs1 : List Loc), t.heap = H1 → s.vm.Alike t.vm → r.1.1 = 0 → mm_Bw D A1 tS b L xs ad n r.2 t → va_S A s.heap H1 locs1 → W p l e R s m args below meth c H1 locs1 (cells + mc) (slots + ms) Q (F0 m (pc + 3) lsR (r.1.2.toList ++ rest))) : W p l e R s m args below meth c H locs cells slots Q (F0 m pc lsR st0) := by
  intro T hT X
  rcases hr T hT X with ⟨v, st₀, t, T', L9, h0, X', hL, e1, e2, ⟨hr0, hv, hb, hF⟩, st⟩ | ⟨q, st₀, t, T', L9, E, ce, h0, X', hL, e1, e2, ⟨hr0, hE, hb, hF⟩, hce, hcv, hcl, st⟩
  · cases hv
    obtain ⟨k1, k2, k3⟩ := vx_keep h0 e1 hS (fun q _ h => hA1 q h) hA1 hL hF
    obtain ⟨t2, a1, b1⟩ := kk t T'.heap (locs ++ L9) e1.symm (by rw [← e2]; exact X'.warmed.alike) hr0 hb k3 T' rfl X'
    exact ⟨t2, st t2 a1, b1⟩
  · subst hE
    obtain ⟨k1, k2, k3⟩ := vx_keep h0 e1 hS (fun q _ h => hA1 q h) hA1 hL hF
    obtain ⟨t2, a1, b1⟩ := kx ce q t T'.heap (locs ++ L9) e1.symm (by rw [← e2]; exact X'.warmed.alike) hr0 hb k3 (by rw [e1]; exact hce) hcv hcl T' rfl X'
    exact ⟨t2, st.trans a1, b1⟩
/-- behind a call the invariant holds again -/
theorem mm_Iv.back {ad cA : Nat → Nat} {tys : List (ClassId × FieldType)} {lsR : Array Slot} {ls rest : List Value} {h h' : mm_Hp} {H H1 : Heap} {locs locs1 : List Loc} {cells slots : Nat} {t : State} (hI : mm_Iv D A tS b L xs s ad0 n0 c0 s0 nL ad cA tys lsR ls h H locs cells slots) (hA1 : ∀ q, va_A (mm_ws ad cA h) H.size q → A q) (ht : t.heap = H1) (hv : s.vm.Alike t.vm)
    (hB : mm_Bw D (va_A (mm_ws ad cA h) H.size) tS b L xs ad (mm_n h) h' t) (hS : va_S A s.heap H1 locs1) (hc : mm_c h ≤ mm_c h') (hs : mm_s h ≤ mm_s h') (hn : mm_n h ≤ mm_n h') (ho : mm_n h' = mm_n h ∨ ∀ v ∈ ls ++ rest, mm_old (mm_n h) v) :
    ∃ (ad' cA' : Nat → Nat) (tys' : List (ClassId × FieldType)), mm_Iv D A tS b L xs s ad0 n0 c0 s0 nL ad' cA' tys' lsR ls h' H1 locs1 (cells + (mm_c h' - mm_c h)) (slots + (mm_s h' - mm_s h)) ∧ rest.map (mm_tr ad') = rest.map (mm_tr ad) := by
  obtain ⟨ad', cA', tys', hW', hag⟩ := hB
  have hag2 : ∀ v ∈ ls ++ rest, ∀ j : Nat, v = .ref j → ad' j = ad j := by
    intro v hv9 j hj
    rcases ho with h9 | h9
    · exact hag j (by omega)
    · have h8 : j < mm_n h ∨ 1000 ≤ j := h9 v hv9 j hj
      have h7 : mm_n h' ≤ 1000 := hW'.2.2.2.2.2.2.2.2
      exact hag j (by omega)
  obtain ⟨a1, a2, a3, a4, a5, a6, a7⟩ := hI
  rw [ht] at hW'
  have hW2 : mm_Wd D A tS b L xs s ad' cA' tys' h' H1 := by
    obtain ⟨w1, w2, w3, w4⟩ := hW'.moved hv.symm
    exact ⟨w1, w2, w3.weaken (fun _ _ _ h => hA1 _ h), w4⟩
  refine ⟨ad', cA', tys', ⟨hW2, hS, a3.ad (fun v hv9 => hag2 v (List.mem_append_left _ hv9)), by omega, by omega, by omega, fun j hj => ?_⟩, mm_trs_ad (fun v hv9 => hag2 v (List.mem_append_right _ hv9))⟩
  rw [hag j (by omega)]
  exact a7 j (by omega)
theorem mm_callB {mj wl cw wt na Lc idx : Nat} {wt2 self : Bool} {h : mm_Hp} {r : mm_Res} (hts : ∀ w ∈ mm_G, w.before args s = true) (hok : mm_okC mi mj na Lc wl cw wt idx false wt2 self = true) (hw2 : wt2 = false) (hF : mm_fr mi ≤ R.frames) (hL9 : mm_lo mi ≤ R.locals) :
    CallB R s args (mm_y mi).cls idx (mm_y mj) (mm_b mj) (mm_ml mj) (mm_rt mj) (mm_wd mj) (mm_Rm mj h r) (mm_c r.2 - mm_c h) (mm_s r.2 - mm_s h) (if self then na - 1 else na) := by
  subst hw2
  unfold mm_okC at hok
  simp only [Bool.and_eq_true, decide_eq_true_eq, if_false, Bool.false_eq_true] at hok
  obtain ⟨⟨⟨⟨⟨⟨⟨⟨h1, h2, h2'⟩, h3⟩, h4⟩, h5⟩, h6⟩, h7⟩, h8⟩, h9⟩ := hok
  have hcw : mm_cw mj = .code (mm_y mj) (mm_b mj) (mm_ml mj) (mm_rt mj) := by unfold mm_cw; rw [if_pos h2']
  have hin : mm_cw mj ∈ mm_G := by rw [hcw, ← h4]; exact mm_inG h2 rfl
  have hce : Cond.code (mm_y mj) (mm_b mj) (mm_ml mj) (mm_rt mj) ∈ mm_wd mj := by rw [← hcw]; exact List.mem_cons_self
  refine ⟨rfl, rfl, Nat.le_trans h8 hF, by rw [← h4]; exact Nat.le_trans h9 hL9, pay_in hts (mm_goodIn hin), hce, hts _ (by rw [← hcw]; exact hin), hts _ (mm_inG h3 rfl), h6, fun sig hsig => ?_, hts _ (mm_inG h1 rfl)⟩
  cases self with
  | true =>
    simp only [if_true, Bool.and_eq_true, decide_eq_true_eq] at h7 ⊢
    have := h7.2
    rw [hsig] at this
    exact (Option.some.inj this).symm
  | false =>
    simp only [Bool.false_eq_true, if_false, decide_eq_true_eq] at h7 ⊢
    rw [hsig] at h7
    exact (Option.some.inj h7).symm
theorem mm_callN {mj wl cw wt na Lc idx : Nat} {self : Bool} {h : mm_Hp} {r : mm_Res} (hts : ∀ w ∈ mm_G, w.before args s = true) (hN : ∀ w ∈ mm_NW, va_Nw w s) (hok : mm_okC mi mj na Lc wl cw wt idx true false self = true) (hF : mm_fr mi ≤ R.frames) (hL9 : mm_lo mi ≤ R.locals) :
    va_CN R s args (mm_y mi).cls idx (mm_y mj) "BulbShapes" (mm_b mj) (mm_ml mj) (mm_rt mj) (mm_wd mj) (mm_Rm mj h r) (mm_c r.2 - mm_c h) (mm_s r.2 - mm_s h) (if self then na - 1 else na) := by
  unfold mm_okC at hok
  simp only [Bool.and_eq_true, decide_eq_true_eq, if_true, if_false, Bool.false_eq_true] at hok
  obtain ⟨⟨⟨⟨⟨⟨⟨⟨h1, h2, h2'⟩, h3⟩, h4⟩, h5⟩, h6⟩, h7⟩, h8⟩, h9⟩ := hok
  have hcw : mm_cw mj = .code (mm_y mj) (mm_b mj) (mm_ml mj) (mm_rt mj) := by unfold mm_cw; rw [if_pos h2']
  have hin : mm_cw mj ∈ mm_G := by rw [hcw, ← h4]; exact mm_inG h2 rfl
  have hce : Cond.code (mm_y mj) (mm_b mj) (mm_ml mj) (mm_rt mj) ∈ mm_wd mj := by rw [← hcw]; exact List.mem_cons_self
  refine ⟨⟨rfl, rfl, Nat.le_trans h8 hF, by rw [← h4]; exact Nat.le_trans h9 hL9, pay_in hts (mm_goodIn hin), hce⟩, hts _ (by rw [← hcw]; exact hin), hts _ (mm_inG h3 rfl), h6, fun sig hsig => ?_, va_Nw.use rfl (hN _ (mm_inNW h1 rfl))⟩
  cases self with
  | true =>
    simp only [if_true, Bool.and_eq_true, decide_eq_true_eq] at h7 ⊢
    have := h7.2
    rw [hsig] at this
    exact (Option.some.inj this).symm
  | false =>
    simp only [Bool.false_eq_true, if_false, decide_eq_true_eq] at h7 ⊢
    rw [hsig] at h7
    exact (Option.some.inj h7).symm
theorem mm_callW {mj wl cw wt na Lc idx : Nat} {h : mm_Hp} {r : mm_Res} (hts : ∀ w ∈ mm_G, w.before args s = true) (hok : mm_okC mi mj na Lc wl cw wt idx false true false = true) (hh : mm_hh mj ≠ []) (hst : (Cond.static (mm_y mj)).before args s = true) (hF : mm_fr mi ≤ R.frames) (hL9 : mm_lo mi ≤ R.locals) :
    vx_CSW R s args (mm_y mi).cls idx (mm_y mj) (mm_b mj) (mm_ml mj) (mm_rt mj) (mm_hh mj) (mm_wd mj) (mm_Rm mj h r) (mm_c r.2 - mm_c h) (mm_s r.2 - mm_s h) na := by
  unfold mm_okC at hok
  simp only [Bool.and_eq_true, decide_eq_true_eq, if_true, if_false, Bool.false_eq_true] at hok
  obtain ⟨⟨⟨⟨⟨⟨⟨⟨h1, h2, h2'⟩, h3⟩, h4⟩, h5⟩, h6⟩, h7⟩, h8⟩, h9⟩ := hok
  have hcw : mm_cw mj = .codeWith (mm_y mj) (mm_b mj) (mm_ml mj) (mm_rt mj) (mm_hh mj) := by unfold mm_cw; rw [if_neg hh]
  have hin : mm_cw mj ∈ mm_G := by rw [hcw, ← h4]; exact mm_inG h2 rfl
  have hce : Cond.codeWith (mm_y mj) (mm_b mj) (mm_ml mj) (mm_rt mj) (mm_hh mj) ∈ mm_wd mj := by rw [← hcw]; exact List.mem_cons_self
  refine ⟨⟨rfl, rfl, Nat.le_trans h8 hF, by rw [← h4]; exact Nat.le_trans h9 hL9, pay_in hts (mm_goodIn hin), hce⟩, hts _ (by rw [← hcw]; exact hin), hts _ (mm_inG h3 rfl), h6, fun sig hsig => ?_, hts _ (mm_inG h1 rfl), hst⟩
  rw [hsig] at h7
  exact (Option.some.inj h7).symm
end MM
end
section
/-! ===== what is made is never taken away ===== -/
def mm_hle (h h' : mm_Hp) : Prop := mm_c h ≤ mm_c h' ∧ mm_s h ≤ mm_s h' ∧ mm_n h ≤ mm_n h'
theorem mm_hle.rf (h : mm_Hp) : mm_hle h h := ⟨Nat.le_refl _, Nat.le_refl _, Nat.le_refl _⟩
theorem mm_hle.tr {a b c : mm_Hp} (h1 : mm_hle a b) (h2 : mm_hle b c) : mm_hle a c := ⟨Nat.le_trans h1.1 h2.1, Nat.le_trans h1.2.1 h2.2.1, Nat.le_trans h1.2.2 h2.2.2⟩
theorem mm_hle_al (h : mm_Hp) (k len w : Nat) : mm_hle h (mm_al h k len w) := ⟨Nat.le_succ _, Nat.le_add_right _ _, Nat.le_succ _⟩
theorem mm_hle_ex (h : mm_Hp) : mm_hle h (mm_ex h) := ⟨Nat.le_succ _, Nat.le_add_right _ _, Nat.le_refl _⟩
set_option maxHeartbeats 8000000 in
theorem mm_stp_le {e0 : mm_En} {ls st : List Value} {h : mm_Hp} {z : mm_St} (hs : mm_stp e0 ls st h = some z) : mm_hle h z.2.2.2.1 := by
  obtain ⟨ins, np, v, aux⟩ := e0
  cases ins <;> simp only [mm_stp, mm_ldI, mm_ldL, mm_ldD, mm_ldA, mm_stI, mm_stA, mm_stL, mm_stD, mm_inc, mm_b2, mm_d2, mm_l2, mm_f2, mm_lsh, mm_lcm, mm_dcm, mm_i2l, mm_i2d, mm_i2c, mm_d2l, mm_dup, mm_dup2, mm_pop, mm_gf, mm_pf, mm_ial, mm_cal, mm_lal, mm_aal, mm_ias, mm_cas, mm_las, mm_aas, mm_alen, mm_nar, mm_new, mm_inv, Bool.cond_eq_ite] at hs <;>
    (repeat' split at hs) <;> first
    | (cases hs; done)
    | (cases hs; exact mm_hle.rf h)
    | (cases hs; exact ⟨Nat.le_refl _, Nat.le_refl _, Nat.le_refl _⟩)
    | (cases hs; exact mm_hle_al _ _ _ _)
theorem mm_or {c X Y Z : Prop} (h : (c → X) ∧ (¬ c → Y)) (a : X → Z) (b : Y → Z) : Z := (Classical.em c).elim (fun q => a (h.1 q)) (fun q => b (h.2 q))
theorem mm_Rn_le2 : ∀ (n mi pc : Nat) (ls st : List Value) (h : mm_Hp) (r : mm_Res), mm_Rn n mi pc ls st h r → mm_hle h r.2 := by
  intro n
  induction n with
  | zero => intro _ _ _ _ _ _ x; exact x.elim
  | succ n ih =>
    intro mi pc ls st h r x
    have x' : (match mm_code mi pc with | none => False | some e => mm_act (mm_Rn n) mi e ls st h r) := x
    split at x'
    · exact x'.elim
    · rename_i e0 he
      have hseq : mm_seq (mm_Rn n) mi e0 ls st h r → mm_hle h r.2 := by
        intro y
        unfold mm_seq at y
        split at y
        · rename_i hz
          exact (mm_stp_le hz).tr (ih _ _ _ _ _ _ y.2)
        · exact y.elim
      have hcal : ∀ np ck mj na L ci, mm_call (mm_Rn n) mi np ck mj na L ci ls st h r → mm_hle h r.2 := by
        intro np ck mj na L ci y
        obtain ⟨_, _, _, _, r', b1, _, b3⟩ := y
        rcases b3 with ⟨_, c2⟩ | ⟨q, _, _, _, c3⟩
        · exact (ih _ _ _ _ _ _ b1).tr (ih _ _ _ _ _ _ c2)
        · exact (ih _ _ _ _ _ _ b1).tr (ih _ _ _ _ _ _ c3)
      have hcl9 : mm_cl9 (mm_Rn n) mi e0 ls st h r → mm_hle h r.2 := by
        intro y
        unfold mm_cl9 at y
        split at y
        · split at y
          · exact hseq y
          · exact hseq y
          · exact hseq y
          · exact hcal _ _ _ _ _ _ y
        · exact y.elim
      obtain ⟨ins, np, v, aux⟩ := e0
      cases ins <;> simp only [mm_act] at x' <;> first
        | exact hseq x'
        | exact hcl9 x'
        | (split at x'
           · first
             | (rw [x']; exact mm_hle.rf h)
             | (rw [x'.1]; exact mm_hle.rf h)
             | (rw [x'.1]; exact mm_hle_ex h)
             | exact ih _ _ _ _ _ _ x'
             | exact mm_or x' (ih _ _ _ _ _ _) (ih _ _ _ _ _ _)
           all_goals first
             | exact x'.elim
             | exact hseq x'
             | (rw [x'.1]; exact mm_hle.rf h))
/-- an answer is no reference -/
theorem mm_Rn_nr : ∀ (n mi pc : Nat) (ls st : List Value) (h : mm_Hp) (r : mm_Res), mm_Rn n mi pc ls st h r → ∀ v, r.1.2 = some v → ∀ ad, mm_tr ad v = v := by
  intro n
  induction n with
  | zero => intro _ _ _ _ _ _ x; exact x.elim
  | succ n ih =>
    intro mi pc ls st h r x
    have x' : (match mm_code mi pc with | none => False | some e => mm_act (mm_Rn n) mi e ls st h r) := x
    split at x'
    · exact x'.elim
    · rename_i e0 he
      have hseq : mm_seq (mm_Rn n) mi e0 ls st h r → ∀ v, r.1.2 = some v → ∀ ad, mm_tr ad v = v := by
        intro y
        unfold mm_seq at y
        split at y
        · exact ih _ _ _ _ _ _ y.2
        · exact y.elim
      have hcal : ∀ np ck mj na L ci, mm_call (mm_Rn n) mi np ck mj na L ci ls st h r → ∀ v, r.1.2 = some v → ∀ ad, mm_tr ad v = v := by
        intro np ck mj na L ci y
        obtain ⟨_, _, _, _, r', b1, _, b3⟩ := y
        rcases b3 with ⟨_, c2⟩ | ⟨q, _, _, _, c3⟩
        · exact ih _ _ _ _ _ _ c2
        · exact ih _ _ _ _ _ _ c3
      have hcl9 : mm_cl9 (mm_Rn n) mi e0 ls st h r → ∀ v, r.1.2 = some v → ∀ ad, mm_tr ad v = v := by
        intro y
        unfold mm_cl9 at y
        split at y
        · split at y
          · exact hseq y
          · exact hseq y
          · exact hseq y
          · exact hcal _ _ _ _ _ _ y
        · exact y.elim
      obtain ⟨ins, np, v, aux⟩ := e0
      cases ins <;> simp only [mm_act] at x' <;> first
        | exact hseq x'
        | exact hcl9 x'
        | (split at x'
           · first
             | (rw [x']; intro v hv ad; cases hv; done)
             | (rw [x']; intro v hv ad; cases hv; rfl)
             | (rw [x'.1]; intro v hv ad; cases hv; done)
             | (rw [x'.1]; intro v hv ad; cases hv; rfl)
             | exact ih _ _ _ _ _ _ x'
             | exact mm_or x' (ih _ _ _ _ _ _) (ih _ _ _ _ _ _)
           all_goals first
             | exact x'.elim
             | exact hseq x'
             | (rw [x'.1]; intro v hv ad; cases hv; rfl))
end
section
/-! ===== a call, whole ===== -/
theorem mm_cs1 : Cond.castable (mm_exn 1) (mm_exn 1) ∈ mm_NW := by decide +kernel
theorem mm_cs2 : Cond.castable (mm_exn 2) (mm_exn 2) ∈ mm_NW := by decide +kernel
theorem mm_cs3 : Cond.castable (mm_exn 3) (mm_exn 3) ∈ mm_NW := by decide +kernel
theorem mm_cs {E : Nat} (h : E = 1 ∨ E = 2 ∨ E = 3) : Cond.castable (mm_exn E) (mm_exn E) ∈ mm_NW := by
  rcases h with rfl | rfl | rfl
  · exact mm_cs1
  · exact mm_cs2
  · exact mm_cs3
abbrev mm_H4 : Type := Nat × Nat × Nat × Nat
def mm_ast (b : ByteArray) (hp li np : Nat) : Prop := (decode b hp = .ok (.astore li, 2) ∧ np = hp + 2) ∨ ∃ k : Fin 4, (k : Nat) = li ∧ decode b hp = .ok (.astore_n k, 1) ∧ np = hp + 1
theorem mm_okH_find {b : ByteArray} {E : Nat} {q : mm_H4} : ∀ (hh hl : List mm_H4), mm_okH b hh hl = true → hl.find? (fun q => Nat.beq q.1 E) = some q →
    ∃ (pre : List mm_H4) (x : mm_H4) (suf : List mm_H4), hh = pre ++ x :: suf ∧ x.2.2.2 ≠ 0 ∧ (E = 1 ∨ E = 2 ∨ E = 3) ∧ Cond.classLink "BulbShapesLaw" x.2.2.2 (mm_exn E) ∈ lw_tbl ∧ mm_ast b x.2.2.1 q.2.2.1 q.2.2.2 ∧
      ∀ z ∈ pre, z.2.2.2 ≠ 0 ∧ ∃ E', (E' = 1 ∨ E' = 2 ∨ E' = 3) ∧ E ≠ E' ∧ Cond.classLink "BulbShapesLaw" z.2.2.2 (mm_exn E') ∈ lw_tbl
  | [], [], _, h => by cases h
  | [], _ :: _, h, _ => by cases h
  | _ :: _, [], h, _ => by cases h
  | (s1, e1, hp, ct) :: r, (E9, hp', li, np) :: r', h, hf => by
    simp only [mm_okH, Bool.and_eq_true, decide_eq_true_eq] at h
    obtain ⟨⟨⟨⟨⟨h1, h2⟩, h3⟩, h4⟩, h5⟩, h6⟩ := h
    rw [List.find?_cons] at hf
    cases hb : Nat.beq E9 E with
    | true =>
      rw [hb] at hf
      cases hf
      have hE : E9 = E := Nat.eq_of_beq_eq_true hb
      subst hE
      refine ⟨[], (s1, e1, hp, ct), r, rfl, h2, h3, h4, ?_, fun z hz => by cases hz⟩
      simp only [Bool.or_eq_true, Bool.and_eq_true, decide_eq_true_eq] at h5
      rcases h5 with h5 | ⟨h5, h7⟩
      · exact Or.inl h5
      · right
        split at h5
        · exact ⟨1, rfl, of_decide_eq_true h5, h7⟩
        · exact ⟨2, rfl, of_decide_eq_true h5, h7⟩
        · exact ⟨3, rfl, of_decide_eq_true h5, h7⟩
        · cases h5
    | false =>
      rw [hb] at hf
      obtain ⟨pre, x, suf, g1, g2, g3, g4, g5, g6⟩ := mm_okH_find r r' h6 hf
      refine ⟨(s1, e1, hp, ct) :: pre, x, suf, by rw [g1]; rfl, g2, g3, g4, g5, fun z hz => ?_⟩
      rcases List.mem_cons.mp hz with rfl | hz
      · exact ⟨h2, E9, h3, fun q => (by subst q; rw [Nat.beq_refl] at hb; cases hb), h4⟩
      · exact g6 z hz
theorem mm_inG2 {w : Jvm.Cond} (h : w ∈ lw_tbl) (g : goodWord w = true) : w ∈ mm_G := List.mem_filter.mpr ⟨h, g⟩
section MM
variable {p : Program} {l : Launch} {e : Env} {R : Room} {s : State} {m : MethodId} {args : Array Value} {below : List Frame} {meth : Method} {c : Code} {Q : State → Prop} {D : va_G} {A : Nat → Prop} {tS b L : Nat} {xs : Nat → Int32} {ad0 : Nat → Nat} {n0 c0 s0 nL mi : Nat}
/-- a thrown exception, caught by this method's table -/
theorem mm_catch {pc li np E : Nat} {ls : List Value} {h : mm_Hp} {H : Heap} {locs : List Loc} {cells slots : Nat} {lsR : Array Slot} {ad cA : Nat → Nat} {tys : List (ClassId × FieldType)} {rest : List Value} {ce : Cell} {q9 : Addr} (hmi : mi < 78) (C : mm_Cx p l s m args meth c mi nL) (Es : mm_ES A tS b L xs s) (hT : c.exceptionTable.toList = tableOf (mm_hh mi)) (hq : mm_hand mi E = some (np, li)) (hpre : mm_pre ls li = false)
    (hcov : ∀ x ∈ mm_hh mi, x.1 ≤ pc ∧ pc < x.2.1) (hI : mm_Iv D A tS b L xs s ad0 n0 c0 s0 nL ad cA tys lsR ls h H locs cells slots) (hce : H[q9]? = some ce) (hcv : ce.vm = .none) (hcl : s.vm.findClass (mm_exn E) = some ce.cls)
    (K : mm_Go p l e R s m args below meth c Q D A tS b L xs ad0 n0 c0 s0 nL np (mm_lset ls li .null) [] h) : vx_W p l e R s m args below meth c H locs cells slots Q (F0 m pc lsR rest) q9 := by
  obtain ⟨hx, hb, hr, hml, hnl, hown, hts, hlk, hin, hst⟩ := C
  have hok := List.all_eq_true.mp mm_okXall mi (List.mem_range.mpr hmi)
  unfold mm_okX at hok
  simp only [Bool.and_eq_true] at hok
  obtain ⟨⟨⟨o1, o2⟩, o3⟩, -⟩ := hok
  unfold mm_hand at hq
  cases hf : (mm_hl mi).find? (fun q => Nat.beq q.1 E) with
  | none => rw [hf] at hq; cases hq
  | some q4 =>
    rw [hf] at hq
    have hq2 : (q4.2.2.2, q4.2.2.1) = (np, li) := Option.some.inj hq
    obtain ⟨pre, x, suf, g1, g2, g3, g4, g5, g6⟩ := mm_okH_find _ _ o1 hf
    have hnp : q4.2.2.2 = np := congrArg Prod.fst hq2
    have hli : q4.2.2.1 = li := congrArg Prod.snd hq2
    rw [hnp, hli] at g5
    have hli2 : li < nL := by
      rw [← hli, hnl]
      exact of_decide_eq_true (List.all_eq_true.mp o3 q4 (List.mem_of_find?_eq_some hf))
    have hcls : (mm_y mi).cls = "BulbShapesLaw" := by
      rw [Bool.or_eq_true] at o2
      rcases o2 with o2 | o2
      · have : mm_hh mi = [] := by simpa using o2
        rw [this] at g1
        cases pre <;> cases g1
      · exact of_decide_eq_true o2
    rw [hcls] at hown
    have hsplit : c.exceptionTable.toList = tableOf pre ++ ⟨x.1, x.2.1, x.2.2.1, x.2.2.2⟩ :: tableOf suf := by
      rw [hT, g1]
      simp [tableOf]
    have hcx : covers ⟨x.1, x.2.1, x.2.2.1, x.2.2.2⟩ pc = true := by
      have h9 := hcov x (by rw [g1]; simp)
      simp [covers, h9.1, h9.2]
    refine vx_catch hown (tableOf pre) ⟨x.1, x.2.1, x.2.2.1, x.2.2.2⟩ (tableOf suf) hsplit (fun z hz => ?_) hcx g2 (hts _ (mm_inG2 g4 rfl)) (va_Nw.use rfl (Es.2.2.2.2.2.1 _ (mm_cs g3))) hce hcv hcl ?_
    · obtain ⟨z0, hz0, rfl⟩ := List.mem_map.mp hz
      obtain ⟨k1, E', k2, k3, k4⟩ := g6 z0 hz0
      exact Or.inr ⟨k1, mm_exn E', hts _ (mm_inG2 k4 rfl), Es.2.2.2.2.2.2.2.2.2 E E' g3 k2 k3⟩
    · have fin : ∀ lsR' : Array Slot, lv_has lsR' nL ((li, .ref q9) :: mm_f1 li (mm_asc ad 0 ls)) → W p l e R s m args below meth c H locs cells slots Q (F0 m np lsR' []) := by
        intro lsR' h'
        have hLR : mm_LR ad lsR' nL (mm_lset ls li .null) := by
          refine ⟨⟨h'.1, h'.2.1, fun q hq => h'.2.2 q ?_⟩, by rw [mm_lset_len]; exact hI.2.2.1.2⟩
          obtain ⟨k, h1, h2, h3⟩ := (mm_asc_mem _ _ _).mp hq
          rw [mm_lget_lset] at h2 h3
          simp only [Nat.zero_add] at h1
          by_cases hk : k = li
          · rw [if_pos hk] at h2
            split at h2 <;> exact absurd rfl h2
          · rw [if_neg hk] at h2 h3
            refine List.mem_cons.mpr (Or.inr (List.mem_filter.mpr ⟨(mm_asc_mem _ _ _).mpr ⟨k, by omega, h2, h3⟩, ?_⟩))
            have hki : ¬ q.1 = li := by rw [h1]; exact hk
            simp only [Bool.and_eq_true, Bool.not_eq_true', beq_eq_false_iff_ne, ne_eq, hki, not_false_eq_true, true_and, Bool.and_eq_false_iff]
            by_cases hk1 : q.1 + 1 = li
            · right
              have hik : li = k + 1 := by omega
              subst hik
              intro hc
              rw [h3] at hc
              have := (mm_tr_two ad (mm_lget ls k)).mp hc
              rw [show mm_pre ls (k + 1) = mm_two (mm_lget ls k) from rfl, this] at hpre
              cases hpre
            · exact Or.inl hk1
        exact K _ _ _ _ _ _ _ _ (hI.loc hLR)
      rcases g5 with ⟨hd, rfl⟩ | ⟨k, rfl, hd, rfl⟩
      · exact lv_astore hx hb hd hI.2.2.1.1 hli2 rfl fin
      · exact lv_astore_n hx hb hd rfl hI.2.2.1.1 hli2 rfl fin
end MM
end
section
/-! ===== a walk of the mini machine is one of the real machine ===== -/
section MM
variable {p : Program} {l : Launch} {e : Env} {R : Room} {s : State} {m : MethodId} {args : Array Value} {below : List Frame} {meth : Method} {c : Code} {Q : State → Prop} {D : va_G} {A : Nat → Prop} {tS b L : Nat} {xs : Nat → Int32} {ad0 : Nat → Nat} {n0 c0 s0 nL mi : Nat}
/-- what goes on behind a call of any kind, out of its run -/
theorem mm_after {k : mm_Kt} {mj n pc : Nat} {ls av : List Value} {h : mm_Hp} {r r' : mm_Res} {rest : List Value} (hmi : mi < 78) (C : mm_Cx p l s m args meth c mi nL) (Es : mm_ES A tS b L xs s) (hA : ∀ q, s.heap.size ≤ q → A q) (hT : mm_hl mi ≠ [] → c.exceptionTable.toList = tableOf (mm_hh mi))
    (hcov : ∀ x ∈ mm_hh mi, x.1 ≤ pc ∧ pc < x.2.1) (hk : mm_Rn n mj 0 (mm_ent (mm_ml mj) av) [] h r') (hle : mm_hle h r'.2) (hB : mm_c r'.2 ≤ c0 + R.cells ∧ mm_s r'.2 ≤ s0 + R.slots) (ho : mm_n r'.2 = mm_n h ∨ ∀ v ∈ ls ++ rest, mm_old (mm_n h) v)
    (hres : (r'.1.1 = 0 ∧ k mi (pc + 3) ls (r'.1.2.toList ++ rest) r'.2 r) ∨ ∃ q : Nat × Nat, r'.1.1 ≠ 0 ∧ mm_hand mi r'.1.1 = some q ∧ mm_pre ls q.2 = false ∧ k mi q.1 (mm_lset ls q.2 .null) [] r'.2 r)
    (IHk : ∀ pc' ls' st' h', k mi pc' ls' st' h' r → mm_Go p l e R s m args below meth c Q D A tS b L xs ad0 n0 c0 s0 nL pc' ls' st' h')
    {H : Heap} {locs : List Loc} {cells slots : Nat} {lsR : Array Slot} {ad cA : Nat → Nat} {tys : List (ClassId × FieldType)} (hI : mm_Iv D A tS b L xs s ad0 n0 c0 s0 nL ad cA tys lsR ls h H locs cells slots) {a : Array Value} {st0 : List Value}
    (run : vx_Run p l e R s m args below meth c H locs cells slots (mm_c r'.2 - mm_c h) (mm_s r'.2 - mm_s h) (F0 m pc lsR st0) (rest.map (mm_tr ad)) (mm_Qr D (va_A (mm_ws ad cA h) H.size) tS b L xs ad (mm_n h) r' a) (mm_Xr D (va_A (mm_ws ad cA h) H.size) tS b L xs ad (mm_n h) r') (va_A (mm_ws ad cA h) H.size)) :
    W p l e R s m args below meth c H locs cells slots Q (F0 m pc lsR st0) := by
  have hA1 := mm_A1 hI hA
  refine mm_run run hI.2.1 hA1 (fun ce q9 t H1 locs1 ht hv hE hBw hS hce hcv hcl => ?_) (fun t H1 locs1 ht hv hr0 hBw hS => ?_)
  · obtain ⟨ad', cA', tys', hI', -⟩ := hI.back hA1 ht hv hBw hS hle.1 hle.2.1 hle.2.2 ho
    rcases hres with ⟨h0, -⟩ | ⟨q, hne, hq, hp, hk3⟩
    · omega
    · have hT2 : mm_hl mi ≠ [] := by
        intro h9
        unfold mm_hand at hq
        rw [h9] at hq
        cases hq
      exact mm_catch hmi C Es (hT hT2) hq hp hcov hI' hce hcv hcl (IHk _ _ _ _ hk3)
  · obtain ⟨ad', cA', tys', hI', hrest⟩ := hI.back hA1 ht hv hBw hS hle.1 hle.2.1 hle.2.2 ho
    rcases hres with ⟨-, hk2⟩ | ⟨q, hne, -⟩
    · have k9 := IHk _ _ _ _ hk2 _ _ _ _ _ _ _ _ hI'
      rw [List.map_append, hrest] at k9
      have hv9 : (r'.1.2.toList).map (mm_tr ad') = r'.1.2.toList := by
        cases hz : r'.1.2 with
        | none => rfl
        | some v =>
          show [mm_tr ad' v] = [v]
          rw [mm_Rn_nr _ _ _ _ _ _ _ hk v hz ad']
      rw [hv9] at k9
      exact k9
    · exact absurd hr0 hne
/-- the callee's start -/
theorem mm_pre0 {h : mm_Hp} (Es : mm_ES A tS b L xs s) (hA : ∀ q, s.heap.size ≤ q → A q) {ls : List Value}
    {H : Heap} {locs : List Loc} {cells slots : Nat} {lsR : Array Slot} {ad cA : Nat → Nat} {tys : List (ClassId × FieldType)} (hI : mm_Iv D A tS b L xs s ad0 n0 c0 s0 nL ad cA tys lsR ls h H locs cells slots) (av : List Value) :
    ∀ U : State, U.heap = H → s.WarmedH U.vm → mm_Pr D tS b L xs av ad cA tys H.size h (av.map (mm_tr ad)).toArray U := by
  intro U hU hW
  have hA1 := mm_A1 hI hA
  refine ⟨rfl, by rw [hU], ?_, ?_⟩
  · rw [hU]
    obtain ⟨w1, w2, w3, w4⟩ := hI.1.moved hW.alike
    exact ⟨w1, w2, w3.weaken (fun _ _ _ _ => trivial), w4⟩
  · exact Es.go hW (fun q h1 h2 => by rw [hU]; exact hI.2.1.2.1 q h1 h2) (by rw [hU]; exact hI.2.1.1) hA1
theorem mm_split {na : Nat} {st : List Value} (hn : na ≤ st.length) : st = (st.take na).reverse.reverse ++ st.drop na ∧ (st.take na).reverse.length = na := by
  refine ⟨by rw [List.reverse_reverse, List.take_append_drop], by rw [List.length_reverse, List.length_take]; omega⟩
set_option maxHeartbeats 4000000 in
theorem mm_scall {n pc : Nat} {e0 : mm_En} {ls st : List Value} {h : mm_Hp} {r : mm_Res} {k : mm_Kt} (hkn : k = mm_Rn n) (hmi : mi < 78) (he : mm_code mi pc = some e0) (C : mm_Cx p l s m args meth c mi nL) (Es : mm_ES A tS b L xs s) (hA : ∀ q, s.heap.size ≤ q → A q) (hT : mm_hl mi ≠ [] → c.exceptionTable.toList = tableOf (mm_hh mi))
    (o1 : mm_ok1 mi pc e0 = true) (o2 : mm_ok2 mi pc e0 = true) (hF : mm_fr mi ≤ R.frames) (hL9 : mm_lo mi ≤ R.locals) (hB : mm_c r.2 ≤ c0 + R.cells ∧ mm_s r.2 ≤ s0 + R.slots)
    (IHc : ∀ mj av h r', mm_Rn n mj 0 (mm_ent (mm_ml mj) av) [] h r' → mj < 77 → (mm_spread av).length ≤ mm_ml mj → mm_Con l D tS b L xs mj av h r')
    (IHk : ∀ pc' ls' st' h', k mi pc' ls' st' h' r → mm_Go p l e R s m args below meth c Q D A tS b L xs ad0 n0 c0 s0 nL pc' ls' st' h')
    (ck mj na Lc : Nat) (aux : List Nat) (haux : e0.2.2.2 = ck :: mj :: na :: Lc :: aux) (hck : ck ≠ 0 ∧ ck ≠ 7 ∧ ck ≠ 8) (hins : (∃ i, e0.1 = .invokevirtual i) ∨ (∃ i, e0.1 = .invokestatic i) ∨ (∃ i, e0.1 = .invokespecial i))
    (x : mm_call k mi e0.2.1 ck mj na Lc (aux.headD 99) ls st h r) : mm_Go p l e R s m args below meth c Q D A tS b L xs ad0 n0 c0 s0 nL pc ls st h := by
  subst hkn
  obtain ⟨ins, np, v, aux9⟩ := e0
  dsimp only at haux hins x
  subst haux
  obtain ⟨hn, hcat, hrecv, hsp, r', hk, ho, hres⟩ := x
  have hle := mm_Rn_le2 _ _ _ _ _ _ _ hk
  have hle2 : mm_hle r'.2 r.2 := by
    rcases hres with ⟨-, c2⟩ | ⟨q, -, -, -, c3⟩
    · exact mm_Rn_le2 _ _ _ _ _ _ _ c2
    · exact mm_Rn_le2 _ _ _ _ _ _ _ c3
  have hB' : mm_c r'.2 ≤ c0 + R.cells ∧ mm_s r'.2 ≤ s0 + R.slots := ⟨Nat.le_trans hle2.1 hB.1, Nat.le_trans hle2.2.1 hB.2⟩
  have C9 := C
  obtain ⟨hx, hb, hr, hml, hnl, hown, hts, hlk, hin, hst⟩ := C9
  have hN := Es.2.2.2.2.2.1
  obtain ⟨hsplit, hlen⟩ := mm_split hn
  have hokX := List.all_eq_true.mp mm_okXall mi (List.mem_range.mpr hmi)
  unfold mm_okX at hokX
  simp only [Bool.and_eq_true] at hokX
  have hX4 := hokX.2
  have hplen : pc < mm_lb mi := by
    have h9 := he
    unfold mm_code at h9
    by_cases h2 : mm_lb mi ≤ pc
    · rw [show Nat.ble (mm_lb mi) pc = true from Nat.ble_eq_true_of_le h2] at h9
      cases hb9 : Nat.ble 78 mi <;> rw [hb9] at h9 <;> cases h9
    · omega
  have hcell : ∀ {H : Heap} {locs : List Loc} {cells slots : Nat} {lsR : Array Slot} {ad cA : Nat → Nat} {tys : List (ClassId × FieldType)}, mm_Iv D A tS b L xs s ad0 n0 c0 s0 nL ad cA tys lsR ls h H locs cells slots → cells + (mm_c r'.2 - mm_c h) ≤ R.cells ∧ slots + (mm_s r'.2 - mm_s h) ≤ R.slots := by
    intro H locs cells slots lsR ad cA tys hI
    have q4 := hI.2.2.2.1
    have q5 := hI.2.2.2.2.1
    have q1 := hle.1
    have q2 := hle.2.1
    have q3 := hB'.1
    have q6 := hB'.2
    exact ⟨by omega, by omega⟩
  have hroom : ∀ (ad : Nat → Nat) (lsR : Array Slot) (st9 : List Value), 2 * (F0 m pc lsR st9).monitorRoom + (((st.drop na).map (mm_tr ad)).map fun v => v.category).sum ≤ 8 := fun ad lsR st9 => lv_room (by rw [mm_trs_cat]; exact hcat)
  generalize hav : (st.take na).reverse = av at *
  generalize hrs : st.drop na = rest at *
  cases ins with
  | invokevirtual i =>
    obtain ⟨hd, rfl⟩ := mm_dec o1 rfl
    have hcov : ∀ x ∈ mm_hh mi, x.1 ≤ pc ∧ pc < x.2.1 := by
      rw [Bool.or_eq_true] at hX4
      rcases hX4 with h9 | h9
      · have : mm_hh mi = [] := by simpa using h9
        rw [this]
        intro x hx; cases hx
      · have h8 := List.all_eq_true.mp h9 pc (List.mem_range.mpr hplen)
        rw [he] at h8
        intro x hx
        have h7 := List.all_eq_true.mp h8 x hx
        simp only [Bool.and_eq_true, decide_eq_true_eq] at h7
        exact h7
    have o3 : mm_okV mi i (ck :: mj :: na :: Lc :: aux) = true := o2
    clear o2
    unfold mm_okV at o3
    split at o3
    case h_3 => cases o3
    case h_1 mj' na' Lc' ci' wl cw wt wn ws heq =>
      cases heq
      simp only [Bool.and_eq_true, decide_eq_true_eq] at o3
      obtain ⟨⟨⟨oC, oN⟩, oS⟩, oK⟩ := o3
      have oC2 := oC
      unfold mm_okC at oC2
      simp only [Bool.and_eq_true, decide_eq_true_eq, if_true] at oC2
      have h4 : Lc = mm_ml mj := oC2.1.1.1.1.1.2
      have h5 : mj < 77 := oC2.1.1.1.1.2
      have hpos : 0 < na := oC2.1.1.2.1
      subst h4
      have hM := IHc mj av h r' hk h5 hsp
      simp only [mm_recv] at hrecv
      split at hrecv
      case h_2 => exact hrecv.elim
      case h_1 a As =>
        obtain ⟨ha, hKa⟩ := hrecv
        intro H locs cells slots lsR ad cA tys hI
        have hW := hI.1
        cases hcl : mm_cl[ci']? with
        | none => rw [hcl] at oK; cases oK
        | some q9 =>
          rw [hcl] at oK
          have hCq : q9.1 = (mm_y mj).cls := Option.some.inj oK
          obtain ⟨C9, T9, N9⟩ := q9
          have hci6 := (mm_clf hcl).1
          have hea := mm_ws_get (ad := ad) (cA := cA) ha
          rw [mm_en_obj hKa hci6] at hea
          have hrec := va_recv hW.1 hW.2.1 hcl hea
          have cw9 : CallW R s args (mm_y mi).cls (mm_y mj).cls i (mm_y mj) (mm_b mj) (mm_ml mj) (mm_rt mj) (mm_wd mj) (mm_Rm mj h r') (mm_c r'.2 - mm_c h) (mm_s r'.2 - mm_s h) (na - 1) :=
            ⟨mm_callB hts oC rfl hF hL9, hts _ (mm_inG oN rfl), hts _ (mm_inG oS rfl)⟩
          have run := vx_runV (e := e) (below := below) (meth := meth) (locs := locs) (g := F0 m pc lsR (st.map (mm_tr ad))) (rest := rest.map (mm_tr ad)) (As := As.map (mm_tr ad)) (b := ad a) ⟨hx, hb, hml, hown, hts⟩ (hM ad cA tys H.size) cw9 ⟨mm_blind, by rw [← hCq]; exact hrec, mm_pre0 Es hA hI (.ref a :: As)⟩ rfl (by rw [List.length_map]; simp only [List.length_cons] at hlen; omega) hI.2.2.1.1.1
            (by show st.map (mm_tr ad) = _; rw [hsplit]; simp [mm_tr]) (hroom _ _ _) hd (hcell hI)
          exact mm_after hmi C Es hA hT hcov hk hle hB' ho hres IHk hI run
    case h_2 mj' na' Lc' ci' wl cw wt wn ws heq =>
      cases heq
      simp only [Bool.and_eq_true, decide_eq_true_eq] at o3
      obtain ⟨⟨⟨oC, oN⟩, oS⟩, oK⟩ := o3
      have oC2 := oC
      unfold mm_okC at oC2
      simp only [Bool.and_eq_true, decide_eq_true_eq, if_true] at oC2
      have h4 : Lc = mm_ml mj := oC2.1.1.1.1.1.2
      have h5 : mj < 77 := oC2.1.1.1.1.2
      have hpos : 0 < na := oC2.1.1.2.1
      subst h4
      have hM := IHc mj av h r' hk h5 hsp
      simp only [mm_recv] at hrecv
      split at hrecv
      case h_2 => exact hrecv.elim
      case h_1 a As =>
        obtain ⟨ha, hKa⟩ := hrecv
        intro H locs cells slots lsR ad cA tys hI
        have hW := hI.1
        cases hcl : mm_cl[ci']? with
        | none => rw [hcl] at oK; cases oK
        | some q9 =>
          rw [hcl] at oK
          have hCq : q9.1 = (mm_y mj).cls := Option.some.inj oK
          obtain ⟨C9, T9, N9⟩ := q9
          have hci6 := (mm_clf hcl).1
          have hea := mm_ws_get (ad := ad) (cA := cA) ha
          rw [mm_en_obj hKa hci6] at hea
          have hrec := va_recv hW.1 hW.2.1 hcl hea
          have run := vx_runVN (e := e) (below := below) (meth := meth) (locs := locs) (g := F0 m pc lsR (st.map (mm_tr ad))) (rest := rest.map (mm_tr ad)) (As := As.map (mm_tr ad)) (b := ad a) (C := (mm_y mj).cls) ⟨hx, hb, hml, hown, hts⟩ (hM ad cA tys H.size) ⟨mm_callN (self := true) (h := h) (r := r') hts hN oC hF hL9, hts _ (mm_inG oN rfl), hts _ (mm_inG oS rfl)⟩ ⟨mm_blind, by rw [← hCq]; exact hrec, mm_pre0 Es hA hI (.ref a :: As)⟩ rfl (by rw [List.length_map]; simp only [List.length_cons] at hlen; show As.length = na - 1; omega) hI.2.2.1.1.1
            (by show st.map (mm_tr ad) = _; rw [hsplit]; simp [mm_tr]) (hroom _ _ _) hd (hcell hI)
          exact mm_after hmi C Es hA hT hcov hk hle hB' ho hres IHk hI run
  | invokestatic i =>
    obtain ⟨hd, rfl⟩ := mm_dec o1 rfl
    have hcov : ∀ x ∈ mm_hh mi, x.1 ≤ pc ∧ pc < x.2.1 := by
      rw [Bool.or_eq_true] at hX4
      rcases hX4 with h9 | h9
      · have : mm_hh mi = [] := by simpa using h9
        rw [this]
        intro x hx; cases hx
      · have h8 := List.all_eq_true.mp h9 pc (List.mem_range.mpr hplen)
        rw [he] at h8
        cases h8
    have o3 : mm_okS mi i (ck :: mj :: na :: Lc :: aux) = true := o2
    clear o2
    unfold mm_okS at o3
    split at o3
    case h_6 => cases o3
    case h_4 heq => cases heq; exact absurd rfl hck.2.1
    case h_5 heq => cases heq; exact absurd rfl hck.2.2
    case h_1 heq =>
      cases heq
      simp only [Bool.and_eq_true, decide_eq_true_eq] at o3
      obtain ⟨oC, oS⟩ := o3
      have oC2 := oC
      unfold mm_okC at oC2
      simp only [Bool.and_eq_true, decide_eq_true_eq, if_true, Bool.false_eq_true, if_false] at oC2
      have h4 : Lc = mm_ml mj := oC2.1.1.1.1.1.2
      have h5 : mj < 77 := oC2.1.1.1.1.2
      subst h4
      have hM := IHc mj av h r' hk h5 hsp
      intro H locs cells slots lsR ad cA tys hI
      have run := vx_runS (e := e) (below := below) (meth := meth) (locs := locs) (g := F0 m pc lsR (st.map (mm_tr ad))) (rest := rest.map (mm_tr ad)) (As := av.map (mm_tr ad)) ⟨hx, hb, hml, hown, hts⟩ (hM ad cA tys H.size) ⟨mm_callB (self := false) (h := h) (r := r') hts oC rfl hF hL9, hts _ (mm_inG oS rfl)⟩ ⟨mm_blind, mm_pre0 Es hA hI av⟩ rfl (by rw [List.length_map]; exact hlen) hI.2.2.1.1.1
        (by show st.map (mm_tr ad) = _; rw [hsplit]; simp) (hroom _ _ _) hd (hcell hI)
      exact mm_after hmi C Es hA hT hcov hk hle hB' ho hres IHk hI run
    case h_2 heq =>
      cases heq
      simp only [Bool.and_eq_true, decide_eq_true_eq] at o3
      obtain ⟨oC, oS⟩ := o3
      have oC2 := oC
      unfold mm_okC at oC2
      simp only [Bool.and_eq_true, decide_eq_true_eq, if_true, Bool.false_eq_true, if_false] at oC2
      have h4 : Lc = mm_ml mj := oC2.1.1.1.1.1.2
      have h5 : mj < 77 := oC2.1.1.1.1.2
      subst h4
      have hM := IHc mj av h r' hk h5 hsp
      intro H locs cells slots lsR ad cA tys hI
      have run := vx_runSN (e := e) (below := below) (meth := meth) (locs := locs) (g := F0 m pc lsR (st.map (mm_tr ad))) (rest := rest.map (mm_tr ad)) (As := av.map (mm_tr ad)) ⟨hx, hb, hml, hown, hts⟩ (hM ad cA tys H.size) ⟨mm_callN (self := false) (h := h) (r := r') hts hN oC hF hL9, hts _ (mm_inG oS rfl), trivial⟩ ⟨mm_blind, mm_pre0 Es hA hI av⟩ rfl (by rw [List.length_map]; exact hlen) hI.2.2.1.1.1
        (by show st.map (mm_tr ad) = _; rw [hsplit]; simp) (hroom _ _ _) hd (hcell hI)
      exact mm_after hmi C Es hA hT hcov hk hle hB' ho hres IHk hI run
    case h_3 heq =>
      cases heq
      simp only [Bool.and_eq_true, decide_eq_true_eq] at o3
      obtain ⟨oC, oS⟩ := o3
      have oC2 := oC
      unfold mm_okC at oC2
      simp only [Bool.and_eq_true, decide_eq_true_eq, if_true, Bool.false_eq_true, if_false] at oC2
      have h4 : Lc = mm_ml mj := oC2.1.1.1.1.1.2
      have h5 : mj < 77 := oC2.1.1.1.1.2
      subst h4
      have hM := IHc mj av h r' hk h5 hsp
      intro H locs cells slots lsR ad cA tys hI
      have hh : mm_hh mj ≠ [] := oC2.1.1.1.1.1.1.1.2.2
      have run := vx_runSX (e := e) (below := below) (meth := meth) (locs := locs) (g := F0 m pc lsR (st.map (mm_tr ad))) (rest := rest.map (mm_tr ad)) (As := av.map (mm_tr ad)) ⟨hx, hb, hml, hown, hts⟩ (hM ad cA tys H.size) (mm_callW (h := h) (r := r') hts oC hh (hts _ (mm_inG oS rfl)) hF hL9) ⟨mm_blind, mm_pre0 Es hA hI av⟩ rfl (by rw [List.length_map]; exact hlen) hI.2.2.1.1.1
          (by show st.map (mm_tr ad) = _; rw [hsplit]; simp) (hroom _ _ _) hd (hcell hI)
      exact mm_after hmi C Es hA hT hcov hk hle hB' ho hres IHk hI run
  | invokespecial i =>
    obtain ⟨hd, rfl⟩ := mm_dec o1 rfl
    have hcov : ∀ x ∈ mm_hh mi, x.1 ≤ pc ∧ pc < x.2.1 := by
      rw [Bool.or_eq_true] at hX4
      rcases hX4 with h9 | h9
      · have : mm_hh mi = [] := by simpa using h9
        rw [this]
        intro x hx; cases hx
      · have h8 := List.all_eq_true.mp h9 pc (List.mem_range.mpr hplen)
        rw [he] at h8
        cases h8
    have o3 : mm_okP mi i (ck :: mj :: na :: Lc :: aux) = true := o2
    clear o2
    unfold mm_okP at o3
    split at o3
    case h_4 => cases o3
    case h_1 heq => cases heq; exact absurd rfl hck.1
    case h_2 heq =>
      cases heq
      simp only [Bool.and_eq_true, decide_eq_true_eq] at o3
      obtain ⟨⟨⟨oC, oN⟩, oI⟩, oR⟩ := o3
      have oC2 := oC
      unfold mm_okC at oC2
      simp only [Bool.and_eq_true, decide_eq_true_eq, if_true, Bool.false_eq_true, if_false] at oC2
      have h4 : Lc = mm_ml mj := oC2.1.1.1.1.1.2
      have h5 : mj < 77 := oC2.1.1.1.1.2
      have hpos : 0 < na := oC2.1.1.2.1
      subst h4
      have hM := IHc mj av h r' hk h5 hsp
      simp only [mm_recv] at hrecv
      split at hrecv
      case h_2 => exact hrecv.elim
      case h_1 a As =>
        intro H locs cells slots lsR ad cA tys hI
        have cb := mm_callB (R := R) (args := args) (s := s) (self := true) (h := h) (r := r') hts oC rfl hF hL9
        rw [oR] at cb
        have run := vx_runI (e := e) (below := below) (meth := meth) (locs := locs) (g := F0 m pc lsR (st.map (mm_tr ad))) (rest := rest.map (mm_tr ad)) (As := As.map (mm_tr ad)) (b := ad a) ⟨hx, hb, hml, hown, hts⟩ (hM ad cA tys H.size) ⟨cb, oI, hts _ (mm_inG oN rfl)⟩ ⟨mm_blind, mm_pre0 Es hA hI (.ref a :: As)⟩ rfl (by rw [List.length_map]; simp only [List.length_cons] at hlen; show As.length = na - 1; omega) hI.2.2.1.1.1
          (by show st.map (mm_tr ad) = _; rw [hsplit]; simp [mm_tr]) (hroom _ _ _) hd (hcell hI)
        exact mm_after hmi C Es hA hT hcov hk hle hB' ho hres IHk hI run
    case h_3 heq =>
      cases heq
      simp only [Bool.and_eq_true, decide_eq_true_eq] at o3
      obtain ⟨⟨⟨oC, oN⟩, oI⟩, oR⟩ := o3
      have oC2 := oC
      unfold mm_okC at oC2
      simp only [Bool.and_eq_true, decide_eq_true_eq, if_true, Bool.false_eq_true, if_false] at oC2
      have h4 : Lc = mm_ml mj := oC2.1.1.1.1.1.2
      have h5 : mj < 77 := oC2.1.1.1.1.2
      have hpos : 0 < na := oC2.1.1.2.1
      subst h4
      have hM := IHc mj av h r' hk h5 hsp
      simp only [mm_recv] at hrecv
      split at hrecv
      case h_2 => exact hrecv.elim
      case h_1 a As =>
        intro H locs cells slots lsR ad cA tys hI
        have cb := mm_callN (R := R) (args := args) (s := s) (self := true) (h := h) (r := r') hts hN oC hF hL9
        rw [oR] at cb
        have run := vx_runIN (e := e) (below := below) (meth := meth) (locs := locs) (g := F0 m pc lsR (st.map (mm_tr ad))) (rest := rest.map (mm_tr ad)) (As := As.map (mm_tr ad)) (b := ad a) ⟨hx, hb, hml, hown, hts⟩ (hM ad cA tys H.size) ⟨cb, oI, hts _ (mm_inG oN rfl)⟩ ⟨mm_blind, mm_pre0 Es hA hI (.ref a :: As)⟩ rfl (by rw [List.length_map]; simp only [List.length_cons] at hlen; show As.length = na - 1; omega) hI.2.2.1.1.1
          (by show st.map (mm_tr ad) = _; rw [hsplit]; simp [mm_tr]) (hroom _ _ _) hd (hcell hI)
        exact mm_after hmi C Es hA hT hcov hk hle hB' ho hres IHk hI run
  | _ => rcases hins with ⟨i, hi⟩ | ⟨i, hi⟩ | ⟨i, hi⟩ <;> cases hi
end MM
end
section
/-! ===== a walk, whole ===== -/
theorem mm_lsw_off {pc d : Nat} {dflt : Int} {x : Int32} (hd : (pc : Int) + dflt = (d : Int)) : ∀ (ps : List (Int × Int)) (ts : List Nat), ts.map (fun q => ((q : Nat) : Int)) = ps.flatMap (fun o => [o.1, (pc : Int) + o.2]) → (pc : Int) + Op.lookupswitch.offset ps dflt x.toInt = ((mm_lsw d ts x : Nat) : Int)
  | [], ts, h => by
    have : ts = [] := by simpa using h
    subst this
    rw [Op.lookupswitch.offset_nil]
    exact hd
  | (a, o) :: r, [], h => by simp at h
  | (a, o) :: r, [t], h => by simp at h
  | (a, o) :: r, t :: u :: ts, h => by
    simp only [List.map_cons, List.flatMap_cons, List.cons_append, List.nil_append, List.cons.injEq] at h
    obtain ⟨h1, h2, h3⟩ := h
    rw [Op.lookupswitch.offset_cons]
    show _ = (((if x.toInt = (t : Int) then u else mm_lsw d ts x) : Nat) : Int)
    by_cases hq : a = x.toInt
    · rw [if_pos hq, if_pos (by rw [h1, hq]), h2]
    · rw [if_neg hq, if_neg (by rw [h1]; exact fun q => hq q.symm)]
      exact mm_lsw_off hd r ts h3
section MM
variable {p : Program} {l : Launch} {e : Env} {R : Room} {s : State} {m : MethodId} {args : Array Value} {below : List Frame} {meth : Method} {c : Code} {Q : State → Prop} {D : va_G} {A : Nat → Prop} {tS b L : Nat} {xs : Nat → Int32} {ad0 : Nat → Nat} {n0 c0 s0 nL mi : Nat}
/-- what the end of the walk must give: a value handed back, or an exception thrown -/
def mm_Fin (p : Program) (l : Launch) (e : Env) (R : Room) (s : State) (m : MethodId) (args : Array Value) (below : List Frame) (meth : Method) (c : Code) (Q : State → Prop) (D : va_G) (A : Nat → Prop) (tS b L : Nat) (xs : Nat → Int32) (ad0 : Nat → Nat) (n0 c0 s0 nL mi : Nat) (r : mm_Res) : Prop :=
  (∀ pc ls x h ty, decode (mm_b mi) pc = .ok (.ireturn, 1) → mm_rt mi = some ty → narrow ty (.int x) = .int x → r = ((0, some (.int x)), h) → mm_Go p l e R s m args below meth c Q D A tS b L xs ad0 n0 c0 s0 nL pc ls [.int x] h) ∧
  (∀ pc ls x h, decode (mm_b mi) pc = .ok (.lreturn, 1) → mm_rt mi = some .long → r = ((0, some (.long x)), h) → mm_Go p l e R s m args below meth c Q D A tS b L xs ad0 n0 c0 s0 nL pc ls [.long x] h) ∧
  (∀ pc ls x h, decode (mm_b mi) pc = .ok (.dreturn, 1) → mm_rt mi = some .double → r = ((0, some (.double x)), h) → mm_Go p l e R s m args below meth c Q D A tS b L xs ad0 n0 c0 s0 nL pc ls [.double x] h) ∧
  (∀ pc ls h, decode (mm_b mi) pc = .ok (.return_, 1) → mm_rt mi = none → r = ((0, none), h) → mm_Go p l e R s m args below meth c Q D A tS b L xs ad0 n0 c0 s0 nL pc ls [] h) ∧
  (∀ pc ls st h i E aux, decode (mm_b mi) pc = .ok (.new i, 3) → mm_okN mi pc i (1 :: E :: aux) = true → (st.map Value.category).sum ≤ 8 → r = ((E, none), mm_ex h) → mm_Go p l e R s m args below meth c Q D A tS b L xs ad0 n0 c0 s0 nL pc ls st h)
set_option maxHeartbeats 4000000 in
theorem mm_walk {N : Nat} {r : mm_Res} (C : mm_Cx p l s m args meth c mi nL) (Es : mm_ES A tS b L xs s) (hA : ∀ q, s.heap.size ≤ q → A q) (hT : mm_hl mi ≠ [] → c.exceptionTable.toList = tableOf (mm_hh mi))
    (hF : mm_fr mi ≤ R.frames) (hL9 : mm_lo mi ≤ R.locals) (hB : mm_c r.2 ≤ c0 + R.cells ∧ mm_s r.2 ≤ s0 + R.slots)
    (IHc : ∀ n, n < N → ∀ mj av h r', mm_Rn n mj 0 (mm_ent (mm_ml mj) av) [] h r' → mj < 77 → (mm_spread av).length ≤ mm_ml mj → mm_Con l D tS b L xs mj av h r')
    (Fin : mm_Fin p l e R s m args below meth c Q D A tS b L xs ad0 n0 c0 s0 nL mi r) :
    ∀ n, n ≤ N → ∀ pc ls st h, mm_Rn n mi pc ls st h r → mm_Go p l e R s m args below meth c Q D A tS b L xs ad0 n0 c0 s0 nL pc ls st h := by
  intro n
  induction n with
  | zero => intro _ pc ls st h x; exact x.elim
  | succ n ih =>
    intro hN pc ls st h x
    have x' : (match mm_code mi pc with | none => False | some e => mm_act (mm_Rn n) mi e ls st h r) := x
    split at x'
    · exact x'.elim
    · rename_i e0 he
      obtain ⟨hmi, o1, o2⟩ := mm_ok he
      have IHk := ih (by omega)
      have hseq : mm_seq (mm_Rn n) mi e0 ls st h r → mm_Go p l e R s m args below meth c Q D A tS b L xs ad0 n0 c0 s0 nL pc ls st h := by
        intro y
        unfold mm_seq at y
        split at y
        · rename_i hz
          have hle := mm_Rn_le2 _ _ _ _ _ _ _ y.2
          exact mm_sstp hz y.1 C Es hA o1 o2 hF hL9 ⟨Nat.le_trans hle.1 hB.1, Nat.le_trans hle.2.1 hB.2⟩ (IHk _ _ _ _ y.2)
        · exact y.elim
      have hcl9 : ((∃ i, e0.1 = .invokevirtual i) ∨ (∃ i, e0.1 = .invokestatic i) ∨ (∃ i, e0.1 = .invokespecial i)) → mm_cl9 (mm_Rn n) mi e0 ls st h r → mm_Go p l e R s m args below meth c Q D A tS b L xs ad0 n0 c0 s0 nL pc ls st h := by
        intro hins y
        unfold mm_cl9 at y
        split at y
        · rename_i ck mj na L9 aux haux
          split at y
          · exact hseq y
          · exact hseq y
          · exact hseq y
          · rename_i q0 q7 q8
            exact mm_scall rfl hmi he C Es hA hT o1 o2 hF hL9 hB (IHc n (by omega)) (fun pc' ls' st' h' z => IHk pc' ls' st' h' z) _ mj na L9 aux haux ⟨fun q => q0 q, fun q => q7 q, fun q => q8 q⟩ hins y
        · exact y.elim
      have C9 := C
      obtain ⟨hx, hb, hr, hml, hnl, hown, hts, hlk, hin, hst⟩ := C9
      obtain ⟨f1, f2, f3, f4, f5⟩ := Fin
      obtain ⟨ins, np, v, aux⟩ := e0
      cases ins with
      | ireturn =>
        obtain ⟨hd, rfl⟩ := mm_dec o1 rfl
        simp only [mm_act] at x'
        simp only [mm_ok2] at o2
        split at x'
        · exact f1 _ _ _ _ _ hd (of_decide_eq_true o2) rfl x'
        · refine f1 _ _ _ _ _ hd (of_decide_eq_true o2) ?_ x'.1
          rcases x'.2 with rfl | rfl <;> rfl
        · rename_i v9
          refine f1 _ _ _ _ _ hd (of_decide_eq_true o2) ?_ x'.1
          have h9 : narrow .char (.int v9) = .int (vp_nar .char v9) := rfl
          rw [h9, x'.2]
        · exact x'.elim
      | lreturn =>
        obtain ⟨hd, rfl⟩ := mm_dec o1 rfl
        simp only [mm_act] at x'
        split at x'
        · exact f2 _ _ _ _ hd (of_decide_eq_true o2) x'
        · exact x'.elim
      | dreturn =>
        obtain ⟨hd, rfl⟩ := mm_dec o1 rfl
        simp only [mm_act] at x'
        split at x'
        · exact f3 _ _ _ _ hd (of_decide_eq_true o2) x'
        · exact x'.elim
      | return_ =>
        obtain ⟨hd, rfl⟩ := mm_dec o1 rfl
        simp only [mm_act] at x'
        split at x'
        · exact f4 _ _ _ hd (of_decide_eq_true o2) x'
        · exact x'.elim
      | ifCond c9 o =>
        obtain ⟨hd, rfl⟩ := mm_dec o1 rfl
        simp only [mm_act] at x'
        simp only [mm_ok2] at o2
        split at x'
        · have ht := of_decide_eq_true o2
          intro H locs cells slots lsR ad cA tys hI
          cases c9 with
          | eq => exact lv_if_eq hx hb hd ht (fun hc => IHk _ _ _ _ (x'.1 hc) _ _ _ _ _ _ _ _ hI) (fun hc => IHk _ _ _ _ (x'.2 hc) _ _ _ _ _ _ _ _ hI)
          | ne => exact lv_if_ne hx hb hd ht (fun hc => IHk _ _ _ _ (x'.1 hc) _ _ _ _ _ _ _ _ hI) (fun hc => IHk _ _ _ _ (x'.2 (fun q => q hc)) _ _ _ _ _ _ _ _ hI)
          | lt => exact lv_if_lt hx hb hd ht (fun hc => IHk _ _ _ _ (x'.1 hc) _ _ _ _ _ _ _ _ hI) (fun hc => IHk _ _ _ _ (x'.2 hc) _ _ _ _ _ _ _ _ hI)
          | ge => exact lv_if_ge hx hb hd ht (fun hc => IHk _ _ _ _ (x'.1 hc) _ _ _ _ _ _ _ _ hI) (fun hc => IHk _ _ _ _ (x'.2 hc) _ _ _ _ _ _ _ _ hI)
          | gt => exact lv_if_gt hx hb hd ht (fun hc => IHk _ _ _ _ (x'.1 hc) _ _ _ _ _ _ _ _ hI) (fun hc => IHk _ _ _ _ (x'.2 hc) _ _ _ _ _ _ _ _ hI)
          | le => exact lv_if_le hx hb hd ht (fun hc => IHk _ _ _ _ (x'.1 hc) _ _ _ _ _ _ _ _ hI) (fun hc => IHk _ _ _ _ (x'.2 hc) _ _ _ _ _ _ _ _ hI)
        · exact x'.elim
      | if_icmp c9 o =>
        obtain ⟨hd, rfl⟩ := mm_dec o1 rfl
        simp only [mm_act] at x'
        simp only [mm_ok2] at o2
        split at x'
        · have ht := of_decide_eq_true o2
          intro H locs cells slots lsR ad cA tys hI
          cases c9 with
          | eq => exact lv_icmp_eq hx hb hd ht (fun hc => IHk _ _ _ _ (x'.1 hc) _ _ _ _ _ _ _ _ hI) (fun hc => IHk _ _ _ _ (x'.2 hc) _ _ _ _ _ _ _ _ hI)
          | ne => exact lv_icmp_ne hx hb hd ht (fun hc => IHk _ _ _ _ (x'.1 hc) _ _ _ _ _ _ _ _ hI) (fun hc => IHk _ _ _ _ (x'.2 (fun q => q hc)) _ _ _ _ _ _ _ _ hI)
          | lt => exact lv_icmp_lt hx hb hd ht (fun hc => IHk _ _ _ _ (x'.1 hc) _ _ _ _ _ _ _ _ hI) (fun hc => IHk _ _ _ _ (x'.2 hc) _ _ _ _ _ _ _ _ hI)
          | ge => exact lv_icmp_ge hx hb hd ht (fun hc => IHk _ _ _ _ (x'.1 hc) _ _ _ _ _ _ _ _ hI) (fun hc => IHk _ _ _ _ (x'.2 hc) _ _ _ _ _ _ _ _ hI)
          | gt => exact lv_icmp_gt hx hb hd ht (fun hc => IHk _ _ _ _ (x'.1 hc) _ _ _ _ _ _ _ _ hI) (fun hc => IHk _ _ _ _ (x'.2 hc) _ _ _ _ _ _ _ _ hI)
          | le => exact lv_icmp_le hx hb hd ht (fun hc => IHk _ _ _ _ (x'.1 hc) _ _ _ _ _ _ _ _ hI) (fun hc => IHk _ _ _ _ (x'.2 hc) _ _ _ _ _ _ _ _ hI)
        · exact x'.elim
      | tableswitch d9 lo9 hi9 offs =>
        have hd : decode (mm_b mi) pc = .ok (.tableswitch d9 lo9 hi9 offs, np - pc) := by
          unfold mm_ok1 at o1
          simp only [mm_isw, cond_true, Bool.and_eq_true, decide_eq_true_eq] at o1
          exact of_decide_eq_true o1.1
        simp only [mm_act] at x'
        simp only [mm_ok2] at o2
        split at x'
        · rename_i dd ts x9 q9
          simp only [Bool.and_eq_true, decide_eq_true_eq] at o2
          obtain ⟨⟨⟨h1, h2⟩, h3⟩, h4⟩ := o2
          subst h1
          intro H locs cells slots lsR ad cA tys hI
          have k9 := IHk _ _ _ _ x' _ _ _ _ _ _ _ _ hI
          unfold mm_tsw at k9
          by_cases hx0 : x9.toInt < 0
          · rw [if_pos hx0] at k9
            exact lv_tableOut hx hb hd (Or.inl hx0) h3 k9
          · rw [if_neg hx0] at k9
            by_cases hx1 : hi9 < x9.toInt
            · rw [List.getD_eq_getElem?_getD, List.getElem?_eq_none (by omega)] at k9
              exact lv_tableOut hx hb hd (Or.inr hx1) h3 k9
            · have hlt : x9.toInt.toNat < ts.length := by omega
              have hlen : offs.toList.length = ts.length := by
                have := congrArg List.length h4
                simpa using this.symm
              have hof : x9.toInt.toNat < offs.toList.length := by omega
              have hel : ((ts[x9.toInt.toNat] : Nat) : Int) = (pc : Int) + offs.toList[x9.toInt.toNat] := by
                have h9 := congrArg (fun z => z[x9.toInt.toNat]?) h4
                simp only [List.getElem?_map, List.getElem?_eq_getElem hlt, List.getElem?_eq_getElem hof, Option.map_some] at h9
                exact Option.some.inj h9
              rw [List.getD_eq_getElem?_getD, List.getElem?_eq_getElem hlt] at k9
              refine lv_tableIn hx hb hd hx0 hx1 (off := offs.toList[x9.toInt.toNat]) ?_ hel.symm k9
              rw [Int.sub_zero, ← Array.getElem?_toList, List.getElem?_eq_getElem hof]
        · exact x'.elim
      | lookupswitch d9 ps =>
        have hd : decode (mm_b mi) pc = .ok (.lookupswitch d9 ps, np - pc) := by
          unfold mm_ok1 at o1
          simp only [mm_isw, cond_true, Bool.and_eq_true, decide_eq_true_eq] at o1
          exact of_decide_eq_true o1.1
        simp only [mm_act] at x'
        simp only [mm_ok2] at o2
        split at x'
        · rename_i dd ts x9 q9
          simp only [Bool.and_eq_true, decide_eq_true_eq] at o2
          obtain ⟨⟨h1, h2⟩, h3⟩ := o2
          intro H locs cells slots lsR ad cA tys hI
          have k9 := IHk _ _ _ _ x' _ _ _ _ _ _ _ _ hI
          exact lv_lookup hx hb hd h1 rfl (mm_lsw_off h2 _ _ h3) k9
        · exact x'.elim
      | new i =>
        obtain ⟨hd, rfl⟩ := mm_dec o1 rfl
        simp only [mm_act] at x'
        split at x'
        · exact f5 _ _ _ _ _ _ _ hd o2 x'.2 x'.1
        · exact hseq x'
      | invokevirtual i => exact hcl9 (Or.inl ⟨i, rfl⟩) x'
      | invokestatic i => exact hcl9 (Or.inr (Or.inl ⟨i, rfl⟩)) x'
      | invokespecial i => exact hcl9 (Or.inr (Or.inr ⟨i, rfl⟩)) x'
      | _ => simp only [mm_act] at x'; exact hseq x'
end MM
end
section
/-! ===== every run of a method of the mini machine is its contract over the real one ===== -/
def mm_nms : List String := ["java/lang/RuntimeException", "java/lang/Exception"]
theorem mm_at1 : ∀ w ∈ (vx_atS "BulbShapes" 52 "java/lang/IndexOutOfBoundsException" mm_nms).filter goodWord, w ∈ lw_tbl := by decide +kernel
theorem mm_at2 : ∀ w ∈ (vx_atS "BulbShapes" 62 "java/lang/IllegalArgumentException" mm_nms).filter goodWord, w ∈ lw_tbl := by decide +kernel
theorem mm_at3 : ∀ w ∈ (vx_atS "BulbShapes" 70 "java/lang/IllegalStateException" mm_nms).filter goodWord, w ∈ lw_tbl := by decide +kernel
theorem mm_an1 : ∀ w ∈ (vx_atS "BulbShapes" 52 "java/lang/IndexOutOfBoundsException" mm_nms).filter (fun w => !goodWord w), w ∈ mm_NW := by decide +kernel
theorem mm_an2 : ∀ w ∈ (vx_atS "BulbShapes" 62 "java/lang/IllegalArgumentException" mm_nms).filter (fun w => !goodWord w), w ∈ mm_NW := by decide +kernel
theorem mm_an3 : ∀ w ∈ (vx_atS "BulbShapes" 70 "java/lang/IllegalStateException" mm_nms).filter (fun w => !goodWord w), w ∈ mm_NW := by decide +kernel
theorem mm_ao1 : ∀ w ∈ vx_atS "BulbShapes" 52 "java/lang/IndexOutOfBoundsException" mm_nms, vx_ot w = true := by decide +kernel
theorem mm_ao2 : ∀ w ∈ vx_atS "BulbShapes" 62 "java/lang/IllegalArgumentException" mm_nms, vx_ot w = true := by decide +kernel
theorem mm_ao3 : ∀ w ∈ vx_atS "BulbShapes" 70 "java/lang/IllegalStateException" mm_nms, vx_ot w = true := by decide +kernel
theorem mm_nwt {w : Jvm.Cond} (h : mm_nw w = true) : w.onTables = true := by cases w <;> first | rfl | cases h
theorem mm_atE {E : Nat} (hE : E = 1 ∨ E = 2 ∨ E = 3) {args : Array Value} {s : State} (hts : ∀ w ∈ mm_G, w.before args s = true) (hN : ∀ w ∈ mm_NW, va_Nw w s) :
    (∀ w ∈ vx_atS "BulbShapes" (mm_exi E) (mm_exn E) mm_nms, w.before args s = true) ∧ ∀ w ∈ vx_atS "BulbShapes" (mm_exi E) (mm_exn E) mm_nms, vx_ot w = true := by
  have hB : ∀ w ∈ mm_NW, w.before args s = true := fun w hw => va_Nw.use (mm_nwt (List.mem_filter.mp hw).2) (hN w hw)
  rcases hE with rfl | rfl | rfl
  · exact ⟨vx_hat (fun w hw => hts w (List.mem_filter.mpr ⟨mm_at1 w hw, (List.mem_filter.mp hw).2⟩)) mm_an1 hB, mm_ao1⟩
  · exact ⟨vx_hat (fun w hw => hts w (List.mem_filter.mpr ⟨mm_at2 w hw, (List.mem_filter.mp hw).2⟩)) mm_an2 hB, mm_ao2⟩
  · exact ⟨vx_hat (fun w hw => hts w (List.mem_filter.mpr ⟨mm_at3 w hw, (List.mem_filter.mp hw).2⟩)) mm_an3 hB, mm_ao3⟩
theorem mm_fitE {E : Nat} (hE : E = 1 ∨ E = 2 ∨ E = 3) : Bundle.fit (mm_exn E) = true := by
  rcases hE with rfl | rfl | rfl <;> decide +kernel
theorem mm_fitN : ∀ n ∈ mm_nms, Bundle.fit n = true := by decide +kernel
theorem mm_plain : (List.range 78).all (fun mj => plainName (mm_y mj).cls) = true := by decide +kernel
theorem mm_asc_ent {ad : Nat → Nat} (k : Nat) : ∀ (av : List Value) (i : Nat) (q : Nat × Value), q ∈ mm_asc ad i (mm_spread av ++ List.replicate k .null) → q ∈ lv_args i (av.map (mm_tr ad))
  | [], i, q, h => by
    exfalso
    simp only [mm_spread, List.nil_append] at h
    obtain ⟨j, -, h2, -⟩ := (mm_asc_mem _ _ _).mp h
    rcases mm_lget_mem (List.replicate k Value.null) j with h3 | h3
    · exact h2 h3
    · exact h2 (List.eq_of_mem_replicate h3)
  | v :: t, i, q, h => by
    have key : ∀ i', q ∈ mm_asc ad i' (mm_spread t ++ List.replicate k .null) → i' = (if (mm_tr ad v).category = 2 then i + 2 else i + 1) → q ∈ lv_args i ((v :: t).map (mm_tr ad)) := by
      intro i' h' hi'
      subst hi'
      exact List.mem_cons_of_mem _ (mm_asc_ent k t _ q h')
    have hd : ∀ q, q ∈ (bif decide (v = .null) then [] else [(i, mm_tr ad v)] : List (Nat × Value)) → q ∈ lv_args i ((v :: t).map (mm_tr ad)) := by
      intro q hq
      by_cases hv : v = .null
      · simp [hv] at hq
      · simp [hv] at hq
        rw [hq]
        exact List.mem_cons_self
    cases h2 : mm_two v with
    | true =>
      have hc : (mm_tr ad v).category = 2 := (mm_tr_two ad v).mpr h2
      simp only [mm_spread, h2, cond_true, List.cons_append, List.nil_append, mm_asc] at h
      rcases List.mem_append.mp h with h | h
      · exact hd q h
      · rcases List.mem_append.mp h with h | h
        · simp at h
        · exact key _ h (by rw [if_pos hc])
    | false =>
      have hc : ¬ (mm_tr ad v).category = 2 := fun q => by rw [(mm_tr_two ad v).mp q] at h2; cases h2
      simp only [mm_spread, h2, cond_false, List.cons_append, List.nil_append, mm_asc] at h
      rcases List.mem_append.mp h with h | h
      · exact hd q h
      · exact key _ h (by rw [if_neg hc])
theorem mm_spread_len (ad : Nat → Nat) : ∀ av : List Value, (lg_sl (av.map (mm_tr ad))).length = (mm_spread av).length
  | [] => rfl
  | v :: t => by
    have ih := mm_spread_len ad t
    unfold lg_sl at ih ⊢
    rw [List.map_cons, List.flatMap_cons, List.length_append, ih]
    cases h2 : mm_two v with
    | true =>
      rw [if_pos ((mm_tr_two ad v).mpr h2)]
      simp [mm_spread, h2]
      omega
    | false =>
      rw [if_neg (fun q => by rw [(mm_tr_two ad v).mp q] at h2; cases h2)]
      simp [mm_spread, h2]
      omega
theorem mm_Wd_ex {D : va_G} {A : Nat → Prop} {tS b L : Nat} {xs : Nat → Int32} {s : State} {ad cA : Nat → Nat} {tys : List (ClassId × FieldType)} {h : mm_Hp} {H : Heap} (hW : mm_Wd D A tS b L xs s ad cA tys h H) : mm_Wd D A tS b L xs s ad cA tys (mm_ex h) H := hW
set_option maxHeartbeats 4000000 in
theorem mm_body {n : Nat} {mj : Nat} {av : List Value} {h : mm_Hp} {r : mm_Res} {l : Launch} {D : va_G} {tS b L : Nat} {xs : Nat → Int32} (hl : l.stackTraces = false) (hmj : mj < 77) (hsp : (mm_spread av).length ≤ mm_ml mj) (hRn : mm_Rn n mj 0 (mm_ent (mm_ml mj) av) [] h r)
    (IHc : ∀ n', n' < n → ∀ mj av h r', mm_Rn n' mj 0 (mm_ent (mm_ml mj) av) [] h r' → mj < 77 → (mm_spread av).length ≤ mm_ml mj → mm_Con l D tS b L xs mj av h r')
    {ad cA : Nat → Nat} {tys : List (ClassId × FieldType)} {sz : Nat} {p : Program} {e : Env} {s : State} {m : MethodId} {args : Array Value} {below : List Frame} {meth : Method} {c : Code} {s₁ : State}
    (B : BodyLoose p l (mm_y mj) (headSpec (mm_wd mj) (mm_Rm mj h r)) (mm_b mj) (mm_ml mj) (mm_rt mj) e s m args below meth c s₁) (hml : c.maxLocals = mm_ml mj) (hT : c.exceptionTable.toList = tableOf (mm_hh mj)) (hv : mm_Pr D tS b L xs av ad cA tys sz h args s) :
    W p l e (headSpec (mm_wd mj) (mm_Rm mj h r)).room s m args below meth c s.heap [] 0 0 (vx_MQ below (mm_Qr D (va_A (mm_ws ad cA h) sz) tS b L xs ad (mm_n h) r) (mm_Xr D (va_A (mm_ws ad cA h) sz) tS b L xs ad (mm_n h) r) args s (mm_c r.2 - mm_c h) (mm_s r.2 - mm_s h) (va_A (mm_ws ad cA h) sz)) (entryFrame m args (mm_ml mj)) := by
  obtain ⟨rfl, hsz, hWd, hES⟩ := hv
  subst hsz
  have hts0 := atoms_spec (ws := mm_wd mj) B.pre
  have hts : ∀ w ∈ mm_G, w.before (av.map (mm_tr ad)).toArray s = true := fun w hw => hts0 w (List.mem_cons_of_mem _ hw)
  have hown : s.vm.findClass (mm_y mj).cls = some m.cls := findClass_of_methodNamed B.named
  have hnm : meth.name = (mm_y mj).name := (name_of_methodNamed B.named B.method).1
  have C : mm_Cx p l s m (av.map (mm_tr ad)).toArray meth c mj (mm_ml mj) := ⟨B.exec, B.bytes, B.returns, hml, rfl, hown, hts, B.notSynchronized, fun q => hnm.trans q, hl⟩
  have hle := mm_Rn_le2 _ _ _ _ _ _ _ hRn
  have hA : ∀ q : Nat, s.heap.size ≤ q → va_A (mm_ws ad cA h) s.heap.size q := fun q hq => Or.inr hq
  have hl9 := lv_entry (av.map (mm_tr ad)) (n := mm_ml mj) (by rw [mm_spread_len]; exact hsp)
  rw [lg_entry_eq]
  generalize (lg_sl (av.map (mm_tr ad)) ++ List.replicate (mm_ml mj - (lg_sl (av.map (mm_tr ad))).length) Slot.unset).toArray = lsR at hl9 ⊢
  have hLR : mm_LR ad lsR (mm_ml mj) (mm_ent (mm_ml mj) av) := by
    refine ⟨⟨hl9.1, hl9.2.1, fun q hq => hl9.2.2 q (mm_asc_ent _ _ _ _ hq)⟩, ?_⟩
    unfold mm_ent
    rw [List.length_append, List.length_replicate]
    omega
  have hWd2 : mm_Wd D (va_A (mm_ws ad cA h) s.heap.size) tS b L xs s ad cA tys h s.heap := by
    obtain ⟨w1, w2, w3, w4⟩ := hWd
    exact ⟨w1, w2, w3.self, w4⟩
  have hI : mm_Iv D (va_A (mm_ws ad cA h) s.heap.size) tS b L xs s ad (mm_n h) (mm_c h) (mm_s h) (mm_ml mj) ad cA tys lsR (mm_ent (mm_ml mj) av) h s.heap [] 0 0 :=
    ⟨hWd2, va_S.rf, hLR, by omega, by omega, Nat.le_refl _, fun _ _ => rfl⟩
  have post : ∀ {h' : mm_Hp} {H : Heap} {locs : List Loc} {cells slots : Nat} {lsR' : Array Slot} {ls' : List Value} {ad' cA' : Nat → Nat} {tys' : List (ClassId × FieldType)} {v : Option Value}, r = ((0, v), h') → mm_Iv D (va_A (mm_ws ad cA h) s.heap.size) tS b L xs s ad (mm_n h) (mm_c h) (mm_s h) (mm_ml mj) ad' cA' tys' lsR' ls' h' H locs cells slots →
      (∀ t : State, t.heap = H → s.WarmedH t.vm → mm_Qr D (va_A (mm_ws ad cA h) s.heap.size) tS b L xs ad (mm_n h) r (av.map (mm_tr ad)).toArray s (.returned v) t) ∧ (∀ q ∈ locs, va_A (mm_ws ad cA h) s.heap.size q.base) ∧ cells ≤ mm_c r.2 - mm_c h ∧ slots ≤ mm_s r.2 - mm_s h := by
    intro h' H locs cells slots lsR' ls' ad' cA' tys' v hr hI'
    obtain ⟨i1, i2, i3, i4, i5, i6, i7⟩ := hI'
    have e1 : r.2 = h' := by rw [hr]
    refine ⟨fun t ht hW => ⟨by rw [hr], by rw [hr], ⟨ad', cA', tys', ?_, ?_⟩, i2.F ht⟩, i2.2.2, by rw [e1]; omega, by rw [e1]; omega⟩
    · rw [e1, ht]; exact i1.moved hW.alike
    · rw [e1]; exact i7
  refine mm_walk (N := n) (r := r) C hES hA (fun _ => hT) (Nat.le_refl _) (Nat.le_refl _) ⟨?_, ?_⟩ IHc ⟨?_, ?_, ?_, ?_, ?_⟩ n (Nat.le_refl _) 0 _ _ _ hRn _ _ _ _ _ _ _ _ hI
  · show mm_c r.2 ≤ mm_c h + (mm_c r.2 - mm_c h)
    omega
  · show mm_s r.2 ≤ mm_s h + (mm_s r.2 - mm_s h)
    omega
  · intro pc ls x h' ty hd hrt hn hr H locs cells slots lsR' ad' cA' tys' hI'
    obtain ⟨p1, p2, p3, p4⟩ := post hr hI'
    refine vx_ret (W.widen p3 p4 ?_)
    exact W.zret B.exec B.bytes (B.returns.trans hrt) hn p1 p2 hd B.notSynchronized
  · intro pc ls x h' hd hrt hr H locs cells slots lsR' ad' cA' tys' hI'
    obtain ⟨p1, p2, p3, p4⟩ := post hr hI'
    refine vx_ret (W.widen p3 p4 ?_)
    exact W.lret B.exec B.bytes (B.returns.trans hrt) p1 p2 hd B.notSynchronized
  · intro pc ls x h' hd hrt hr H locs cells slots lsR' ad' cA' tys' hI'
    obtain ⟨p1, p2, p3, p4⟩ := post hr hI'
    refine vx_ret (W.widen p3 p4 ?_)
    exact W.dret B.exec B.bytes (B.returns.trans hrt) p1 p2 hd B.notSynchronized
  · intro pc ls h' hd hrt hr H locs cells slots lsR' ad' cA' tys' hI'
    obtain ⟨p1, p2, p3, p4⟩ := post hr hI'
    refine vx_ret (W.widen p3 p4 ?_)
    exact W.vret B.exec B.bytes (B.returns.trans hrt) p1 p2 hd B.notSynchronized
  · intro pc ls st h' i E aux hd hok hst hr H locs cells slots lsR' ad' cA' tys' hI'
    unfold mm_okN at hok
    split at hok
    case h_1 heq => cases heq
    case h_3 => cases hok
    case h_2 E9 wi is ic wt ws heq =>
      cases heq
      simp only [Bool.and_eq_true, decide_eq_true_eq] at hok
      obtain ⟨⟨⟨⟨⟨⟨⟨⟨⟨⟨⟨⟨q1, q2⟩, q3⟩, q4⟩, q5⟩, q6⟩, q7⟩, q8⟩, q9⟩, q10⟩, q11⟩, q12⟩, q13⟩ := hok
      split at q10
      case h_2 => cases q10
      case h_1 o k tx hws =>
        simp only [Bool.and_eq_true, decide_eq_true_eq] at q10
        obtain ⟨rfl, rfl⟩ := q10
        obtain ⟨sa, hstr⟩ := hES.2.2.2.2.2.2.1 _ _ _ _ hws
        obtain ⟨i1, i2, i3, i4, i5, i6, i7⟩ := hI'
        have e1 : r.2 = mm_ex h' := by rw [hr]
        have e2 : mm_c r.2 = mm_c h' + 1 := by rw [e1]; rfl
        have e3 : mm_s r.2 = mm_s h' + 6 := by rw [e1]; rfl
        have hat := mm_atE (args := (av.map (mm_tr ad)).toArray) q1 hts hES.2.2.2.2.2.1
        rw [← q5, ← q2] at hat
        have hsum := mm_sumcat (ad := ad') hst
        have hsz9 : lsR'.size = c.maxLocals := by rw [hml]; exact i3.1.1
        refine vx_throwS (names := mm_nms) B.exec B.bytes hl hown (mm_fitE q1) mm_fitN (hts _ (mm_inG q3 rfl)) (hts _ (mm_inG q4 rfl)) hstr hat.1 (fun w hw => ?_) hES.2.2.2.1 hES.2.2.2.2.1 i2 hsz9 hd q6 q7 q8 q9 (fun x hx => ?_) ?_ ?_ ?_ ?_ B.notSynchronized (fun t hv hz hk => ?_) i2.2.2 ?_ ?_
        · rcases List.mem_cons.mp hw with rfl | hw
          · rfl
          · rcases List.mem_cons.mp hw with rfl | hw
            · rfl
            · exact hat.2 w hw
        · rw [hT, q13] at hx
          cases hx
        · show 2 + 3 < mm_fr mj
          omega
        · show _ + (13 * (2 + 1) + 43) ≤ mm_lo mj
          omega
        · show cells + 1 ≤ mm_c r.2 - mm_c h
          omega
        · show slots + 6 ≤ mm_s r.2 - mm_s h
          omega
        · have hE : r.1.1 = E := by rw [hr]
          refine ⟨by rw [hE]; exact q1, by rw [hE], ⟨ad', cA', tys', ?_, ?_⟩, Nat.le_trans i2.1 hz, fun q h1 h2 => ?_⟩
          · rw [e1]
            obtain ⟨w1, w2, w3, w4⟩ := i1
            exact mm_Wd_ex ⟨va_K.moved hv w1, w2.kept (fun k' q' hk' => hk _ (w2 k' q' hk').lt), w3, w4⟩
          · rw [e1]; exact i7
          · rw [hk q (Nat.lt_of_lt_of_le h1 i2.1)]
            exact i2.2.1 q h1 h2
        · omega
        · omega
theorem mm_con {l : Launch} {D : va_G} {tS b L : Nat} {xs : Nat → Int32} (hl : l.stackTraces = false) : ∀ (n : Nat) (mj : Nat) (av : List Value) (h : mm_Hp) (r : mm_Res), mm_Rn n mj 0 (mm_ent (mm_ml mj) av) [] h r → mj < 77 → (mm_spread av).length ≤ mm_ml mj → mm_Con l D tS b L xs mj av h r := by
  intro n
  induction n using Nat.strongRecOn with
  | ind n ih =>
    intro mj av h r hRn hmj hsp ad cA tys sz
    have hpl : plainName (mm_y mj).cls = true := List.all_eq_true.mp mm_plain mj (List.mem_range.mpr (by omega))
    by_cases hh : mm_hh mj = []
    · have hw : mm_wd mj = Cond.code (mm_y mj) (mm_b mj) (mm_ml mj) (mm_rt mj) :: mm_G := by unfold mm_wd mm_cw; rw [if_pos hh]
      refine vx_ofW hpl hw ?_
      intro p e s m args below meth c s₁ B hml hout hv
      have hT : c.exceptionTable.toList = tableOf (mm_hh mj) := by
        rw [hh]
        cases hc : c.exceptionTable.toList with
        | nil => rfl
        | cons x t => exact (hout x (by rw [hc]; exact List.mem_cons_self)).elim
      exact mm_body hl hmj hsp hRn (fun n' hn' => ih n' hn') B hml hT hv
    · have hw : mm_wd mj = Cond.codeWith (mm_y mj) (mm_b mj) (mm_ml mj) (mm_rt mj) (mm_hh mj) :: mm_G := by unfold mm_wd mm_cw; rw [if_neg hh]
      refine vx_ofWH hpl hw ?_
      intro p e s m args below meth c s₁ B hml hv
      have hT : c.exceptionTable.toList = tableOf (mm_hh mj) := vx_table (x := mm_y mj) B (atoms_spec (ws := mm_wd mj) B.pre _ (by rw [hw]; exact List.mem_cons_self))
      exact mm_body hl hmj hsp hRn (fun n' hn' => ih n' hn') B hml hT hv
end
section
/-! the shape of the heap once the two objects are made -/
def mm_K0 : Nat → Nat × Nat := fun i => (bif Nat.ble i 29 then (bif Nat.ble i 14 then (bif Nat.ble i 6 then (bif Nat.ble i 2 then (bif Nat.ble i 0 then (bif Nat.beq i 0 then (4, 5) else (0, 0)) else (bif Nat.ble i 1 then (bif Nat.beq i 1 then (0, 6) else (0, 0)) else (bif Nat.beq i 2 then (10, 4) else (0, 0)))) else (bif Nat.ble i 4 then (bif Nat.ble i 3 then (bif Nat.beq i 3 then (10, 4) else (0, 0)) else (bif Nat.beq i 4 then (10, 60) else (0, 0))) else (bif Nat.ble i 5 then (bif Nat.beq i 5 then (10, 2) else (0, 0)) else (bif Nat.beq i 6 then (13, 4) else (0, 0))))) else (bif Nat.ble i 10 then (bif Nat.ble i 8 then (bif Nat.ble i 7 then (bif Nat.beq i 7 then (2, 3) else (0, 0)) else (bif Nat.beq i 8 then (10, 10) else (0, 0))) else (bif Nat.ble i 9 then (bif Nat.beq i 9 then (10, 10) else (0, 0)) else (bif Nat.beq i 10 then (10, 10) else (0, 0)))) else (bif Nat.ble i 12 then (bif Nat.ble i 11 then (bif Nat.beq i 11 then (3, 2) else (0, 0)) else (bif Nat.beq i 12 then (11, 60) else (0, 0))) else (bif Nat.ble i 13 then (bif Nat.beq i 13 then (1, 3) else (0, 0)) else (bif Nat.beq i 14 then (14, 6) else (0, 0)))))) else (bif Nat.ble i 21 then (bif Nat.ble i 17 then (bif Nat.ble i 15 then (bif Nat.beq i 15 then (0, 6) else (0, 0)) else (bif Nat.ble i 16 then (bif Nat.beq i 16 then (10, 4) else (0, 0)) else (bif Nat.beq i 17 then (10, 4) else (0, 0)))) else (bif Nat.ble i 19 then (bif Nat.ble i 18 then (bif Nat.beq i 18 then (10, 60) else (0, 0)) else (bif Nat.beq i 19 then (10, 2) else (0, 0))) else (bif Nat.ble i 20 then (bif Nat.beq i 20 then (0, 6) else (0, 0)) else (bif Nat.beq i 21 then (10, 4) else (0, 0))))) else (bif Nat.ble i 25 then (bif Nat.ble i 23 then (bif Nat.ble i 22 then (bif Nat.beq i 22 then (10, 4) else (0, 0)) else (bif Nat.beq i 23 then (10, 60) else (0, 0))) else (bif Nat.ble i 24 then (bif Nat.beq i 24 then (10, 2) else (0, 0)) else (bif Nat.beq i 25 then (0, 6) else (0, 0)))) else (bif Nat.ble i 27 then (bif Nat.ble i 26 then (bif Nat.beq i 26 then (10, 4) else (0, 0)) else (bif Nat.beq i 27 then (10, 4) else (0, 0))) else (bif Nat.ble i 28 then (bif Nat.beq i 28 then (10, 60) else (0, 0)) else (bif Nat.beq i 29 then (10, 2) else (0, 0))))))) else (bif Nat.ble i 44 then (bif Nat.ble i 36 then (bif Nat.ble i 32 then (bif Nat.ble i 30 then (bif Nat.beq i 30 then (0, 6) else (0, 0)) else (bif Nat.ble i 31 then (bif Nat.beq i 31 then (10, 4) else (0, 0)) else (bif Nat.beq i 32 then (10, 4) else (0, 0)))) else (bif Nat.ble i 34 then (bif Nat.ble i 33 then (bif Nat.beq i 33 then (10, 60) else (0, 0)) else (bif Nat.beq i 34 then (10, 2) else (0, 0))) else (bif Nat.ble i 35 then (bif Nat.beq i 35 then (0, 6) else (0, 0)) else (bif Nat.beq i 36 then (10, 4) else (0, 0))))) else (bif Nat.ble i 40 then (bif Nat.ble i 38 then (bif Nat.ble i 37 then (bif Nat.beq i 37 then (10, 4) else (0, 0)) else (bif Nat.beq i 38 then (10, 60) else (0, 0))) else (bif Nat.ble i 39 then (bif Nat.beq i 39 then (10, 2) else (0, 0)) else (bif Nat.beq i 40 then (0, 6) else (0, 0)))) else (bif Nat.ble i 42 then (bif Nat.ble i 41 then (bif Nat.beq i 41 then (10, 4) else (0, 0)) else (bif Nat.beq i 42 then (10, 4) else (0, 0))) else (bif Nat.ble i 43 then (bif Nat.beq i 43 then (10, 60) else (0, 0)) else (bif Nat.beq i 44 then (10, 2) else (0, 0)))))) else (bif Nat.ble i 52 then (bif Nat.ble i 48 then (bif Nat.ble i 46 then (bif Nat.ble i 45 then (bif Nat.beq i 45 then (2, 3) else (0, 0)) else (bif Nat.beq i 46 then (10, 10) else (0, 0))) else (bif Nat.ble i 47 then (bif Nat.beq i 47 then (10, 10) else (0, 0)) else (bif Nat.beq i 48 then (10, 10) else (0, 0)))) else (bif Nat.ble i 50 then (bif Nat.ble i 49 then (bif Nat.beq i 49 then (2, 3) else (0, 0)) else (bif Nat.beq i 50 then (10, 10) else (0, 0))) else (bif Nat.ble i 51 then (bif Nat.beq i 51 then (10, 10) else (0, 0)) else (bif Nat.beq i 52 then (10, 10) else (0, 0))))) else (bif Nat.ble i 56 then (bif Nat.ble i 54 then (bif Nat.ble i 53 then (bif Nat.beq i 53 then (2, 3) else (0, 0)) else (bif Nat.beq i 54 then (10, 10) else (0, 0))) else (bif Nat.ble i 55 then (bif Nat.beq i 55 then (10, 10) else (0, 0)) else (bif Nat.beq i 56 then (10, 10) else (0, 0)))) else (bif Nat.ble i 58 then (bif Nat.ble i 57 then (bif Nat.beq i 57 then (2, 3) else (0, 0)) else (bif Nat.beq i 58 then (10, 10) else (0, 0))) else (bif Nat.ble i 59 then (bif Nat.beq i 59 then (10, 10) else (0, 0)) else (bif Nat.beq i 60 then (10, 10) else (0, 0))))))))
def mm_R0 : Nat → Nat → Nat := fun i k => (bif Nat.ble i 15 then (bif Nat.ble i 7 then (bif Nat.ble i 1 then (bif Nat.ble i 0 then (bif Nat.beq i 0 then ([1, 6, 7, 11, 13] : List Nat).getD k 0 else 0) else (bif Nat.beq i 1 then ([2, 3, 4, 5] : List Nat).getD k 0 else 0)) else (bif Nat.ble i 6 then (bif Nat.beq i 6 then ([45, 49, 53, 57] : List Nat).getD k 0 else 0) else (bif Nat.beq i 7 then ([8, 9, 10] : List Nat).getD k 0 else 0))) else (bif Nat.ble i 13 then (bif Nat.ble i 11 then (bif Nat.beq i 11 then ([12] : List Nat).getD k 0 else 0) else (bif Nat.beq i 13 then ([14] : List Nat).getD k 0 else 0)) else (bif Nat.ble i 14 then (bif Nat.beq i 14 then ([15, 20, 25, 30, 35, 40] : List Nat).getD k 0 else 0) else (bif Nat.beq i 15 then ([16, 17, 18, 19] : List Nat).getD k 0 else 0)))) else (bif Nat.ble i 35 then (bif Nat.ble i 25 then (bif Nat.ble i 20 then (bif Nat.beq i 20 then ([21, 22, 23, 24] : List Nat).getD k 0 else 0) else (bif Nat.beq i 25 then ([26, 27, 28, 29] : List Nat).getD k 0 else 0)) else (bif Nat.ble i 30 then (bif Nat.beq i 30 then ([31, 32, 33, 34] : List Nat).getD k 0 else 0) else (bif Nat.beq i 35 then ([36, 37, 38, 39] : List Nat).getD k 0 else 0))) else (bif Nat.ble i 45 then (bif Nat.ble i 40 then (bif Nat.beq i 40 then ([41, 42, 43, 44] : List Nat).getD k 0 else 0) else (bif Nat.beq i 45 then ([46, 47, 48] : List Nat).getD k 0 else 0)) else (bif Nat.ble i 49 then (bif Nat.beq i 49 then ([50, 51, 52] : List Nat).getD k 0 else 0) else (bif Nat.ble i 53 then (bif Nat.beq i 53 then ([54, 55, 56] : List Nat).getD k 0 else 0) else (bif Nat.beq i 57 then ([58, 59, 60] : List Nat).getD k 0 else 0))))))
abbrev mm_Gg : Type := Nat × Nat × (Nat → Nat → Int64) × Nat × (Nat → Int32)
abbrev mm_Is : Type := Nat → Nat → Int32
/-- the heap: counters, longs and script g, ints I -/
def mm_hp (g : mm_Gg) (I : mm_Is) : mm_Hp := ((61, g.1, g.2.1), mm_K0, mm_R0, I, g.2.2.1, g.2.2.2)
abbrev mm_Ph : Type := Nat × Option Value → mm_Gg → mm_Is → Prop
/-- from there the machine comes to an answer and a heap of which F holds -/
def mm_W (mi pc : Nat) (ls st : List Value) (g : mm_Gg) (I : mm_Is) (F : mm_Ph) : Prop := ∃ q g' I', mm_Ru mi pc ls st (mm_hp g I) (q, mm_hp g' I') ∧ F q g' I'
/-- i is an object of class ci / an array of kind k, n long -/
def mm_fo (i ci : Nat) : Prop := i < 61 ∧ (mm_K0 i).1 = ci
def mm_fa (i k n : Nat) : Prop := i < 61 ∧ mm_K0 i = (k, n) ∧ n < 1000
/-- a method, said over this heap: answer v, ints I' -/
def mm_M (mj L : Nat) (av : List Value) (g : mm_Gg) (I : mm_Is) (v : Option Value) (I' : mm_Is) : Prop := mm_Me mj L av (mm_hp g I) ((0, v), mm_hp g I')
def mm_EX (v : Option Value) (g : mm_Gg) (I : mm_Is) : mm_Ph := fun q g' I' => q = (0, v) ∧ g' = g ∧ I' = I
theorem mm_EX_i {x y : Int32} {g : mm_Gg} {I : mm_Is} (h : x = y) : mm_EX (some (.int y)) g I (0, some (.int x)) g I := by subst h; exact ⟨rfl, rfl, rfl⟩
def mm_EQ (v : Option Value) (g : mm_Gg) (Q : mm_Is → Prop) : mm_Ph := fun q g' I' => q = (0, v) ∧ g' = g ∧ Q I'
theorem w_MX {mj L : Nat} {av : List Value} {g : mm_Gg} {I : mm_Is} {v : Option Value} {Q : mm_Is → Prop} (h : mm_W mj 0 (mm_ent L av) [] g I (mm_EQ v g Q)) : ∃ I', mm_M mj L av g I v I' ∧ Q I' := by
  obtain ⟨q, g', J, h1, h2, h3, h4⟩ := h
  subst h2 h3
  exact ⟨J, h1, h4⟩
theorem w_M {mj L : Nat} {av : List Value} {g : mm_Gg} {I I' : mm_Is} {v : Option Value} (h : mm_W mj 0 (mm_ent L av) [] g I (mm_EX v g I')) : mm_M mj L av g I v I' := by
  obtain ⟨q, g', J, h1, h2, h3, h4⟩ := h
  subst h2 h3 h4
  exact h1
noncomputable def mm_bi (p : Prop) : Int32 := @ite _ p (Classical.propDecidable p) 1 0
theorem mm_bi_t {p : Prop} (h : p) : mm_bi p = 1 := by unfold mm_bi; exact @if_pos _ (Classical.propDecidable p) h _ _ _
theorem mm_bi_f {p : Prop} (h : ¬ p) : mm_bi p = 0 := by unfold mm_bi; exact @if_neg _ (Classical.propDecidable p) h _ _ _
theorem mm_bi_01 (p : Prop) : mm_bi p = 0 ∨ mm_bi p = 1 := by
  by_cases h : p
  · exact Or.inr (mm_bi_t h)
  · exact Or.inl (mm_bi_f h)
theorem mm_dn {P : Nat → Prop} (n : Nat) (h0 : P n) (hs : ∀ j, j < n → P (j + 1) → P j) : ∀ j, j ≤ n → P j := by
  intro j hj
  obtain ⟨d, rfl⟩ : ∃ d, n = j + d := ⟨n - j, by omega⟩
  clear hj
  induction d generalizing j with
  | zero => exact h0
  | succ d ih => exact hs j (by omega) (ih (j + 1) (by rw [Nat.add_right_comm]; exact h0) (fun k hk x => hs k (by omega) x))
section SX
variable {mi pc np : Nat} {ls st : List Value} {g : mm_Gg} {I : mm_Is} {F : mm_Ph}
theorem w_of {mi pc mi' pc' : Nat} {ls ls' st st' : List Value} {g g' : mm_Gg} {I I' : mm_Is} (h : ∀ r, mm_Ru mi' pc' ls' st' (mm_hp g' I') r → mm_Ru mi pc ls st (mm_hp g I) r) (k : mm_W mi' pc' ls' st' g' I' F) : mm_W mi pc ls st g I F := by
  obtain ⟨q, g', I', k, x⟩ := k
  exact ⟨q, g', I', h _ k, x⟩
theorem w_st {pc' : Nat} {ls' st' : List Value} {P : Prop} {e : mm_En} (he : mm_code mi pc = some e) (hp : mm_pl e = true) (hs : mm_stp e ls st (mm_hp g I) = some (pc', ls', st', mm_hp g I, P)) (hP : P) (k : mm_W mi pc' ls' st' g I F) : mm_W mi pc ls st g I F :=
  w_of (fun _ k => mm_step he hp hs hP k) k
/-- the stack's head said anew -/
theorem w_hd {x y : Int32} (h : x = y) (k : mm_W mi pc ls (.int y :: st) g I F) : mm_W mi pc ls (.int x :: st) g I F := by subst h; exact k
theorem w_imp {G : mm_Ph} (h : mm_W mi pc ls st g I G) (k : ∀ q g' I', G q g' I' → F q g' I') : mm_W mi pc ls st g I F := by
  obtain ⟨q, g', I', h1, h2⟩ := h
  exact ⟨q, g', I', h1, k _ _ _ h2⟩
-- branches
theorem w_if {t : Nat} {q : List Value} {c : Jvm.ClassFile.Cond} {o : Int} {v : Value} {x : Int32} {A B : Prop} (he : mm_code mi pc = some (.ifCond c o, np, v, [t])) (hA : mm_cz c x → A) (hB : ¬ mm_cz c x → B) (k1 : A → mm_W mi t ls q g I F) (k2 : B → mm_W mi np ls q g I F) : mm_W mi pc ls (.int x :: q) g I F := by
  by_cases hc : mm_cz c x
  · exact w_of (fun _ k => mm_ifz he (fun _ => k) (fun z => absurd hc z)) (k1 (hA hc))
  · exact w_of (fun _ k => mm_ifz he (fun z => absurd z hc) (fun _ => k)) (k2 (hB hc))
theorem w_ic {t : Nat} {q : List Value} {c : Jvm.ClassFile.Cond} {o : Int} {v : Value} {x y : Int32} {A B : Prop} (he : mm_code mi pc = some (.if_icmp c o, np, v, [t])) (hA : mm_c2 c x y → A) (hB : ¬ mm_c2 c x y → B) (k1 : A → mm_W mi t ls q g I F) (k2 : B → mm_W mi np ls q g I F) : mm_W mi pc ls (.int y :: .int x :: q) g I F := by
  by_cases hc : mm_c2 c x y
  · exact w_of (fun _ k => mm_if2 he (fun _ => k) (fun z => absurd hc z)) (k1 (hA hc))
  · exact w_of (fun _ k => mm_if2 he (fun z => absurd z hc) (fun _ => k)) (k2 (hB hc))
end SX
theorem mm_c2n {a b : Nat} (ha : a < 2 ^ 31) (hb : b < 2 ^ 31) : (mm_c2 .eq (nI a) (nI b) ↔ a = b) ∧ (mm_c2 .ne (nI a) (nI b) ↔ ¬ a = b) ∧ (mm_c2 .lt (nI a) (nI b) ↔ a < b) ∧ (mm_c2 .ge (nI a) (nI b) ↔ b ≤ a) ∧ (mm_c2 .gt (nI a) (nI b) ↔ b < a) ∧ (mm_c2 .le (nI a) (nI b) ↔ a ≤ b) :=
  ⟨nI_eq ha hb, not_congr (nI_eq ha hb), nI_ltI ha hb, nI_leI hb ha, nI_ltI hb ha, nI_leI ha hb⟩
theorem mm_czn {a : Nat} (ha : a < 2 ^ 31) : (mm_cz .eq (nI a) ↔ a = 0) ∧ (mm_cz .ne (nI a) ↔ ¬ a = 0) ∧ (mm_cz .lt (nI a) ↔ a < 0) ∧ (mm_cz .ge (nI a) ↔ 0 ≤ a) ∧ (mm_cz .gt (nI a) ↔ 0 < a) ∧ (mm_cz .le (nI a) ↔ a ≤ 0) :=
  mm_c2n ha (b := 0) (by decide)
section SX2
variable {mi pc np t : Nat} {ls q : List Value} {g : mm_Gg} {I : mm_Is} {F : mm_Ph} {o : Int} {v : Value} {x y : Int32} {a b : Nat} {p : Prop}
-- of ints
theorem w_v_eq (he : mm_code mi pc = some (.if_icmp .eq o, np, v, [t])) (k1 : x = y → mm_W mi t ls q g I F) (k2 : ¬ x = y → mm_W mi np ls q g I F) : mm_W mi pc ls (.int y :: .int x :: q) g I F := w_ic he id id k1 k2
theorem w_v_ne (he : mm_code mi pc = some (.if_icmp .ne o, np, v, [t])) (k1 : ¬ x = y → mm_W mi t ls q g I F) (k2 : x = y → mm_W mi np ls q g I F) : mm_W mi pc ls (.int y :: .int x :: q) g I F := w_ic he id (fun z => Classical.not_not.1 z) k1 k2
theorem w_v_lt (he : mm_code mi pc = some (.if_icmp .lt o, np, v, [t])) (k1 : x < y → mm_W mi t ls q g I F) (k2 : ¬ x < y → mm_W mi np ls q g I F) : mm_W mi pc ls (.int y :: .int x :: q) g I F := w_ic he id id k1 k2
theorem w_v_ge (he : mm_code mi pc = some (.if_icmp .ge o, np, v, [t])) (k1 : y ≤ x → mm_W mi t ls q g I F) (k2 : ¬ y ≤ x → mm_W mi np ls q g I F) : mm_W mi pc ls (.int y :: .int x :: q) g I F := w_ic he id id k1 k2
theorem w_v_gt (he : mm_code mi pc = some (.if_icmp .gt o, np, v, [t])) (k1 : y < x → mm_W mi t ls q g I F) (k2 : ¬ y < x → mm_W mi np ls q g I F) : mm_W mi pc ls (.int y :: .int x :: q) g I F := w_ic he id id k1 k2
theorem w_v_le (he : mm_code mi pc = some (.if_icmp .le o, np, v, [t])) (k1 : x ≤ y → mm_W mi t ls q g I F) (k2 : ¬ x ≤ y → mm_W mi np ls q g I F) : mm_W mi pc ls (.int y :: .int x :: q) g I F := w_ic he id id k1 k2
-- of numbers
theorem w_n_eq (he : mm_code mi pc = some (.if_icmp .eq o, np, v, [t])) (ha : a < 2 ^ 31) (hb : b < 2 ^ 31) (hx : x = nI a) (hy : y = nI b) (k1 : a = b → mm_W mi t ls q g I F) (k2 : ¬ a = b → mm_W mi np ls q g I F) : mm_W mi pc ls (.int y :: .int x :: q) g I F := by
  subst hx hy; exact w_ic he (mm_c2n ha hb).1.1 (not_congr (mm_c2n ha hb).1).1 k1 k2
theorem w_n_ne (he : mm_code mi pc = some (.if_icmp .ne o, np, v, [t])) (ha : a < 2 ^ 31) (hb : b < 2 ^ 31) (hx : x = nI a) (hy : y = nI b) (k1 : ¬ a = b → mm_W mi t ls q g I F) (k2 : a = b → mm_W mi np ls q g I F) : mm_W mi pc ls (.int y :: .int x :: q) g I F := by
  subst hx hy; exact w_ic he (mm_c2n ha hb).2.1.1 (fun z => by have := not_congr (mm_c2n ha hb).2.1 |>.1 z; omega) k1 k2
theorem w_n_lt (he : mm_code mi pc = some (.if_icmp .lt o, np, v, [t])) (ha : a < 2 ^ 31) (hb : b < 2 ^ 31) (hx : x = nI a) (hy : y = nI b) (k1 : a < b → mm_W mi t ls q g I F) (k2 : b ≤ a → mm_W mi np ls q g I F) : mm_W mi pc ls (.int y :: .int x :: q) g I F := by
  subst hx hy; exact w_ic he (mm_c2n ha hb).2.2.1.1 (fun z => by have := not_congr (mm_c2n ha hb).2.2.1 |>.1 z; omega) k1 k2
theorem w_n_ge (he : mm_code mi pc = some (.if_icmp .ge o, np, v, [t])) (ha : a < 2 ^ 31) (hb : b < 2 ^ 31) (hx : x = nI a) (hy : y = nI b) (k1 : b ≤ a → mm_W mi t ls q g I F) (k2 : a < b → mm_W mi np ls q g I F) : mm_W mi pc ls (.int y :: .int x :: q) g I F := by
  subst hx hy; exact w_ic he (mm_c2n ha hb).2.2.2.1.1 (fun z => by have := not_congr (mm_c2n ha hb).2.2.2.1 |>.1 z; omega) k1 k2
theorem w_n_gt (he : mm_code mi pc = some (.if_icmp .gt o, np, v, [t])) (ha : a < 2 ^ 31) (hb : b < 2 ^ 31) (hx : x = nI a) (hy : y = nI b) (k1 : b < a → mm_W mi t ls q g I F) (k2 : a ≤ b → mm_W mi np ls q g I F) : mm_W mi pc ls (.int y :: .int x :: q) g I F := by
  subst hx hy; exact w_ic he (mm_c2n ha hb).2.2.2.2.1.1 (fun z => by have := not_congr (mm_c2n ha hb).2.2.2.2.1 |>.1 z; omega) k1 k2
theorem w_n_le (he : mm_code mi pc = some (.if_icmp .le o, np, v, [t])) (ha : a < 2 ^ 31) (hb : b < 2 ^ 31) (hx : x = nI a) (hy : y = nI b) (k1 : a ≤ b → mm_W mi t ls q g I F) (k2 : b < a → mm_W mi np ls q g I F) : mm_W mi pc ls (.int y :: .int x :: q) g I F := by
  subst hx hy; exact w_ic he (mm_c2n ha hb).2.2.2.2.2.1 (fun z => by have := not_congr (mm_c2n ha hb).2.2.2.2.2 |>.1 z; omega) k1 k2
-- of one int
theorem w_z_eq (he : mm_code mi pc = some (.ifCond .eq o, np, v, [t])) (k1 : x = 0 → mm_W mi t ls q g I F) (k2 : ¬ x = 0 → mm_W mi np ls q g I F) : mm_W mi pc ls (.int x :: q) g I F := w_if he id id k1 k2
theorem w_z_ne (he : mm_code mi pc = some (.ifCond .ne o, np, v, [t])) (k1 : ¬ x = 0 → mm_W mi t ls q g I F) (k2 : x = 0 → mm_W mi np ls q g I F) : mm_W mi pc ls (.int x :: q) g I F := w_if he id (fun z => Classical.not_not.1 z) k1 k2
theorem w_z_lt (he : mm_code mi pc = some (.ifCond .lt o, np, v, [t])) (k1 : x < 0 → mm_W mi t ls q g I F) (k2 : ¬ x < 0 → mm_W mi np ls q g I F) : mm_W mi pc ls (.int x :: q) g I F := w_if he id id k1 k2
theorem w_z_ge (he : mm_code mi pc = some (.ifCond .ge o, np, v, [t])) (k1 : 0 ≤ x → mm_W mi t ls q g I F) (k2 : ¬ 0 ≤ x → mm_W mi np ls q g I F) : mm_W mi pc ls (.int x :: q) g I F := w_if he id id k1 k2
theorem w_z_gt (he : mm_code mi pc = some (.ifCond .gt o, np, v, [t])) (k1 : 0 < x → mm_W mi t ls q g I F) (k2 : ¬ 0 < x → mm_W mi np ls q g I F) : mm_W mi pc ls (.int x :: q) g I F := w_if he id id k1 k2
theorem w_z_le (he : mm_code mi pc = some (.ifCond .le o, np, v, [t])) (k1 : x ≤ 0 → mm_W mi t ls q g I F) (k2 : ¬ x ≤ 0 → mm_W mi np ls q g I F) : mm_W mi pc ls (.int x :: q) g I F := w_if he id id k1 k2
-- of one number
theorem w_m_eq (he : mm_code mi pc = some (.ifCond .eq o, np, v, [t])) (ha : a < 2 ^ 31) (hx : x = nI a) (k1 : a = 0 → mm_W mi t ls q g I F) (k2 : 0 < a → mm_W mi np ls q g I F) : mm_W mi pc ls (.int x :: q) g I F := by
  subst hx; exact w_if he (mm_czn ha).1.1 (fun z => by have := not_congr (mm_czn ha).1 |>.1 z; omega) k1 k2
theorem w_m_ne (he : mm_code mi pc = some (.ifCond .ne o, np, v, [t])) (ha : a < 2 ^ 31) (hx : x = nI a) (k1 : 0 < a → mm_W mi t ls q g I F) (k2 : a = 0 → mm_W mi np ls q g I F) : mm_W mi pc ls (.int x :: q) g I F := by
  subst hx; exact w_if he (fun z => by have := (mm_czn ha).2.1.1 z; omega) (fun z => by have := not_congr (mm_czn ha).2.1 |>.1 z; omega) k1 k2
theorem w_m_lt (he : mm_code mi pc = some (.ifCond .lt o, np, v, [t])) (ha : a < 2 ^ 31) (hx : x = nI a) (k2 : mm_W mi np ls q g I F) : mm_W mi pc ls (.int x :: q) g I F := by
  subst hx; exact w_if (A := False) (B := True) he (fun z => by have := (mm_czn ha).2.2.1.1 z; omega) (fun _ => trivial) (fun z => z.elim) (fun _ => k2)
theorem w_m_ge (he : mm_code mi pc = some (.ifCond .ge o, np, v, [t])) (ha : a < 2 ^ 31) (hx : x = nI a) (k2 : mm_W mi t ls q g I F) : mm_W mi pc ls (.int x :: q) g I F := by
  subst hx; exact w_if (A := True) (B := False) he (fun _ => trivial) (fun z => by have := not_congr (mm_czn ha).2.2.2.1 |>.1 z; omega) (fun _ => k2) (fun z => z.elim)
theorem w_m_gt (he : mm_code mi pc = some (.ifCond .gt o, np, v, [t])) (ha : a < 2 ^ 31) (hx : x = nI a) (k1 : 0 < a → mm_W mi t ls q g I F) (k2 : a = 0 → mm_W mi np ls q g I F) : mm_W mi pc ls (.int x :: q) g I F := by
  subst hx; exact w_if he (mm_czn ha).2.2.2.2.1.1 (fun z => by have := not_congr (mm_czn ha).2.2.2.2.1 |>.1 z; omega) k1 k2
theorem w_m_le (he : mm_code mi pc = some (.ifCond .le o, np, v, [t])) (ha : a < 2 ^ 31) (hx : x = nI a) (k1 : a = 0 → mm_W mi t ls q g I F) (k2 : 0 < a → mm_W mi np ls q g I F) : mm_W mi pc ls (.int x :: q) g I F := by
  subst hx; exact w_if he (fun z => by have := (mm_czn ha).2.2.2.2.2.1 z; omega) (fun z => by have := not_congr (mm_czn ha).2.2.2.2.2 |>.1 z; omega) k1 k2
-- of a truth
theorem w_b_eq (he : mm_code mi pc = some (.ifCond .eq o, np, v, [t])) (k1 : ¬ p → mm_W mi t ls q g I F) (k2 : p → mm_W mi np ls q g I F) : mm_W mi pc ls (.int (mm_bi p) :: q) g I F := by
  refine w_if he (fun z => ?_) (fun z => ?_) k1 k2
  · intro hp
    have z' : mm_bi p = 0 := z
    rw [mm_bi_t hp] at z'
    exact absurd z' (by decide)
  · exact Classical.byContradiction (fun hp => z (mm_bi_f hp))
theorem w_b_ne (he : mm_code mi pc = some (.ifCond .ne o, np, v, [t])) (k1 : p → mm_W mi t ls q g I F) (k2 : ¬ p → mm_W mi np ls q g I F) : mm_W mi pc ls (.int (mm_bi p) :: q) g I F := by
  refine w_if he (fun z => ?_) (fun z => ?_) k1 k2
  · exact Classical.byContradiction (fun hp => z (mm_bi_f hp))
  · intro hp
    exact z (fun z' => by rw [mm_bi_t hp] at z'; exact absurd z' (by decide))
end SX2
section SX3
variable {mi pc np : Nat} {ls st : List Value} {g : mm_Gg} {I : mm_Is} {F : mm_Ph}
-- answers
theorem w_reti {v : Value} {x : Int32} (he : mm_code mi pc = some (.ireturn, np, v, [0])) (h : F (0, some (.int x)) g I) : mm_W mi pc ls [.int x] g I F := ⟨_, g, I, mm_reti he, h⟩
theorem w_retz {v : Value} {x : Int32} (he : mm_code mi pc = some (.ireturn, np, v, [1])) (hx : x = 0 ∨ x = 1) (h : F (0, some (.int x)) g I) : mm_W mi pc ls [.int x] g I F := ⟨_, g, I, mm_retz he hx, h⟩
theorem w_retc {v : Value} {x : Int32} (he : mm_code mi pc = some (.ireturn, np, v, [2])) (hx : vp_nar .char x = x) (h : F (0, some (.int x)) g I) : mm_W mi pc ls [.int x] g I F := ⟨_, g, I, mm_retc he hx, h⟩
theorem w_retl {v : Value} {x : Int64} {a : List Nat} (he : mm_code mi pc = some (.lreturn, np, v, a)) (h : F (0, some (.long x)) g I) : mm_W mi pc ls [.long x] g I F := ⟨_, g, I, mm_retl he, h⟩
theorem w_retd {v : Value} {x : UInt64} {a : List Nat} (he : mm_code mi pc = some (.dreturn, np, v, a)) (h : F (0, some (.double x)) g I) : mm_W mi pc ls [.double x] g I F := ⟨_, g, I, mm_retd he, h⟩
theorem w_retv {v : Value} {a : List Nat} (he : mm_code mi pc = some (.return_, np, v, a)) (h : F (0, none) g I) : mm_W mi pc ls [] g I F := ⟨_, g, I, mm_retv he, h⟩
/-- the heap's counters after a throw -/
def mm_gx (g : mm_Gg) : mm_Gg := (g.1 + 1, g.2.1 + 6, g.2.2)
theorem w_thr {i E : Nat} {v : Value} {a : List Nat} (he : mm_code mi pc = some (.new i, np, v, 1 :: E :: a)) (hs : (st.map Value.category).sum ≤ 8) (h : F (E, none) (mm_gx g) I) : mm_W mi pc ls st g I F := ⟨(E, none), mm_gx g, I, mm_thr he hs, h⟩
-- calls
theorem w_cl {g' : mm_Gg} {I' : mm_Is} {ck mj na L : Nat} {aux : List Nat} {e : mm_En} {args : List Value} {vo : Option Value}
    (hc : mm_Me mj L args (mm_hp g I) ((0, vo), mm_hp g' I')) (he : mm_code mi pc = some e) (hi : mm_isc e ck mj na L aux) (ha : (st.take na).reverse = args)
    (hn : na ≤ st.length) (hcat : ((st.drop na).map Value.category).sum ≤ 8) (hr : mm_recv ck (aux.headD 99) args (mm_hp g I)) (hL : (mm_spread args).length ≤ L)
    (k : mm_W mi e.2.1 ls (vo.toList ++ st.drop na) g' I' F) : mm_W mi pc ls st g I F := by
  obtain ⟨q, g1, I1, k, x⟩ := k
  exact ⟨q, g1, I1, mm_cll he hi ha hc hn hcat hr hL (Or.inl rfl) k, x⟩
theorem w_cx {g' : mm_Gg} {I' : mm_Is} {ck mj na L E : Nat} {aux : List Nat} {e : mm_En} {args : List Value} {q : Nat × Nat}
    (hc : mm_Me mj L args (mm_hp g I) ((E, none), mm_hp g' I')) (he : mm_code mi pc = some e) (hi : mm_isc e ck mj na L aux) (ha : (st.take na).reverse = args)
    (hn : na ≤ st.length) (hcat : ((st.drop na).map Value.category).sum ≤ 8) (hr : mm_recv ck (aux.headD 99) args (mm_hp g I)) (hL : (mm_spread args).length ≤ L)
    (hE : E ≠ 0) (hq : mm_hand mi E = some q) (hpre : mm_pre ls q.2 = false)
    (k : mm_W mi q.1 (mm_lset ls q.2 .null) [] g' I' F) : mm_W mi pc ls st g I F := by
  obtain ⟨q, g1, I1, k, x⟩ := k
  exact ⟨q, g1, I1, mm_clx he hi ha hc hn hcat hr hL (Or.inl rfl) hE hq hpre k, x⟩
-- fields and arrays
theorem w_gr {w i ci k j : Nat} {v : Value} {tl : List Nat} (he : mm_code mi pc = some (.getfield w, np, v, ci :: k :: 1 :: tl)) (hf : mm_fo i ci) (hj : mm_R0 i k = j) (h0 : j ≠ 0) (K : mm_W mi np ls (.ref j :: st) g I F) : mm_W mi pc ls (.ref i :: st) g I F := by
  subst hj; exact w_of (fun _ k => mm_step he rfl rfl ⟨hf, h0⟩ k) K
theorem w_gi {w i ci k : Nat} {v : Value} {tl : List Nat} (he : mm_code mi pc = some (.getfield w, np, v, ci :: k :: 0 :: tl)) (hf : mm_fo i ci) (K : mm_W mi np ls (.int (I i k) :: st) g I F) : mm_W mi pc ls (.ref i :: st) g I F :=
  w_of (fun _ k => mm_step he rfl rfl hf k) K
theorem w_gb {w i ci k : Nat} {v : Value} {tl : List Nat} (he : mm_code mi pc = some (.getfield w, np, v, ci :: k :: 2 :: tl)) (hf : mm_fo i ci) (K : mm_W mi np ls (.int (I i k) :: st) g I F) : mm_W mi pc ls (.ref i :: st) g I F :=
  w_of (fun _ k => mm_step he rfl rfl hf k) K
theorem w_pi {w i ci k : Nat} {x : Int32} {v : Value} {tl : List Nat} (he : mm_code mi pc = some (.putfield w, np, v, ci :: k :: 0 :: tl)) (hf : mm_fo i ci) (K : mm_W mi np ls st g (va_up I i (upd (I i) k x)) F) : mm_W mi pc ls (.int x :: .ref i :: st) g I F :=
  w_of (fun _ k => mm_step he rfl rfl hf k) K
theorem w_pb {w i ci k : Nat} {x : Int32} {v : Value} {tl : List Nat} (he : mm_code mi pc = some (.putfield w, np, v, ci :: k :: 2 :: tl)) (hf : mm_fo i ci) (hx : x = 0 ∨ x = 1) (K : mm_W mi np ls st g (va_up I i (upd (I i) k x)) F) : mm_W mi pc ls (.int x :: .ref i :: st) g I F :=
  w_of (fun _ k => mm_step he rfl rfl ⟨hf, hx⟩ k) K
theorem mm_fa_ar {i k n j : Nat} (ha : mm_fa i k n) (hj : j < n) : mm_ar (mm_hp g I) i k (nI j) := by
  obtain ⟨h1, h2, h3⟩ := ha
  refine ⟨h1, ?_, ?_⟩
  · show (mm_K0 i).1 = k
    rw [h2]
  · show vp_in (nI j) (mm_K0 i).2
    rw [h2]
    exact vp_in_nI hj (by omega)
theorem w_ia {i n : Nat} (k : Nat) {v : Value} {x : Int32} (he : mm_code mi pc = some (.iaload, np, v, [0])) (ha : mm_fa i 10 n) (hx : x = nI k) (hk : k < n) (K : mm_W mi np ls (.int (I i k) :: st) g I F) : mm_W mi pc ls (.int x :: .ref i :: st) g I F := by
  subst hx
  have hc : (nI k).toNatClampNeg = k := nI_clamp (by have := ha.2.2; omega)
  refine w_of (fun _ k => mm_step he rfl rfl (mm_fa_ar ha hk) k) (ls' := ls) (g' := g) (I' := I) ?_
  show mm_W mi np ls (.int (I i (nI k).toNatClampNeg) :: st) g I F
  rw [hc]; exact K
theorem w_sh (k : Nat) {v : Value} {x : Int32} (he : mm_code mi pc = some (.iaload, np, v, [2])) (hx : x = nI k) (hk : k < 30) (K : mm_W mi np ls (.int (mm_SHP k) :: st) g I F) : mm_W mi pc ls (.int x :: .ref 1000 :: st) g I F := by
  subst hx
  have hc : (nI k).toNatClampNeg = k := nI_clamp (by omega)
  refine w_of (fun _ k => mm_step he rfl rfl ⟨rfl, vp_in_nI hk (by decide)⟩ k) (ls' := ls) (g' := g) (I' := I) ?_
  show mm_W mi np ls (.int (mm_SHP (nI k).toNatClampNeg) :: st) g I F
  rw [hc]; exact K
theorem w_sx (k : Nat) {v : Value} {x : Int32} (he : mm_code mi pc = some (.iaload, np, v, [1])) (hx : x = nI k) (hk : k < g.2.2.2.1) (hL : g.2.2.2.1 < 2 ^ 31) (K : mm_W mi np ls (.int (g.2.2.2.2 k) :: st) g I F) : mm_W mi pc ls (.int x :: .ref 1001 :: st) g I F := by
  subst hx
  have hc : (nI k).toNatClampNeg = k := nI_clamp (by omega)
  refine w_of (fun _ k => mm_step he rfl rfl ⟨rfl, vp_in_nI hk hL⟩ k) (ls' := ls) (g' := g) (I' := I) ?_
  show mm_W mi np ls (.int (g.2.2.2.2 (nI k).toNatClampNeg) :: st) g I F
  rw [hc]; exact K
theorem w_ca {i n : Nat} (k : Nat) {v : Value} {x : Int32} {a : List Nat} (he : mm_code mi pc = some (.caload, np, v, a)) (ha : mm_fa i 11 n) (hx : x = nI k) (hk : k < n) (K : mm_W mi np ls (.int (I i k) :: st) g I F) : mm_W mi pc ls (.int x :: .ref i :: st) g I F := by
  subst hx
  have hc : (nI k).toNatClampNeg = k := nI_clamp (by have := ha.2.2; omega)
  refine w_of (fun _ k => mm_step he rfl rfl (mm_fa_ar ha hk) k) (ls' := ls) (g' := g) (I' := I) ?_
  show mm_W mi np ls (.int (I i (nI k).toNatClampNeg) :: st) g I F
  rw [hc]; exact K
theorem w_is {i n : Nat} (k : Nat) {x j : Int32} {v : Value} {a : List Nat} (he : mm_code mi pc = some (.iastore, np, v, a)) (ha : mm_fa i 10 n) (hx : j = nI k) (hk : k < n) (K : mm_W mi np ls st g (va_up I i (upd (I i) k x)) F) : mm_W mi pc ls (.int x :: .int j :: .ref i :: st) g I F := by
  subst hx
  have hc : (nI k).toNatClampNeg = k := nI_clamp (by have := ha.2.2; omega)
  refine w_of (fun _ k => mm_step he rfl rfl (mm_fa_ar ha hk) k) (ls' := ls) (st' := st) (g' := g) (I' := va_up I i (upd (I i) (nI k).toNatClampNeg x)) ?_
  rw [hc]; exact K
theorem w_cs {i n : Nat} (k : Nat) {x j : Int32} {v : Value} {a : List Nat} (he : mm_code mi pc = some (.castore, np, v, a)) (ha : mm_fa i 11 n) (hx : j = nI k) (hk : k < n) (hn : vp_nar .char x = x) (K : mm_W mi np ls st g (va_up I i (upd (I i) k x)) F) : mm_W mi pc ls (.int x :: .int j :: .ref i :: st) g I F := by
  subst hx
  have hc : (nI k).toNatClampNeg = k := nI_clamp (by have := ha.2.2; omega)
  refine w_of (fun _ k => mm_step he rfl rfl ⟨mm_fa_ar ha hk, hn⟩ k) (ls' := ls) (st' := st) (g' := g) (I' := va_up I i (upd (I i) (nI k).toNatClampNeg x)) ?_
  rw [hc]; exact K
theorem w_ra {i n j : Nat} (k : Nat) {v : Value} {x : Int32} {a : List Nat} (he : mm_code mi pc = some (.aaload, np, v, a)) (ha : mm_fa i 13 n ∨ mm_fa i 14 n) (hx : x = nI k) (hk : k < n) (hj : mm_R0 i k = j) (h0 : j ≠ 0) (K : mm_W mi np ls (.ref j :: st) g I F) : mm_W mi pc ls (.int x :: .ref i :: st) g I F := by
  subst hx hj
  have hn : n < 1000 := by rcases ha with z | z <;> exact z.2.2
  have hc : (nI k).toNatClampNeg = k := nI_clamp (by omega)
  have h0' : mm_R0 i (nI k).toNatClampNeg ≠ 0 := by rw [hc]; exact h0
  have hP : (mm_ar (mm_hp g I) i 13 (nI k) ∨ mm_ar (mm_hp g I) i 14 (nI k)) ∧ mm_R (mm_hp g I) i (nI k).toNatClampNeg ≠ 0 := by
    refine ⟨?_, h0'⟩
    rcases ha with z | z
    · exact Or.inl (mm_fa_ar z hk)
    · exact Or.inr (mm_fa_ar z hk)
  refine w_of (fun _ k => mm_step he rfl rfl hP k) (ls' := ls) (g' := g) (I' := I) ?_
  show mm_W mi np ls (.ref (mm_R0 i (nI k).toNatClampNeg) :: st) g I F
  rw [hc]; exact K
theorem w_inc {i j : Nat} {n : Int} {x y k : Int32} (he : mm_code mi pc = some (.iinc j n, np, .int k, [i])) (hl : mm_lget ls i = .int x) (hp : mm_pre ls i = false) (hi : i < ls.length) (hy : x + k = y) (K : mm_W mi np (mm_lset ls i (.int y)) st g I F) : mm_W mi pc ls st g I F := by
  subst hy
  have hs : ∀ e : Instr × Nat × Value × List Nat, e = (.iinc j n, np, .int k, [i]) → mm_stp e ls st (mm_hp g I) = some (np, mm_lset ls i (.int (x + k)), st, mm_hp g I, i < ls.length) := by
    intro e he
    subst he
    simp only [mm_stp, mm_inc, hl, hp, cond_false]
  exact w_of (fun _ k => mm_step he rfl (hs _ rfl) hi k) K
theorem w_tab {d : Nat} {ts : List Nat} {a b c : Int} {o : Array Int} {v : Value} {x : Int32} (he : mm_code mi pc = some (.tableswitch a b c o, np, v, d :: ts)) (t : Nat) (ht : mm_tsw d ts x = t) (k : mm_W mi t ls st g I F) : mm_W mi pc ls (.int x :: st) g I F :=
  w_of (fun _ k => mm_tab he t ht k) k
theorem w_lok {d : Nat} {ts : List Nat} {a : Int} {o : Array (Int × Int)} {v : Value} {x : Int32} (he : mm_code mi pc = some (.lookupswitch a o, np, v, d :: ts)) (t : Nat) (ht : mm_lsw d ts x = t) (k : mm_W mi t ls st g I F) : mm_W mi pc ls (.int x :: st) g I F :=
  w_of (fun _ k => mm_lok he t ht k) k
/-- the list of places said anew -/
theorem w_ls {ls' : List Value} (h : ls = ls') (k : mm_W mi pc ls' st g I F) : mm_W mi pc ls st g I F := by subst h; exact k
end SX3
theorem mm_fac {i k n : Nat} (h : (Nat.ble 61 i || Nat.ble 1000 n || !(Nat.beq (mm_K0 i).1 k) || !(Nat.beq (mm_K0 i).2 n)) = false) : mm_fa i k n := by
  simp only [Bool.or_eq_false_iff, Bool.not_eq_false', Nat.beq_eq_true_eq] at h
  obtain ⟨⟨⟨h1, h2⟩, h3⟩, h4⟩ := h
  refine ⟨?_, ?_, ?_⟩
  · exact Nat.lt_of_not_le (fun z => by rw [Nat.ble_eq_true_of_le z] at h1; cases h1)
  · exact Prod.ext (Nat.eq_of_beq_eq_true h3) (Nat.eq_of_beq_eq_true h4)
  · exact Nat.lt_of_not_le (fun z => by rw [Nat.ble_eq_true_of_le z] at h2; cases h2)
theorem mm_foc {i k : Nat} (h : (Nat.ble 61 i || !(Nat.beq (mm_K0 i).1 k)) = false) : mm_fo i k := by
  simp only [Bool.or_eq_false_iff, Bool.not_eq_false'] at h
  obtain ⟨h1, h3⟩ := h
  refine ⟨?_, Nat.eq_of_beq_eq_true h3⟩
  exact Nat.lt_of_not_le (fun z => by rw [Nat.ble_eq_true_of_le z] at h1; cases h1)
/-- tables and boards -/
def mm_T (t : Nat) : Prop := t = 7 ∨ t = 45 ∨ t = 49 ∨ t = 53 ∨ t = 57
def mm_B (b : Nat) : Prop := b = 1 ∨ b = 15 ∨ b = 20 ∨ b = 25 ∨ b = 30 ∨ b = 35 ∨ b = 40
theorem mm_T_o {t : Nat} (h : mm_T t) : mm_fo t 2 := by rcases h with rfl | rfl | rfl | rfl | rfl <;> exact mm_foc rfl
theorem mm_T_r {t k : Nat} (h : mm_T t) (hk : k < 3) : mm_R0 t k = t + 1 + k := by
  rcases h with rfl | rfl | rfl | rfl | rfl <;> (match k, hk with | 0, _ => rfl | 1, _ => rfl | 2, _ => rfl)
theorem mm_T_0 {t k : Nat} : t + 1 + k ≠ 0 := by omega
theorem mm_T_a {t k : Nat} (h : mm_T t) (hk : k < 3) : mm_fa (t + 1 + k) 10 10 := by
  rcases h with rfl | rfl | rfl | rfl | rfl <;> (match k, hk with | 0, _ => exact mm_fac rfl | 1, _ => exact mm_fac rfl | 2, _ => exact mm_fac rfl)
theorem mm_T_f {f : Nat} (h : f < 4) : mm_T (45 + 4 * f) := by unfold mm_T; omega
theorem mm_T_6 {f : Nat} (h : f < 4) : mm_R0 6 f = 45 + 4 * f := by match f, h with | 0, _ => rfl | 1, _ => rfl | 2, _ => rfl | 3, _ => rfl
theorem mm_B_o {t : Nat} (h : mm_B t) : mm_fo t 0 := by rcases h with rfl | rfl | rfl | rfl | rfl | rfl | rfl <;> exact mm_foc rfl
theorem mm_B_r {t k : Nat} (h : mm_B t) (hk : k < 4) : mm_R0 t k = t + 1 + k := by
  rcases h with rfl | rfl | rfl | rfl | rfl | rfl | rfl <;> (match k, hk with | 0, _ => rfl | 1, _ => rfl | 2, _ => rfl | 3, _ => rfl)
def mm_Bn (k : Nat) : Nat := ([4, 4, 60, 2] : List Nat).getD k 0
theorem mm_B_a {t k : Nat} (h : mm_B t) (hk : k < 4) : mm_fa (t + 1 + k) 10 (mm_Bn k) := by
  rcases h with rfl | rfl | rfl | rfl | rfl | rfl | rfl <;> (match k, hk with | 0, _ => exact mm_fac rfl | 1, _ => exact mm_fac rfl | 2, _ => exact mm_fac rfl | 3, _ => exact mm_fac rfl)
theorem mm_B_14 {i : Nat} (h : i < 6) : mm_R0 14 i = 15 + 5 * i := by match i, h with | 0, _ => rfl | 1, _ => rfl | 2, _ => rfl | 3, _ => rfl | 4, _ => rfl | 5, _ => rfl
theorem mm_B_i {i : Nat} (h : i < 6) : mm_B (15 + 5 * i) := by unfold mm_B; omega
theorem nI_mul (a b : Nat) : nI a * nI b = nI (a * b) := (Int32.ofNat_mul a b).symm
theorem nI_dec (a : Nat) : nI (a + 1) + (-1) = nI a := by
  rw [← nI_add, Int32.add_assoc]
  show nI a + (nI 1 + -1) = nI a
  rw [show nI 1 + -1 = (0 : Int32) from by decide, Int32.add_zero]
section SX4
variable {mi pc np : Nat} {ls st : List Value} {g : mm_Gg} {I : mm_Is} {F : mm_Ph} {v : Value} {a : List Nat}
theorem w_iadd {x y : Int32} (he : mm_code mi pc = some (.iadd, np, v, a)) (K : mm_W mi np ls (.int (x + y) :: st) g I F) : mm_W mi pc ls (.int y :: .int x :: st) g I F := w_st he rfl rfl trivial K
theorem w_isub {x y : Int32} (he : mm_code mi pc = some (.isub, np, v, a)) (K : mm_W mi np ls (.int (x - y) :: st) g I F) : mm_W mi pc ls (.int y :: .int x :: st) g I F := w_st he rfl rfl trivial K
theorem w_imul {x y : Int32} (he : mm_code mi pc = some (.imul, np, v, a)) (K : mm_W mi np ls (.int (x * y) :: st) g I F) : mm_W mi pc ls (.int y :: .int x :: st) g I F := w_st he rfl rfl trivial K
theorem w_iand {x y : Int32} (he : mm_code mi pc = some (.iand, np, v, a)) (K : mm_W mi np ls (.int (x &&& y) :: st) g I F) : mm_W mi pc ls (.int y :: .int x :: st) g I F := w_st he rfl rfl trivial K
theorem w_ior {x y : Int32} (he : mm_code mi pc = some (.ior, np, v, a)) (K : mm_W mi np ls (.int (x ||| y) :: st) g I F) : mm_W mi pc ls (.int y :: .int x :: st) g I F := w_st he rfl rfl trivial K
theorem w_ixor {x y : Int32} (he : mm_code mi pc = some (.ixor, np, v, a)) (K : mm_W mi np ls (.int (x ^^^ y) :: st) g I F) : mm_W mi pc ls (.int y :: .int x :: st) g I F := w_st he rfl rfl trivial K
theorem w_ladd {x y : Int64} (he : mm_code mi pc = some (.ladd, np, v, a)) (K : mm_W mi np ls (.long (x + y) :: st) g I F) : mm_W mi pc ls (.long y :: .long x :: st) g I F := w_st he rfl rfl trivial K
theorem w_lmul {x y : Int64} (he : mm_code mi pc = some (.lmul, np, v, a)) (K : mm_W mi np ls (.long (x * y) :: st) g I F) : mm_W mi pc ls (.long y :: .long x :: st) g I F := w_st he rfl rfl trivial K
theorem w_ishl {x y : Int32} (he : mm_code mi pc = some (.ishl, np, v, a)) (K : mm_W mi np ls (.int (x <<< (y &&& 31)) :: st) g I F) : mm_W mi pc ls (.int y :: .int x :: st) g I F := w_st he rfl rfl trivial K
theorem w_ishr {x y : Int32} (he : mm_code mi pc = some (.ishr, np, v, a)) (K : mm_W mi np ls (.int (x >>> (y &&& 31)) :: st) g I F) : mm_W mi pc ls (.int y :: .int x :: st) g I F := w_st he rfl rfl trivial K
theorem w_idiv {x y : Int32} (he : mm_code mi pc = some (.idiv, np, v, a)) (hy : ¬ y = 0) (K : mm_W mi np ls (.int (x / y) :: st) g I F) : mm_W mi pc ls (.int y :: .int x :: st) g I F := w_st he rfl rfl hy K
theorem w_irem {x y : Int32} (he : mm_code mi pc = some (.irem, np, v, a)) (hy : ¬ y = 0) (K : mm_W mi np ls (.int (x - x / y * y) :: st) g I F) : mm_W mi pc ls (.int y :: .int x :: st) g I F := w_st he rfl rfl hy K
theorem w_k10 {g' : mm_Gg} {I' : mm_Is} {ck mj L : Nat} {aux : List Nat} {e : mm_En} {a1 : Value} (hc : mm_Me mj L [a1] (mm_hp g I) ((0, none), mm_hp g' I')) (he : mm_code mi pc = some e) (hi : mm_isc e ck mj 1 L aux) (hcat : (st.map Value.category).sum ≤ 8) (hr : mm_recv ck (aux.headD 99) [a1] (mm_hp g I)) (hL : (mm_spread [a1]).length ≤ L) (k : mm_W mi e.2.1 ls (st) g' I' F) : mm_W mi pc ls (a1 :: st) g I F := w_cl hc he hi rfl (by show 1 ≤ st.length + 1; omega) hcat hr hL k
theorem w_k11 {g' : mm_Gg} {I' : mm_Is} {ck mj L : Nat} {aux : List Nat} {e : mm_En} {a1 w : Value} (hc : mm_Me mj L [a1] (mm_hp g I) ((0, some w), mm_hp g' I')) (he : mm_code mi pc = some e) (hi : mm_isc e ck mj 1 L aux) (hcat : (st.map Value.category).sum ≤ 8) (hr : mm_recv ck (aux.headD 99) [a1] (mm_hp g I)) (hL : (mm_spread [a1]).length ≤ L) (k : mm_W mi e.2.1 ls (w :: st) g' I' F) : mm_W mi pc ls (a1 :: st) g I F := w_cl hc he hi rfl (by show 1 ≤ st.length + 1; omega) hcat hr hL k
theorem w_k20 {g' : mm_Gg} {I' : mm_Is} {ck mj L : Nat} {aux : List Nat} {e : mm_En} {a1 a2 : Value} (hc : mm_Me mj L [a1, a2] (mm_hp g I) ((0, none), mm_hp g' I')) (he : mm_code mi pc = some e) (hi : mm_isc e ck mj 2 L aux) (hcat : (st.map Value.category).sum ≤ 8) (hr : mm_recv ck (aux.headD 99) [a1, a2] (mm_hp g I)) (hL : (mm_spread [a1, a2]).length ≤ L) (k : mm_W mi e.2.1 ls (st) g' I' F) : mm_W mi pc ls (a2 :: a1 :: st) g I F := w_cl hc he hi rfl (by show 2 ≤ st.length + 2; omega) hcat hr hL k
theorem w_k21 {g' : mm_Gg} {I' : mm_Is} {ck mj L : Nat} {aux : List Nat} {e : mm_En} {a1 a2 w : Value} (hc : mm_Me mj L [a1, a2] (mm_hp g I) ((0, some w), mm_hp g' I')) (he : mm_code mi pc = some e) (hi : mm_isc e ck mj 2 L aux) (hcat : (st.map Value.category).sum ≤ 8) (hr : mm_recv ck (aux.headD 99) [a1, a2] (mm_hp g I)) (hL : (mm_spread [a1, a2]).length ≤ L) (k : mm_W mi e.2.1 ls (w :: st) g' I' F) : mm_W mi pc ls (a2 :: a1 :: st) g I F := w_cl hc he hi rfl (by show 2 ≤ st.length + 2; omega) hcat hr hL k
theorem w_k30 {g' : mm_Gg} {I' : mm_Is} {ck mj L : Nat} {aux : List Nat} {e : mm_En} {a1 a2 a3 : Value} (hc : mm_Me mj L [a1, a2, a3] (mm_hp g I) ((0, none), mm_hp g' I')) (he : mm_code mi pc = some e) (hi : mm_isc e ck mj 3 L aux) (hcat : (st.map Value.category).sum ≤ 8) (hr : mm_recv ck (aux.headD 99) [a1, a2, a3] (mm_hp g I)) (hL : (mm_spread [a1, a2, a3]).length ≤ L) (k : mm_W mi e.2.1 ls (st) g' I' F) : mm_W mi pc ls (a3 :: a2 :: a1 :: st) g I F := w_cl hc he hi rfl (by show 3 ≤ st.length + 3; omega) hcat hr hL k
theorem w_k31 {g' : mm_Gg} {I' : mm_Is} {ck mj L : Nat} {aux : List Nat} {e : mm_En} {a1 a2 a3 w : Value} (hc : mm_Me mj L [a1, a2, a3] (mm_hp g I) ((0, some w), mm_hp g' I')) (he : mm_code mi pc = some e) (hi : mm_isc e ck mj 3 L aux) (hcat : (st.map Value.category).sum ≤ 8) (hr : mm_recv ck (aux.headD 99) [a1, a2, a3] (mm_hp g I)) (hL : (mm_spread [a1, a2, a3]).length ≤ L) (k : mm_W mi e.2.1 ls (w :: st) g' I' F) : mm_W mi pc ls (a3 :: a2 :: a1 :: st) g I F := w_cl hc he hi rfl (by show 3 ≤ st.length + 3; omega) hcat hr hL k
theorem w_k40 {g' : mm_Gg} {I' : mm_Is} {ck mj L : Nat} {aux : List Nat} {e : mm_En} {a1 a2 a3 a4 : Value} (hc : mm_Me mj L [a1, a2, a3, a4] (mm_hp g I) ((0, none), mm_hp g' I')) (he : mm_code mi pc = some e) (hi : mm_isc e ck mj 4 L aux) (hcat : (st.map Value.category).sum ≤ 8) (hr : mm_recv ck (aux.headD 99) [a1, a2, a3, a4] (mm_hp g I)) (hL : (mm_spread [a1, a2, a3, a4]).length ≤ L) (k : mm_W mi e.2.1 ls (st) g' I' F) : mm_W mi pc ls (a4 :: a3 :: a2 :: a1 :: st) g I F := w_cl hc he hi rfl (by show 4 ≤ st.length + 4; omega) hcat hr hL k
theorem w_k41 {g' : mm_Gg} {I' : mm_Is} {ck mj L : Nat} {aux : List Nat} {e : mm_En} {a1 a2 a3 a4 w : Value} (hc : mm_Me mj L [a1, a2, a3, a4] (mm_hp g I) ((0, some w), mm_hp g' I')) (he : mm_code mi pc = some e) (hi : mm_isc e ck mj 4 L aux) (hcat : (st.map Value.category).sum ≤ 8) (hr : mm_recv ck (aux.headD 99) [a1, a2, a3, a4] (mm_hp g I)) (hL : (mm_spread [a1, a2, a3, a4]).length ≤ L) (k : mm_W mi e.2.1 ls (w :: st) g' I' F) : mm_W mi pc ls (a4 :: a3 :: a2 :: a1 :: st) g I F := w_cl hc he hi rfl (by show 4 ≤ st.length + 4; omega) hcat hr hL k
theorem w_k50 {g' : mm_Gg} {I' : mm_Is} {ck mj L : Nat} {aux : List Nat} {e : mm_En} {a1 a2 a3 a4 a5 : Value} (hc : mm_Me mj L [a1, a2, a3, a4, a5] (mm_hp g I) ((0, none), mm_hp g' I')) (he : mm_code mi pc = some e) (hi : mm_isc e ck mj 5 L aux) (hcat : (st.map Value.category).sum ≤ 8) (hr : mm_recv ck (aux.headD 99) [a1, a2, a3, a4, a5] (mm_hp g I)) (hL : (mm_spread [a1, a2, a3, a4, a5]).length ≤ L) (k : mm_W mi e.2.1 ls (st) g' I' F) : mm_W mi pc ls (a5 :: a4 :: a3 :: a2 :: a1 :: st) g I F := w_cl hc he hi rfl (by show 5 ≤ st.length + 5; omega) hcat hr hL k
theorem w_k51 {g' : mm_Gg} {I' : mm_Is} {ck mj L : Nat} {aux : List Nat} {e : mm_En} {a1 a2 a3 a4 a5 w : Value} (hc : mm_Me mj L [a1, a2, a3, a4, a5] (mm_hp g I) ((0, some w), mm_hp g' I')) (he : mm_code mi pc = some e) (hi : mm_isc e ck mj 5 L aux) (hcat : (st.map Value.category).sum ≤ 8) (hr : mm_recv ck (aux.headD 99) [a1, a2, a3, a4, a5] (mm_hp g I)) (hL : (mm_spread [a1, a2, a3, a4, a5]).length ≤ L) (k : mm_W mi e.2.1 ls (w :: st) g' I' F) : mm_W mi pc ls (a5 :: a4 :: a3 :: a2 :: a1 :: st) g I F := w_cl hc he hi rfl (by show 5 ≤ st.length + 5; omega) hcat hr hL k
theorem w_k60 {g' : mm_Gg} {I' : mm_Is} {ck mj L : Nat} {aux : List Nat} {e : mm_En} {a1 a2 a3 a4 a5 a6 : Value} (hc : mm_Me mj L [a1, a2, a3, a4, a5, a6] (mm_hp g I) ((0, none), mm_hp g' I')) (he : mm_code mi pc = some e) (hi : mm_isc e ck mj 6 L aux) (hcat : (st.map Value.category).sum ≤ 8) (hr : mm_recv ck (aux.headD 99) [a1, a2, a3, a4, a5, a6] (mm_hp g I)) (hL : (mm_spread [a1, a2, a3, a4, a5, a6]).length ≤ L) (k : mm_W mi e.2.1 ls (st) g' I' F) : mm_W mi pc ls (a6 :: a5 :: a4 :: a3 :: a2 :: a1 :: st) g I F := w_cl hc he hi rfl (by show 6 ≤ st.length + 6; omega) hcat hr hL k
theorem w_k61 {g' : mm_Gg} {I' : mm_Is} {ck mj L : Nat} {aux : List Nat} {e : mm_En} {a1 a2 a3 a4 a5 a6 w : Value} (hc : mm_Me mj L [a1, a2, a3, a4, a5, a6] (mm_hp g I) ((0, some w), mm_hp g' I')) (he : mm_code mi pc = some e) (hi : mm_isc e ck mj 6 L aux) (hcat : (st.map Value.category).sum ≤ 8) (hr : mm_recv ck (aux.headD 99) [a1, a2, a3, a4, a5, a6] (mm_hp g I)) (hL : (mm_spread [a1, a2, a3, a4, a5, a6]).length ≤ L) (k : mm_W mi e.2.1 ls (w :: st) g' I' F) : mm_W mi pc ls (a6 :: a5 :: a4 :: a3 :: a2 :: a1 :: st) g I F := w_cl hc he hi rfl (by show 6 ≤ st.length + 6; omega) hcat hr hL k
end SX4
end
section
/-! small methods of both sides -/
def sp_us (x k : Int32) : Int32 := (x.toUInt32 >>> (k.toUInt32 &&& Int32.toUInt32 31)).toInt32
def sp_p1 (x : Int32) : Int32 := x - (sp_us x 1 &&& 1431655765)
def sp_p2 (x : Int32) : Int32 := (x &&& 858993459) + (sp_us x 2 &&& 858993459)
def sp_p3 (x : Int32) : Int32 := (x + sp_us x 4) &&& 252645135
def sp_p4 (x : Int32) : Int32 := x + sp_us x 8
def sp_p5 (x : Int32) : Int32 := x + sp_us x 16
/-- how many lamps -/
def sp_pop (x : Int32) : Int32 := sp_p5 (sp_p4 (sp_p3 (sp_p2 (sp_p1 x)))) &&& 63
/-- x is one of the n least numbers -/
def sp_lt (n : Nat) (x : Int32) : Prop := ∃ k, k < n ∧ x = nI k
theorem sp_lt_i {n : Nat} {x y : Int32} (hn : n < 2 ^ 31) (hy : y = nI n) (h0 : ¬ x < 0) (h1 : ¬ y ≤ x) : sp_lt n x := by
  obtain ⟨j, hj, rfl⟩ := nI_of h0
  subst hy
  refine ⟨j, ?_, rfl⟩
  have := not_congr (nI_leI hn hj) |>.1 h1
  omega
theorem sp_lt_n0 {n : Nat} {x : Int32} (hn : n ≤ 2 ^ 31) (h : x < 0) : ¬ sp_lt n x := by
  rintro ⟨k, hk, rfl⟩
  exact nI_pos (by omega) h
theorem sp_lt_n1 {n : Nat} {x y : Int32} (hn : n < 2 ^ 31) (hy : y = nI n) (h : y ≤ x) : ¬ sp_lt n x := by
  rintro ⟨k, hk, rfl⟩
  subst hy
  have := (nI_leI hn (by omega)).1 h
  omega
theorem sp_le_i {n : Nat} {x y : Int32} (hn : n + 1 < 2 ^ 31) (hy : y = nI n) (h0 : 0 ≤ x) (h1 : x ≤ y) : sp_lt (n + 1) x := by
  have h0' : ¬ x < 0 := by
    intro z
    have := Int32.lt_iff_toInt_lt.1 z
    have := Int32.le_iff_toInt_le.1 h0
    omega
  obtain ⟨j, hj, rfl⟩ := nI_of h0'
  subst hy
  refine ⟨j, ?_, rfl⟩
  have := (nI_leI hj (by omega)).1 h1
  omega
theorem sp_le_n {n : Nat} {x y : Int32} (hn : n + 1 < 2 ^ 31) (hy : y = nI n) (h : sp_lt (n + 1) x) : 0 ≤ x ∧ x ≤ y := by
  obtain ⟨k, hk, rfl⟩ := h
  subst hy
  exact ⟨nI_le (a := 0) (Nat.zero_le _) (by omega), nI_le (by omega) (by omega)⟩
theorem mm_bi_c {p q : Prop} (h : p ↔ q) : mm_bi p = mm_bi q := by
  by_cases hp : p
  · rw [mm_bi_t hp, mm_bi_t (h.1 hp)]
  · rw [mm_bi_f hp, mm_bi_f (fun z => hp (h.2 z))]
def sp_bit (l : Nat) : Int32 := (1 : Int32) <<< ((14 - nI l) &&& 31)
section SM
variable {g : mm_Gg} {I : mm_Is} {x y z : Int32} {l d k : Nat}
theorem c_bitCount : mm_M 67 1 [.int x] g I (some (.int (sp_pop x))) I := by
  refine w_M ?_
  show mm_W 67 0 [.int x] [] _ _ _
  generalize hF : mm_EX _ _ _ = F
  refine w_st rfl rfl rfl trivial ?_
  refine w_st rfl rfl rfl trivial ?_
  refine w_st rfl rfl rfl trivial ?_
  refine w_st rfl rfl rfl trivial ?_
  refine w_st rfl rfl rfl trivial ?_
  refine w_iand rfl ?_
  refine w_isub rfl ?_
  refine w_st rfl rfl rfl (Nat.le_of_ble_eq_true rfl) ?_
  refine w_st rfl rfl rfl trivial ?_
  refine w_st rfl rfl rfl trivial ?_
  refine w_iand rfl ?_
  refine w_st rfl rfl rfl trivial ?_
  refine w_st rfl rfl rfl trivial ?_
  refine w_st rfl rfl rfl trivial ?_
  refine w_st rfl rfl rfl trivial ?_
  refine w_iand rfl ?_
  refine w_iadd rfl ?_
  refine w_st rfl rfl rfl (Nat.le_of_ble_eq_true rfl) ?_
  refine w_st rfl rfl rfl trivial ?_
  refine w_st rfl rfl rfl trivial ?_
  refine w_st rfl rfl rfl trivial ?_
  refine w_st rfl rfl rfl trivial ?_
  refine w_iadd rfl ?_
  refine w_st rfl rfl rfl trivial ?_
  refine w_iand rfl ?_
  refine w_st rfl rfl rfl (Nat.le_of_ble_eq_true rfl) ?_
  refine w_st rfl rfl rfl trivial ?_
  refine w_st rfl rfl rfl trivial ?_
  refine w_st rfl rfl rfl trivial ?_
  refine w_st rfl rfl rfl trivial ?_
  refine w_iadd rfl ?_
  refine w_st rfl rfl rfl (Nat.le_of_ble_eq_true rfl) ?_
  refine w_st rfl rfl rfl trivial ?_
  refine w_st rfl rfl rfl trivial ?_
  refine w_st rfl rfl rfl trivial ?_
  refine w_st rfl rfl rfl trivial ?_
  refine w_iadd rfl ?_
  refine w_st rfl rfl rfl (Nat.le_of_ble_eq_true rfl) ?_
  refine w_st rfl rfl rfl trivial ?_
  refine w_st rfl rfl rfl trivial ?_
  refine w_iand rfl ?_
  refine w_reti rfl ?_
  exact hF ▸ mm_EX_i (rfl)
theorem c_isField : mm_M 44 1 [.int x] g I (some (.int (mm_bi (sp_lt 4 x)))) I := by
  refine w_M ?_
  show mm_W 44 0 [.int x] [] _ _ _
  generalize hF : mm_EX _ _ _ = F
  refine w_st rfl rfl rfl trivial ?_
  refine w_z_lt rfl (fun c1 => ?_) (fun c1 => ?_)
  · skip
    refine w_st rfl rfl rfl trivial ?_
    refine w_retz rfl (by first | exact Or.inl rfl | exact Or.inr rfl | exact mm_bi_01 _ | assumption) ?_
    exact hF ▸ mm_EX_i ((mm_bi_f (sp_lt_n0 (by decide) c1)).symm)
  · skip
    refine w_st rfl rfl rfl trivial ?_
    refine w_st rfl rfl rfl trivial ?_
    refine w_v_ge rfl (fun c2 => ?_) (fun c2 => ?_)
    · skip
      refine w_st rfl rfl rfl trivial ?_
      refine w_retz rfl (by first | exact Or.inl rfl | exact Or.inr rfl | exact mm_bi_01 _ | assumption) ?_
      exact hF ▸ mm_EX_i ((mm_bi_f (sp_lt_n1 (by decide) rfl c2)).symm)
    · skip
      refine w_st rfl rfl rfl trivial ?_
      refine w_st rfl rfl rfl trivial ?_
      refine w_retz rfl (by first | exact Or.inl rfl | exact Or.inr rfl | exact mm_bi_01 _ | assumption) ?_
      exact hF ▸ mm_EX_i ((mm_bi_t (sp_lt_i (by decide) rfl c1 c2)).symm)
theorem c_isLamp : mm_M 45 1 [.int x] g I (some (.int (mm_bi (sp_lt 15 x)))) I := by
  refine w_M ?_
  show mm_W 45 0 [.int x] [] _ _ _
  generalize hF : mm_EX _ _ _ = F
  refine w_st rfl rfl rfl trivial ?_
  refine w_z_lt rfl (fun c1 => ?_) (fun c1 => ?_)
  · skip
    refine w_st rfl rfl rfl trivial ?_
    refine w_retz rfl (by first | exact Or.inl rfl | exact Or.inr rfl | exact mm_bi_01 _ | assumption) ?_
    exact hF ▸ mm_EX_i ((mm_bi_f (sp_lt_n0 (by decide) c1)).symm)
  · skip
    refine w_st rfl rfl rfl trivial ?_
    refine w_st rfl rfl rfl trivial ?_
    refine w_v_ge rfl (fun c2 => ?_) (fun c2 => ?_)
    · skip
      refine w_st rfl rfl rfl trivial ?_
      refine w_retz rfl (by first | exact Or.inl rfl | exact Or.inr rfl | exact mm_bi_01 _ | assumption) ?_
      exact hF ▸ mm_EX_i ((mm_bi_f (sp_lt_n1 (by decide) rfl c2)).symm)
    · skip
      refine w_st rfl rfl rfl trivial ?_
      refine w_st rfl rfl rfl trivial ?_
      refine w_retz rfl (by first | exact Or.inl rfl | exact Or.inr rfl | exact mm_bi_01 _ | assumption) ?_
      exact hF ▸ mm_EX_i ((mm_bi_t (sp_lt_i (by decide) rfl c1 c2)).symm)
theorem c_isDigit : mm_M 46 1 [.int x] g I (some (.int (mm_bi (sp_lt 10 x)))) I := by
  refine w_M ?_
  show mm_W 46 0 [.int x] [] _ _ _
  generalize hF : mm_EX _ _ _ = F
  refine w_st rfl rfl rfl trivial ?_
  refine w_z_lt rfl (fun c1 => ?_) (fun c1 => ?_)
  · skip
    refine w_st rfl rfl rfl trivial ?_
    refine w_retz rfl (by first | exact Or.inl rfl | exact Or.inr rfl | exact mm_bi_01 _ | assumption) ?_
    exact hF ▸ mm_EX_i ((mm_bi_f (sp_lt_n0 (by decide) c1)).symm)
  · skip
    refine w_st rfl rfl rfl trivial ?_
    refine w_st rfl rfl rfl trivial ?_
    refine w_v_ge rfl (fun c2 => ?_) (fun c2 => ?_)
    · skip
      refine w_st rfl rfl rfl trivial ?_
      refine w_retz rfl (by first | exact Or.inl rfl | exact Or.inr rfl | exact mm_bi_01 _ | assumption) ?_
      exact hF ▸ mm_EX_i ((mm_bi_f (sp_lt_n1 (by decide) rfl c2)).symm)
    · skip
      refine w_st rfl rfl rfl trivial ?_
      refine w_st rfl rfl rfl trivial ?_
      refine w_retz rfl (by first | exact Or.inl rfl | exact Or.inr rfl | exact mm_bi_01 _ | assumption) ?_
      exact hF ▸ mm_EX_i ((mm_bi_t (sp_lt_i (by decide) rfl c1 c2)).symm)
theorem c_isSetting : mm_M 47 1 [.int x] g I (some (.int (mm_bi (sp_lt 2 x)))) I := by
  refine w_M ?_
  show mm_W 47 0 [.int x] [] _ _ _
  generalize hF : mm_EX _ _ _ = F
  refine w_st rfl rfl rfl trivial ?_
  refine w_z_lt rfl (fun c1 => ?_) (fun c1 => ?_)
  · skip
    refine w_st rfl rfl rfl trivial ?_
    refine w_retz rfl (by first | exact Or.inl rfl | exact Or.inr rfl | exact mm_bi_01 _ | assumption) ?_
    exact hF ▸ mm_EX_i ((mm_bi_f (sp_lt_n0 (by decide) c1)).symm)
  · skip
    refine w_st rfl rfl rfl trivial ?_
    refine w_st rfl rfl rfl trivial ?_
    refine w_v_ge rfl (fun c2 => ?_) (fun c2 => ?_)
    · skip
      refine w_st rfl rfl rfl trivial ?_
      refine w_retz rfl (by first | exact Or.inl rfl | exact Or.inr rfl | exact mm_bi_01 _ | assumption) ?_
      exact hF ▸ mm_EX_i ((mm_bi_f (sp_lt_n1 (by decide) rfl c2)).symm)
    · skip
      refine w_st rfl rfl rfl trivial ?_
      refine w_st rfl rfl rfl trivial ?_
      refine w_retz rfl (by first | exact Or.inl rfl | exact Or.inr rfl | exact mm_bi_01 _ | assumption) ?_
      exact hF ▸ mm_EX_i ((mm_bi_t (sp_lt_i (by decide) rfl c1 c2)).symm)
theorem c_maskOf : mm_M 49 1 [.int (nI l)] g I (some (.int (sp_bit l))) I := by
  refine w_M ?_
  show mm_W 49 0 [.int (nI l)] [] _ _ _
  generalize hF : mm_EX _ _ _ = F
  refine w_st rfl rfl rfl trivial ?_
  refine w_st rfl rfl rfl trivial ?_
  refine w_st rfl rfl rfl trivial ?_
  refine w_isub rfl ?_
  refine w_ishl rfl ?_
  refine w_reti rfl ?_
  exact hF ▸ mm_EX_i (rfl)
theorem c_has : mm_M 50 2 [.int x, .int (nI l)] g I (some (.int (mm_bi (¬ x &&& sp_bit l = 0)))) I := by
  refine w_M ?_
  show mm_W 50 0 [.int x, .int (nI l)] [] _ _ _
  generalize hF : mm_EX _ _ _ = F
  refine w_st rfl rfl rfl trivial ?_
  refine w_st rfl rfl rfl trivial ?_
  refine w_k11 (c_maskOf) rfl ⟨rfl, by decide, by decide, by decide, Or.inr (Or.inl ⟨_, rfl⟩)⟩ (Nat.le_of_ble_eq_true rfl) trivial (Nat.le_of_ble_eq_true rfl) ?_  -- calls 49 cX4_maskOf
  refine w_iand rfl ?_
  refine w_z_eq rfl (fun c => ?_) (fun c => ?_)
  · skip
    refine w_st rfl rfl rfl trivial ?_
    refine w_retz rfl (by first | exact Or.inl rfl | exact Or.inr rfl | exact mm_bi_01 _ | assumption) ?_
    exact hF ▸ mm_EX_i ((mm_bi_f (fun z => z c)).symm)
  · skip
    refine w_st rfl rfl rfl trivial ?_
    refine w_st rfl rfl rfl trivial ?_
    refine w_retz rfl (by first | exact Or.inl rfl | exact Or.inr rfl | exact mm_bi_01 _ | assumption) ?_
    exact hF ▸ mm_EX_i ((mm_bi_t c).symm)
theorem c_lampsOf (hd : d < 10) (hk : k < 3) : mm_M 13 2 [.int (nI d), .int (nI k)] g I (some (.int (mm_SHP (3 * d + k)))) I := by
  refine w_M ?_
  show mm_W 13 0 [.int (nI d), .int (nI k)] [] _ _ _
  generalize hF : mm_EX _ _ _ = F
  refine w_st rfl rfl rfl trivial ?_
  refine w_st rfl rfl rfl trivial ?_
  refine w_st rfl rfl rfl trivial ?_
  refine w_imul rfl ?_
  refine w_st rfl rfl rfl trivial ?_
  refine w_iadd rfl ?_
  refine w_sh (3 * d + k) rfl (by first | rfl | assumption | (simp only [← nI_add, ← nI_mul]; rfl)) (by first | decide | omega) ?_
  refine w_reti rfl ?_
  exact hF ▸ mm_EX_i (rfl)
end SM
end
section
/-! counting lamps, both ways -/
noncomputable def sp_if {α : Type} (p : Prop) (x y : α) : α := @ite α p (Classical.propDecidable p) x y
theorem sp_if_t {α : Type} {p : Prop} (h : p) (x y : α) : sp_if p x y = x := by unfold sp_if; exact @if_pos _ (Classical.propDecidable p) h _ _ _
theorem sp_if_f {α : Type} {p : Prop} (h : ¬ p) (x y : α) : sp_if p x y = y := by unfold sp_if; exact @if_neg _ (Classical.propDecidable p) h _ _ _
def sp_q1 (x : Nat) : Nat := x - Nat.land (Nat.shiftRight x 1) 1431655765
def sp_q2 (x : Nat) : Nat := Nat.land x 858993459 + Nat.land (Nat.shiftRight x 2) 858993459
def sp_q3 (x : Nat) : Nat := Nat.land (x + Nat.shiftRight x 4) 252645135
def sp_q4 (x : Nat) : Nat := x + Nat.shiftRight x 8
def sp_q5 (x : Nat) : Nat := x + Nat.shiftRight x 16
def sp_qq (x : Nat) : Nat := Nat.land (sp_q5 (sp_q4 (sp_q3 (sp_q2 (sp_q1 x))))) 63
def sp_ck (m : Nat) : Bool := Nat.beq m 0 || (Nat.beq (sp_qq m) (sp_qq (Nat.land m (m - 1)) + 1) && Nat.ble (sp_qq m) 15)
def sp_al (f : Nat → Bool) : Nat → Nat → Bool
  | 0, a => f a
  | n + 1, a => sp_al f n a && sp_al f n (a + 2 ^ n)
theorem sp_al_of {f : Nat → Bool} : ∀ (n a : Nat), sp_al f n a = true → ∀ m, a ≤ m → m < a + 2 ^ n → f m = true := by
  intro n
  induction n with
  | zero =>
    intro a h m h1 h2
    have : m = a := by simp at h2; omega
    subst this
    exact h
  | succ n ih =>
    intro a h m h1 h2
    have h' : (sp_al f n a && sp_al f n (a + 2 ^ n)) = true := h
    rw [Bool.and_eq_true] at h'
    have e : 2 ^ (n + 1) = 2 ^ n + 2 ^ n := by rw [Nat.pow_succ]; omega
    by_cases c : m < a + 2 ^ n
    · exact ih a h'.1 m h1 c
    · exact ih (a + 2 ^ n) h'.2 m (by omega) (by omega)
theorem sp_ck_0 : sp_al sp_ck 12 0 = true := by decide +kernel
theorem sp_ck_1 : sp_al sp_ck 12 4096 = true := by decide +kernel
theorem sp_ck_2 : sp_al sp_ck 12 8192 = true := by decide +kernel
theorem sp_ck_3 : sp_al sp_ck 12 12288 = true := by decide +kernel
theorem sp_ck_4 : sp_al sp_ck 12 16384 = true := by decide +kernel
theorem sp_ck_5 : sp_al sp_ck 12 20480 = true := by decide +kernel
theorem sp_ck_6 : sp_al sp_ck 12 24576 = true := by decide +kernel
theorem sp_ck_7 : sp_al sp_ck 12 28672 = true := by decide +kernel
theorem sp_ck_all {m : Nat} (h : m < 32768) : sp_ck m = true := by
  have key : ∀ i, i < 8 → m / 4096 = i → sp_ck m = true := by
    intro i hi h1
    have h2 : 4096 * i ≤ m ∧ m < 4096 * i + 2 ^ 12 := by omega
    match i, hi with
    | 0, _ => exact sp_al_of 12 _ sp_ck_0 m h2.1 h2.2
    | 1, _ => exact sp_al_of 12 _ sp_ck_1 m h2.1 h2.2
    | 2, _ => exact sp_al_of 12 _ sp_ck_2 m h2.1 h2.2
    | 3, _ => exact sp_al_of 12 _ sp_ck_3 m h2.1 h2.2
    | 4, _ => exact sp_al_of 12 _ sp_ck_4 m h2.1 h2.2
    | 5, _ => exact sp_al_of 12 _ sp_ck_5 m h2.1 h2.2
    | 6, _ => exact sp_al_of 12 _ sp_ck_6 m h2.1 h2.2
    | 7, _ => exact sp_al_of 12 _ sp_ck_7 m h2.1 h2.2
  exact key (m / 4096) (by omega) rfl
theorem nI_bv (n : Nat) : (nI n).toBitVec = BitVec.ofNat 32 n := rfl
theorem nI_and (a b : Nat) : nI a &&& nI b = nI (Nat.land a b) := by
  apply Int32.toBitVec_inj.1
  rw [Int32.toBitVec_and, nI_bv, nI_bv, nI_bv]
  exact BitVec.ofNat_and.symm
theorem nI_sub {a b : Nat} (h : b ≤ a) : nI a - nI b = nI (a - b) := by
  have e : nI a = nI (a - b) + nI b := by rw [nI_add, Nat.sub_add_cancel h]
  rw [e, Int32.add_sub_cancel]
theorem sp_us_n {n j : Nat} (hn : n < 2 ^ 32) {k : Int32} (hk : ((k.toUInt32 &&& Int32.toUInt32 31).toBitVec % 32).toNat = j) : sp_us (nI n) k = nI (Nat.shiftRight n j) := by
  subst hk
  apply Int32.toBitVec_inj.1
  apply BitVec.eq_of_toNat_eq
  show ((nI n).toUInt32 >>> (k.toUInt32 &&& Int32.toUInt32 31)).toBitVec.toNat = (BitVec.ofNat 32 (Nat.shiftRight n _)).toNat
  rw [UInt32.toBitVec_shiftRight, BitVec.ushiftRight_eq', BitVec.toNat_ushiftRight]
  have e : (nI n).toUInt32.toBitVec.toNat = n := by
    show (BitVec.ofNat 32 n).toNat = n
    rw [BitVec.toNat_ofNat, Nat.mod_eq_of_lt hn]
  rw [e, BitVec.toNat_ofNat]
  exact (Nat.mod_eq_of_lt (Nat.lt_of_le_of_lt (Nat.shiftRight_le _ _) hn)).symm
theorem sp_land_le (a b : Nat) : Nat.land a b ≤ b := Nat.and_le_right
theorem sp_land_le1 (a b : Nat) : Nat.land a b ≤ a := Nat.and_le_left
theorem sp_shr_le (a b : Nat) : Nat.shiftRight a b ≤ a := Nat.shiftRight_le a b
theorem sp_pop_n {n : Nat} (h : n < 32768) : sp_pop (nI n) = nI (sp_qq n) := by
  have h1 : Nat.land (Nat.shiftRight n 1) 1431655765 ≤ n := Nat.le_trans (sp_land_le1 _ _) (sp_shr_le _ _)
  have e1 : sp_p1 (nI n) = nI (sp_q1 n) := by
    unfold sp_p1 sp_q1
    rw [sp_us_n (j := 1) (by omega) (by decide)]
    show nI n - (nI (Nat.shiftRight n 1) &&& nI 1431655765) = _
    rw [nI_and, nI_sub h1]
  have b1 : sp_q1 n < 32768 := by unfold sp_q1; omega
  have e2 : sp_p2 (nI (sp_q1 n)) = nI (sp_q2 (sp_q1 n)) := by
    unfold sp_p2 sp_q2
    rw [sp_us_n (j := 2) (by omega) (by decide)]
    show (nI _ &&& nI 858993459) + (nI _ &&& nI 858993459) = _
    rw [nI_and, nI_and, nI_add]
  have b2 : sp_q2 (sp_q1 n) < 65536 := by
    unfold sp_q2
    have := sp_land_le1 (sp_q1 n) 858993459
    have := sp_land_le1 (Nat.shiftRight (sp_q1 n) 2) 858993459
    have := sp_shr_le (sp_q1 n) 2
    omega
  have e3 : sp_p3 (nI (sp_q2 (sp_q1 n))) = nI (sp_q3 (sp_q2 (sp_q1 n))) := by
    unfold sp_p3 sp_q3
    rw [sp_us_n (j := 4) (by omega) (by decide), nI_add]
    show nI _ &&& nI 252645135 = _
    rw [nI_and]
  have b3 : sp_q3 (sp_q2 (sp_q1 n)) < 131072 := by
    unfold sp_q3
    have := sp_land_le1 (sp_q2 (sp_q1 n) + Nat.shiftRight (sp_q2 (sp_q1 n)) 4) 252645135
    have := sp_shr_le (sp_q2 (sp_q1 n)) 4
    omega
  have e4 : sp_p4 (nI (sp_q3 (sp_q2 (sp_q1 n)))) = nI (sp_q4 (sp_q3 (sp_q2 (sp_q1 n)))) := by
    unfold sp_p4 sp_q4
    rw [sp_us_n (j := 8) (by omega) (by decide), nI_add]
  have b4 : sp_q4 (sp_q3 (sp_q2 (sp_q1 n))) < 262144 := by
    unfold sp_q4
    have := sp_shr_le (sp_q3 (sp_q2 (sp_q1 n))) 8
    omega
  have e5 : sp_p5 (nI (sp_q4 (sp_q3 (sp_q2 (sp_q1 n))))) = nI (sp_q5 (sp_q4 (sp_q3 (sp_q2 (sp_q1 n))))) := by
    unfold sp_p5 sp_q5
    rw [sp_us_n (j := 16) (by omega) (by decide), nI_add]
  unfold sp_pop sp_qq
  rw [e1, e2, e3, e4, e5]
  show nI _ &&& nI 63 = _
  rw [nI_and]
/-- x is a set of lamps -/
def sp_b15 (x : Int32) : Prop := ∃ n, n < 32768 ∧ x = nI n
theorem sp_ck_of {m : Nat} (h : m < 32768) (h0 : 0 < m) : (nI m &&& (nI m - 1)) = nI (Nat.land m (m - 1)) ∧ Nat.land m (m - 1) < m ∧ sp_pop (nI m) = sp_pop (nI (Nat.land m (m - 1))) + 1 ∧ ∃ k, k < 16 ∧ sp_pop (nI m) = nI k := by
  have x := sp_ck_all h
  unfold sp_ck at x
  rw [Bool.or_eq_true] at x
  have hl : Nat.land m (m - 1) < m := Nat.lt_of_le_of_lt (sp_land_le _ _) (by omega)
  rcases x with x | x
  · have := Nat.eq_of_beq_eq_true x; omega
  · rw [Bool.and_eq_true] at x
    obtain ⟨x1, x2⟩ := x
    refine ⟨?_, hl, ?_, sp_qq m, Nat.lt_succ_of_le (Nat.le_of_ble_eq_true x2), sp_pop_n h⟩
    · show nI m &&& (nI m - nI 1) = _
      rw [nI_sub (by omega), nI_and]
    · rw [sp_pop_n h, sp_pop_n (by omega), Nat.eq_of_beq_eq_true x1]
      exact (nI_1 _).symm
theorem sp_pop_k {x : Int32} (h : sp_b15 x) : ∃ k, k < 16 ∧ sp_pop x = nI k := by
  obtain ⟨n, hn, rfl⟩ := h
  rcases Nat.eq_zero_or_pos n with rfl | h0
  · exact ⟨0, by decide, by decide +kernel⟩
  · exact (sp_ck_of hn h0).2.2.2
theorem sp_b15_iff {x : Int32} : sp_b15 x ↔ x.toBitVec.toNat < 32768 := by
  constructor
  · rintro ⟨n, hn, rfl⟩
    show (BitVec.ofNat 32 n).toNat < 32768
    rw [BitVec.toNat_ofNat]
    exact Nat.lt_of_le_of_lt (Nat.mod_le _ _) hn
  · intro h
    refine ⟨x.toBitVec.toNat, h, ?_⟩
    apply Int32.toBitVec_inj.1
    show x.toBitVec = BitVec.ofNat 32 x.toBitVec.toNat
    rw [BitVec.ofNat_toNat, BitVec.setWidth_eq]
theorem sp_b15_and {x : Int32} (h : sp_b15 x) (y : Int32) : sp_b15 (x &&& y) := by
  rw [sp_b15_iff] at h ⊢
  rw [Int32.toBitVec_and, BitVec.toNat_and]
  exact Nat.lt_of_le_of_lt Nat.and_le_left h
theorem sp_b15_xor {x y : Int32} (h : sp_b15 x) (h' : sp_b15 y) : sp_b15 (x ^^^ y) := by
  rw [sp_b15_iff] at h h' ⊢
  rw [Int32.toBitVec_xor, BitVec.toNat_xor]
  exact Nat.xor_lt_two_pow (n := 15) h h'
theorem sp_b15_or {x y : Int32} (h : sp_b15 x) (h' : sp_b15 y) : sp_b15 (x ||| y) := by
  rw [sp_b15_iff] at h h' ⊢
  rw [Int32.toBitVec_or, BitVec.toNat_or]
  exact Nat.or_lt_two_pow (n := 15) h h'
theorem sp_b15_S : ∀ k, k < 30 → sp_b15 (mm_SHP k) := by
  intro k hk
  rw [sp_b15_iff]
  revert k
  decide +kernel
theorem sp_b15_bit {l : Nat} (h : l < 15) : sp_b15 (sp_bit l) := by
  rw [sp_b15_iff]
  revert l
  decide +kernel
theorem sp_b15_0 : sp_b15 0 := ⟨0, by decide, rfl⟩
section SM
variable {g : mm_Gg} {I : mm_Is} {x y z : Int32} {l d k : Nat}
end SM
end
section
/-! the table of a field: what it is, and the class's own way to it -/
def sp_sh (b : Int32) (d : Nat) (x : Int32) : Int32 := mm_SHP (3 * d + x.toNatClampNeg) &&& (b ^^^ (-1))
def sp_mi (b : Int32) (d : Nat) (x : Int32) : Int32 := sp_pop (mm_SHP (3 * d + x.toNatClampNeg) &&& b)
/-- L differs enough from what each of the first n digits shows -/
def sp_ap (r : Nat → Int32) (b s L : Int32) (n : Nat) : Prop := ∀ e, e < n → ¬ r e = -1 → ¬ sp_pop (L ^^^ sp_sh b e (r e)) < s
theorem sp_ap_c {r r' : Nat → Int32} {b s L : Int32} {n : Nat} (h : ∀ e, e < n → r e = r' e) : sp_ap r b s L n ↔ sp_ap r' b s L n :=
  ⟨fun z e he => by rw [← h e he]; exact z e he, fun z e he => by rw [h e he]; exact z e he⟩
/-- the shape of a digit after k shapes are looked at -/
noncomputable def sp_pk (r : Nat → Int32) (b s : Int32) (d : Nat) : Nat → Int32
  | 0 => -1
  | k + 1 => sp_if ((sp_pk r b s d k = -1 ∨ sp_mi b d (nI k) < sp_mi b d (sp_pk r b s d k)) ∧ sp_ap r b s (sp_sh b d (nI k)) d) (nI k) (sp_pk r b s d k)
theorem sp_pk_c {r r' : Nat → Int32} {b s : Int32} {d : Nat} (h : ∀ e, e < d → r e = r' e) (k : Nat) : sp_pk r b s d k = sp_pk r' b s d k := by
  induction k with
  | zero => rfl
  | succ k ih =>
    unfold sp_pk
    rw [ih]
    have e : sp_ap r b s (sp_sh b d (nI k)) d = sp_ap r' b s (sp_sh b d (nI k)) d := propext (sp_ap_c h)
    rw [e]
theorem sp_pk_k {r : Nat → Int32} {b s : Int32} {d : Nat} (k : Nat) : sp_pk r b s d k = -1 ∨ ∃ j, j < k ∧ sp_pk r b s d k = nI j := by
  induction k with
  | zero => exact Or.inl rfl
  | succ k ih =>
    by_cases c : (sp_pk r b s d k = -1 ∨ sp_mi b d (nI k) < sp_mi b d (sp_pk r b s d k)) ∧ sp_ap r b s (sp_sh b d (nI k)) d
    · right
      exact ⟨k, Nat.lt_succ_self k, by show sp_if _ _ _ = _; rw [sp_if_t c]⟩
    · have e : sp_pk r b s d (k + 1) = sp_pk r b s d k := by show sp_if _ _ _ = _; rw [sp_if_f c]
      rw [e]
      rcases ih with h | ⟨j, h1, h2⟩
      · exact Or.inl h
      · exact Or.inr ⟨j, by omega, h2⟩
noncomputable def sp_rw (b s : Int32) : Nat → Nat → Int32
  | 0 => fun _ => -1
  | d + 1 => va_up (sp_rw b s d) d (sp_pk (sp_rw b s d) b s d 3)
/-- the shapes of the ten digits -/
noncomputable def sp_row (b s : Int32) : Nat → Int32 := sp_rw b s 10
theorem sp_rw_st {b s : Int32} {e d : Nat} (h : e < d) (k : Nat) : sp_rw b s (d + k) e = sp_rw b s d e := by
  induction k with
  | zero => rfl
  | succ k ih =>
    show va_up (sp_rw b s (d + k)) (d + k) _ e = _
    rw [va_up_ne _ _ (by omega), ih]
theorem sp_row_of {b s : Int32} {e d : Nat} (h : e < d) (hd : d ≤ 10) : sp_row b s e = sp_rw b s d e := by
  obtain ⟨k, hk⟩ : ∃ k, 10 = d + k := ⟨10 - d, by omega⟩
  unfold sp_row
  rw [hk]
  exact sp_rw_st h k
theorem sp_row_eq {b s : Int32} {d : Nat} (h : d < 10) : sp_row b s d = sp_pk (sp_row b s) b s d 3 := by
  rw [sp_row_of (Nat.lt_succ_self d) h]
  show va_up (sp_rw b s d) d (sp_pk (sp_rw b s d) b s d 3) d = _
  rw [va_up_self]
  exact sp_pk_c (fun e he => (sp_row_of he (by omega)).symm) 3
theorem sp_row_k {b s : Int32} {d : Nat} (h : d < 10) : sp_row b s d = -1 ∨ ∃ j, j < 3 ∧ sp_row b s d = nI j := by
  rw [sp_row_eq h]; exact sp_pk_k 3
theorem nI_ne1 {j : Nat} (h : j < 2 ^ 31) : ¬ nI j = -1 := by
  intro z
  have h1 := nI_toInt h
  rw [z] at h1
  have h2 : (-1 : Int32).toInt = -1 := by decide
  omega
theorem sp_sh_n {b : Int32} {d k : Nat} (hk : k < 3) : sp_sh b d (nI k) = mm_SHP (3 * d + k) &&& (b ^^^ (-1)) := by unfold sp_sh; rw [nI_clamp (by omega)]
theorem sp_mi_n {b : Int32} {d k : Nat} (hk : k < 3) : sp_mi b d (nI k) = sp_pop (mm_SHP (3 * d + k) &&& b) := by unfold sp_mi; rw [nI_clamp (by omega)]
/-- a digit of the class's table t -/
def sp_te (I : mm_Is) (t : Nat) (b s : Int32) (d : Nat) : Prop := I (t + 1 + 0) d = sp_row b s d ∧ (¬ sp_row b s d = -1 → I (t + 1 + 1) d = sp_sh b d (sp_row b s d) ∧ I (t + 1 + 2) d = sp_mi b d (sp_row b s d))
/-- what changed in table t: digit d alone -/
def sp_ch (t d : Nat) (I I' : mm_Is) : Prop := (∀ p, ¬ p = t + 1 + 0 → ¬ p = t + 1 + 1 → ¬ p = t + 1 + 2 → I' p = I p) ∧ ∀ q j, ¬ j = d → I' q j = I q j
theorem sp_ch_rf {t d : Nat} {I : mm_Is} : sp_ch t d I I := ⟨fun _ _ _ _ => rfl, fun _ _ _ => rfl⟩
theorem sp_ch_up {t d k : Nat} {I I1 : mm_Is} {x : Int32} (h : sp_ch t d I I1) (hk : k < 3) : sp_ch t d I (va_up I1 (t + 1 + k) (upd (I1 (t + 1 + k)) d x)) := by
  refine ⟨fun p h0 h1 h2 => ?_, fun q j hj => ?_⟩
  · rw [va_up_ne _ _ (by omega)]; exact h.1 p h0 h1 h2
  · by_cases c : q = t + 1 + k
    · subst c; rw [va_up_self]; show (if j = d then x else _) = _; rw [if_neg hj]; exact h.2 _ j hj
    · rw [va_up_ne _ _ c]; exact h.2 q j hj
theorem mm_uu {I : mm_Is} {p d : Nat} {x : Int32} : va_up I p (upd (I p) d x) p d = x := by rw [va_up_self]; show (if d = d then x else _) = x; rw [if_pos rfl]
theorem mm_un {I : mm_Is} {p q d j : Nat} {x : Int32} (h : ¬ q = p ∨ ¬ j = d) : va_up I p (upd (I p) d x) q j = I q j := by
  by_cases c : q = p
  · subst c
    rw [va_up_self]; show (if j = d then x else _) = _
    rw [if_neg (h.resolve_left (fun z => z rfl))]
  · rw [va_up_ne _ _ c]
section SM
variable {g : mm_Gg} {I : mm_Is} {x y z b s L : Int32} {l d k t : Nat}
theorem c_isApart (hT : mm_T t) (hd : d < 10) (hI : ∀ e, e < d → I (t + 1 + 0) e = sp_row b s e ∧ (¬ sp_row b s e = -1 → I (t + 1 + 1) e = sp_sh b e (sp_row b s e))) : mm_M 12 5 [.ref t, .int L, .int (nI d), .int s] g I (some (.int (mm_bi (sp_ap (sp_row b s) b s L d)))) I := by
  refine w_M ?_
  show mm_W 12 0 [.ref t, .int L, .int (nI d), .int s, .null] [] _ _ _
  generalize hF : mm_EX _ _ _ = F
  refine w_st rfl rfl rfl trivial ?_
  refine w_st rfl rfl rfl (Nat.le_of_ble_eq_true rfl) ?_
  have K : ∀ j, j ≤ d → sp_ap (sp_row b s) b s L j → mm_W 12 3 [.ref t, .int L, .int (nI d), .int s, .int (nI j)] [] g I F := by
    refine mm_dn d ?_ ?_
    · intro h
      refine w_st rfl rfl rfl trivial ?_
      refine w_st rfl rfl rfl trivial ?_
      refine w_n_ge (a := d) (b := d) rfl (by first | decide | omega) (by first | decide | omega) (by first | rfl | assumption | (simp only [← nI_add, ← nI_mul]; rfl)) (by first | rfl | assumption | (simp only [← nI_add, ← nI_mul]; rfl)) (fun _ => ?_) (fun c => by exfalso; omega)
      refine w_st rfl rfl rfl trivial ?_
      refine w_retz rfl (by first | exact Or.inl rfl | exact Or.inr rfl | exact mm_bi_01 _ | assumption) ?_
      exact hF ▸ mm_EX_i ((mm_bi_t h).symm)
    · intro j hj ih h
      refine w_st rfl rfl rfl trivial ?_
      refine w_st rfl rfl rfl trivial ?_
      refine w_n_ge (a := j) (b := d) rfl (by first | decide | omega) (by first | decide | omega) (by first | rfl | assumption | (simp only [← nI_add, ← nI_mul]; rfl)) (by first | rfl | assumption | (simp only [← nI_add, ← nI_mul]; rfl)) (fun c => by exfalso; omega) (fun _ => ?_)
      refine w_st rfl rfl rfl trivial ?_
      refine w_gr (j := (t + 1 + 0)) rfl (mm_T_o hT) (mm_T_r hT (by decide)) mm_T_0 ?_
      refine w_st rfl rfl rfl trivial ?_
      refine w_ia (j) rfl (mm_T_a hT (by decide)) (by first | rfl | assumption | (simp only [← nI_add, ← nI_mul]; rfl)) (by first | decide | omega) ?_
      rw [(hI j hj).1]
      refine w_st rfl rfl rfl trivial ?_
      refine w_v_eq rfl (fun c1 => ?_) (fun c1 => ?_)
      · skip
        refine w_inc rfl rfl rfl (Nat.le_of_ble_eq_true rfl) (nI_1 _) ?_
        refine w_st rfl rfl rfl trivial ?_
        refine ih (fun e he hr => ?_)
        rcases Nat.lt_succ_iff_lt_or_eq.1 he with h1 | rfl
        · exact h e h1 hr
        · exact absurd c1 hr
      · skip
        refine w_st rfl rfl rfl trivial ?_
        refine w_st rfl rfl rfl trivial ?_
        refine w_gr (j := (t + 1 + 1)) rfl (mm_T_o hT) (mm_T_r hT (by decide)) mm_T_0 ?_
        refine w_st rfl rfl rfl trivial ?_
        refine w_ia (j) rfl (mm_T_a hT (by decide)) (by first | rfl | assumption | (simp only [← nI_add, ← nI_mul]; rfl)) (by first | decide | omega) ?_
        refine w_ixor rfl ?_
        refine w_k11 (c_bitCount) rfl ⟨rfl, by decide, by decide, by decide, Or.inr (Or.inl ⟨_, rfl⟩)⟩ (Nat.le_of_ble_eq_true rfl) trivial (Nat.le_of_ble_eq_true rfl) ?_  -- calls 67 cJ6_bitCount_0f7a4
        rw [(hI j hj).2 c1]
        refine w_st rfl rfl rfl trivial ?_
        refine w_v_ge rfl (fun c2 => ?_) (fun c2 => ?_)
        · skip
          refine w_inc rfl rfl rfl (Nat.le_of_ble_eq_true rfl) (nI_1 _) ?_
          refine w_st rfl rfl rfl trivial ?_
          refine ih (fun e he hr => ?_)
          rcases Nat.lt_succ_iff_lt_or_eq.1 he with h1 | rfl
          · exact h e h1 hr
          · exact Int32.not_lt.2 c2
        · skip
          refine w_st rfl rfl rfl trivial ?_
          refine w_retz rfl (by first | exact Or.inl rfl | exact Or.inr rfl | exact mm_bi_01 _ | assumption) ?_
          exact hF ▸ mm_EX_i ((mm_bi_f (fun z => z j hj c1 (Int32.not_le.1 c2))).symm)
  exact K 0 (Nat.zero_le _) (fun e he => absurd he (Nat.not_lt_zero _))
theorem sp_te_ch {I1 I2 : mm_Is} {e : Nat} (h : sp_ch t d I1 I2) (he : ¬ e = d) (x : sp_te I1 t b s e) : sp_te I2 t b s e := by
  unfold sp_te at x ⊢
  rw [h.2 _ _ he, h.2 _ _ he, h.2 _ _ he]
  exact x
theorem c_chooseShape (hT : mm_T t) (hd : d < 10) (hI : ∀ e, e < d → sp_te I t b s e) : ∃ I', mm_M 11 8 [.ref t, .int (nI d), .int b, .int s] g I none I' ∧ (sp_te I' t b s d ∧ sp_ch t d I I') := by
  refine w_MX ?_
  show mm_W 11 0 [.ref t, .int (nI d), .int b, .int s, .null, .null, .null, .null] [] _ _ _
  generalize hF : mm_EQ _ _ _ = F
  refine w_st rfl rfl rfl trivial ?_
  refine w_gr (j := (t + 1 + 0)) rfl (mm_T_o hT) (mm_T_r hT (by decide)) mm_T_0 ?_
  refine w_st rfl rfl rfl trivial ?_
  refine w_st rfl rfl rfl trivial ?_
  refine w_is (d) rfl (mm_T_a hT (by decide)) (by first | rfl | assumption | (simp only [← nI_add, ← nI_mul]; rfl)) (by first | decide | omega) ?_
  refine w_st rfl rfl rfl trivial ?_
  refine w_gr (j := (t + 1 + 1)) rfl (mm_T_o hT) (mm_T_r hT (by decide)) mm_T_0 ?_
  refine w_st rfl rfl rfl trivial ?_
  refine w_st rfl rfl rfl trivial ?_
  refine w_is (d) rfl (mm_T_a hT (by decide)) (by first | rfl | assumption | (simp only [← nI_add, ← nI_mul]; rfl)) (by first | decide | omega) ?_
  refine w_st rfl rfl rfl trivial ?_
  refine w_gr (j := (t + 1 + 2)) rfl (mm_T_o hT) (mm_T_r hT (by decide)) mm_T_0 ?_
  refine w_st rfl rfl rfl trivial ?_
  refine w_st rfl rfl rfl trivial ?_
  refine w_is (d) rfl (mm_T_a hT (by decide)) (by first | rfl | assumption | (simp only [← nI_add, ← nI_mul]; rfl)) (by first | decide | omega) ?_
  refine w_st rfl rfl rfl trivial ?_
  refine w_st rfl rfl rfl (Nat.le_of_ble_eq_true rfl) ?_
  have K : ∀ k, k ≤ 3 → ∀ I1 v5 v6 v7, (I1 (t + 1 + 0) d = sp_pk (sp_row b s) b s d k ∧ (¬ sp_pk (sp_row b s) b s d k = -1 → I1 (t + 1 + 1) d = sp_sh b d (sp_pk (sp_row b s) b s d k) ∧ I1 (t + 1 + 2) d = sp_mi b d (sp_pk (sp_row b s) b s d k)) ∧ sp_ch t d I I1) → mm_W 11 24 [.ref t, .int (nI d), .int b, .int s, .int (nI k), v5, v6, v7] [] g I1 F := by
    refine mm_dn 3 ?_ ?_
    · intro I1 v5 v6 v7 h
      rw [← sp_row_eq hd] at h
      refine w_st rfl rfl rfl trivial ?_
      refine w_st rfl rfl rfl trivial ?_
      refine w_n_ge (a := 3) (b := 3) rfl (by first | decide | omega) (by first | decide | omega) (by first | rfl | assumption | (simp only [← nI_add, ← nI_mul]; rfl)) (by first | rfl | assumption | (simp only [← nI_add, ← nI_mul]; rfl)) (fun _ => ?_) (fun c => by exfalso; omega)
      refine w_retv rfl ?_
      exact hF ▸ ⟨rfl, rfl, ⟨⟨h.1, h.2.1⟩, h.2.2⟩⟩
    · intro k hk ih I1 v5 v6 v7 h
      have N : ∀ w w5 w6, sp_pk (sp_row b s) b s d (k + 1) = sp_pk (sp_row b s) b s d k → mm_W 11 123 [.ref t, .int (nI d), .int b, .int s, .int (nI k), .int w5, .int w6, .int w] [] g I1 F := by
        intro w w5 w6 hw
        refine w_inc rfl rfl rfl (Nat.le_of_ble_eq_true rfl) (nI_1 _) ?_
        refine w_st rfl rfl rfl trivial ?_
        exact ih I1 (.int w5) (.int w6) (.int w) (by rw [hw]; exact h)
      have Y : ∀ w, (sp_pk (sp_row b s) b s d k = -1 ∨ sp_mi b d (nI k) < sp_mi b d (sp_pk (sp_row b s) b s d k)) → mm_W 11 80 [.ref t, .int (nI d), .int b, .int s, .int (nI k), .int (mm_SHP (3 * d + k)), .int (sp_pop (mm_SHP (3 * d + k) &&& b)), .int w] [] g I1 F := by
        intro w hw
        refine w_st rfl rfl rfl trivial ?_
        refine w_st rfl rfl rfl trivial ?_
        refine w_st rfl rfl rfl trivial ?_
        refine w_st rfl rfl rfl trivial ?_
        refine w_ixor rfl ?_
        refine w_iand rfl ?_
        refine w_st rfl rfl rfl trivial ?_
        refine w_st rfl rfl rfl trivial ?_
        refine w_k41 (c_isApart hT hd (fun e he => by rw [h.2.2.2 _ _ (show ¬ e = d by omega), h.2.2.2 _ _ (show ¬ e = d by omega)]; exact ⟨(hI e he).1, fun z => ((hI e he).2 z).1⟩)) rfl ⟨rfl, by decide, by decide, by decide, Or.inl ⟨_, rfl⟩⟩ (Nat.le_of_ble_eq_true rfl) (mm_T_o hT) (Nat.le_of_ble_eq_true rfl) ?_  -- calls 12 cX2_isApart
        refine w_b_eq rfl (fun c2 => ?_) (fun c2 => ?_)
        · refine N _ _ _ ?_
          show sp_if _ _ _ = _
          rw [sp_if_f (fun z => c2 (by rw [sp_sh_n hk] at z; exact z.2))]
        · have hp : sp_pk (sp_row b s) b s d (k + 1) = nI k := by
            show sp_if _ _ _ = _
            rw [sp_if_t ⟨hw, by rw [sp_sh_n hk]; exact c2⟩]
          refine w_st rfl rfl rfl trivial ?_
          refine w_gr (j := (t + 1 + 0)) rfl (mm_T_o hT) (mm_T_r hT (by decide)) mm_T_0 ?_
          refine w_st rfl rfl rfl trivial ?_
          refine w_st rfl rfl rfl trivial ?_
          refine w_is (d) rfl (mm_T_a hT (by decide)) (by first | rfl | assumption | (simp only [← nI_add, ← nI_mul]; rfl)) (by first | decide | omega) ?_
          refine w_st rfl rfl rfl trivial ?_
          refine w_gr (j := (t + 1 + 1)) rfl (mm_T_o hT) (mm_T_r hT (by decide)) mm_T_0 ?_
          refine w_st rfl rfl rfl trivial ?_
          refine w_st rfl rfl rfl trivial ?_
          refine w_st rfl rfl rfl trivial ?_
          refine w_st rfl rfl rfl trivial ?_
          refine w_ixor rfl ?_
          refine w_iand rfl ?_
          refine w_is (d) rfl (mm_T_a hT (by decide)) (by first | rfl | assumption | (simp only [← nI_add, ← nI_mul]; rfl)) (by first | decide | omega) ?_
          refine w_st rfl rfl rfl trivial ?_
          refine w_gr (j := (t + 1 + 2)) rfl (mm_T_o hT) (mm_T_r hT (by decide)) mm_T_0 ?_
          refine w_st rfl rfl rfl trivial ?_
          refine w_st rfl rfl rfl trivial ?_
          refine w_is (d) rfl (mm_T_a hT (by decide)) (by first | rfl | assumption | (simp only [← nI_add, ← nI_mul]; rfl)) (by first | decide | omega) ?_
          refine w_inc rfl rfl rfl (Nat.le_of_ble_eq_true rfl) (nI_1 _) ?_
          refine w_st rfl rfl rfl trivial ?_
          refine ih _ _ _ _ ?_
          rw [hp, sp_sh_n hk, sp_mi_n hk]
          refine ⟨?_, fun _ => ⟨?_, ?_⟩, sp_ch_up (sp_ch_up (sp_ch_up h.2.2 (k := 0) (by decide)) (k := 1) (by decide)) (k := 2) (by decide)⟩
          · rw [mm_un (Or.inl (by omega)), mm_un (Or.inl (by omega)), mm_uu]
          · rw [mm_un (Or.inl (by omega)), mm_uu]
          · rw [mm_uu]
      refine w_st rfl rfl rfl trivial ?_
      refine w_st rfl rfl rfl trivial ?_
      refine w_n_ge (a := k) (b := 3) rfl (by first | decide | omega) (by first | decide | omega) (by first | rfl | assumption | (simp only [← nI_add, ← nI_mul]; rfl)) (by first | rfl | assumption | (simp only [← nI_add, ← nI_mul]; rfl)) (fun c => by exfalso; omega) (fun _ => ?_)
      refine w_st rfl rfl rfl trivial ?_
      refine w_st rfl rfl rfl trivial ?_
      refine w_k21 (c_lampsOf hd hk) rfl ⟨rfl, by decide, by decide, by decide, Or.inr (Or.inl ⟨_, rfl⟩)⟩ (Nat.le_of_ble_eq_true rfl) trivial (Nat.le_of_ble_eq_true rfl) ?_  -- calls 13 cX2_lampsOf
      refine w_st rfl rfl rfl (Nat.le_of_ble_eq_true rfl) ?_
      refine w_st rfl rfl rfl trivial ?_
      refine w_st rfl rfl rfl trivial ?_
      refine w_iand rfl ?_
      refine w_k11 (c_bitCount) rfl ⟨rfl, by decide, by decide, by decide, Or.inr (Or.inl ⟨_, rfl⟩)⟩ (Nat.le_of_ble_eq_true rfl) trivial (Nat.le_of_ble_eq_true rfl) ?_  -- calls 67 cJ6_bitCount_0f7a4
      refine w_st rfl rfl rfl (Nat.le_of_ble_eq_true rfl) ?_
      refine w_st rfl rfl rfl trivial ?_
      refine w_gr (j := (t + 1 + 0)) rfl (mm_T_o hT) (mm_T_r hT (by decide)) mm_T_0 ?_
      refine w_st rfl rfl rfl trivial ?_
      refine w_ia (d) rfl (mm_T_a hT (by decide)) (by first | rfl | assumption | (simp only [← nI_add, ← nI_mul]; rfl)) (by first | decide | omega) ?_
      rw [h.1]
      refine w_st rfl rfl rfl trivial ?_
      refine w_v_eq rfl (fun c1 => ?_) (fun c1 => ?_)
      · skip
        refine w_st rfl rfl rfl trivial ?_
        refine w_st rfl rfl rfl trivial ?_
        refine w_st rfl rfl rfl (Nat.le_of_ble_eq_true rfl) ?_
        refine w_st rfl rfl rfl trivial ?_
        refine w_z_eq rfl (fun z => by first | exact absurd z ((by decide : ¬ (1 : Int32) = 0)) | exact absurd ((by decide : ¬ (1 : Int32) = 0)) z) (fun _ => ?_)
        exact Y 1 (Or.inl c1)
      · skip
        refine w_st rfl rfl rfl trivial ?_
        refine w_st rfl rfl rfl trivial ?_
        refine w_gr (j := (t + 1 + 2)) rfl (mm_T_o hT) (mm_T_r hT (by decide)) mm_T_0 ?_
        refine w_st rfl rfl rfl trivial ?_
        refine w_ia (d) rfl (mm_T_a hT (by decide)) (by first | rfl | assumption | (simp only [← nI_add, ← nI_mul]; rfl)) (by first | decide | omega) ?_
        rw [(h.2.1 c1).2]
        refine w_v_ge rfl (fun c3 => ?_) (fun c3 => ?_)
        · skip
          refine w_st rfl rfl rfl trivial ?_
          refine w_st rfl rfl rfl (Nat.le_of_ble_eq_true rfl) ?_
          refine w_st rfl rfl rfl trivial ?_
          refine w_z_eq rfl (fun _ => ?_) (fun z => by first | exact absurd (rfl) z | exact absurd z (rfl))
          refine N _ _ _ ?_
          show sp_if _ _ _ = _
          rw [sp_if_f (fun z => z.1.elim c1 (fun z1 => absurd c3 (Int32.not_le.2 (by rw [sp_mi_n hk] at z1; exact z1))))]
        · skip
          refine w_st rfl rfl rfl trivial ?_
          refine w_st rfl rfl rfl trivial ?_
          refine w_st rfl rfl rfl (Nat.le_of_ble_eq_true rfl) ?_
          refine w_st rfl rfl rfl trivial ?_
          refine w_z_eq rfl (fun z => by first | exact absurd z ((by decide : ¬ (1 : Int32) = 0)) | exact absurd ((by decide : ¬ (1 : Int32) = 0)) z) (fun _ => ?_)
          exact Y 1 (Or.inr (by rw [sp_mi_n hk]; exact Int32.not_le.1 c3))
  refine K 0 (by decide) _ .null .null .null ⟨?_, fun z => absurd rfl z, sp_ch_up (sp_ch_up (sp_ch_up sp_ch_rf (k := 0) (by decide)) (k := 1) (by decide)) (k := 2) (by decide)⟩
  rw [mm_un (Or.inl (by omega)), mm_un (Or.inl (by omega)), mm_uu]
  rfl
/-- the class's table t, laid by b and s -/
def sp_tt (I : mm_Is) (t : Nat) (b s : Int32) : Prop := ∀ d, d < 10 → sp_te I t b s d
/-- all but table t stands -/
def sp_f3 (t : Nat) (I I' : mm_Is) : Prop := ∀ p, ¬ p = t + 1 + 0 → ¬ p = t + 1 + 1 → ¬ p = t + 1 + 2 → I' p = I p
theorem c_choose (hT : mm_T t) : ∃ I', mm_M 10 4 [.ref t, .int b, .int s] g I none I' ∧ (sp_tt I' t b s ∧ sp_f3 t I I') := by
  refine w_MX ?_
  show mm_W 10 0 [.ref t, .int b, .int s, .null] [] _ _ _
  generalize hF : mm_EQ _ _ _ = F
  refine w_st rfl rfl rfl trivial ?_
  refine w_st rfl rfl rfl (Nat.le_of_ble_eq_true rfl) ?_
  have K : ∀ d, d ≤ 10 → ∀ I1, ((∀ e, e < d → sp_te I1 t b s e) ∧ sp_f3 t I I1) → mm_W 10 2 [.ref t, .int b, .int s, .int (nI d)] [] g I1 F := by
    refine mm_dn 10 ?_ ?_
    · intro I1 h
      refine w_st rfl rfl rfl trivial ?_
      refine w_st rfl rfl rfl trivial ?_
      refine w_n_ge (a := 10) (b := 10) rfl (by first | decide | omega) (by first | decide | omega) (by first | rfl | assumption | (simp only [← nI_add, ← nI_mul]; rfl)) (by first | rfl | assumption | (simp only [← nI_add, ← nI_mul]; rfl)) (fun _ => ?_) (fun c => by exfalso; omega)
      refine w_retv rfl ?_
      exact hF ▸ ⟨rfl, rfl, h⟩
    · intro d hd ih I1 h
      refine w_st rfl rfl rfl trivial ?_
      refine w_st rfl rfl rfl trivial ?_
      refine w_n_ge (a := d) (b := 10) rfl (by first | decide | omega) (by first | decide | omega) (by first | rfl | assumption | (simp only [← nI_add, ← nI_mul]; rfl)) (by first | rfl | assumption | (simp only [← nI_add, ← nI_mul]; rfl)) (fun c => by exfalso; omega) (fun _ => ?_)
      obtain ⟨I2, hM, h1, h2⟩ := c_chooseShape (g := g) (I := I1) hT hd h.1
      refine w_st rfl rfl rfl trivial ?_
      refine w_st rfl rfl rfl trivial ?_
      refine w_st rfl rfl rfl trivial ?_
      refine w_st rfl rfl rfl trivial ?_
      refine w_k40 (hM) rfl ⟨rfl, by decide, by decide, by decide, Or.inl ⟨_, rfl⟩⟩ (Nat.le_of_ble_eq_true rfl) (mm_T_o hT) (Nat.le_of_ble_eq_true rfl) ?_  -- calls 11 cX2_chooseShape
      refine w_inc rfl rfl rfl (Nat.le_of_ble_eq_true rfl) (nI_1 _) ?_
      refine w_st rfl rfl rfl trivial ?_
      refine ih I2 ⟨fun e he => ?_, fun p a1 a2 a3 => ?_⟩
      · rcases Nat.lt_succ_iff_lt_or_eq.1 he with z | rfl
        · exact sp_te_ch h2 (by omega) (h.1 e z)
        · exact h1
      · rw [h2.1 p a1 a2 a3]; exact h.2 p a1 a2 a3
  exact K 0 (by decide) I ⟨fun e he => absurd he (Nat.not_lt_zero _), fun _ _ _ _ => rfl⟩
end SM
end
section
/-! what a laid table answers, on the class's side -/
def sp_can (r : Nat → Int32) (x : Int32) : Prop := ∃ d, d < 10 ∧ x = nI d ∧ ¬ r d = -1
noncomputable def sp_mk (r : Nat → Int32) : Nat → Int32
  | 0 => 0
  | n + 1 => sp_mk r n ||| sp_if (r n = -1) (0 : Int32) ((1 : Int32) <<< (nI n &&& 31))
noncomputable def sp_no (r : Nat → Int32) : Nat → Nat
  | 0 => 0
  | n + 1 => sp_no r n + sp_if (r n = -1) 1 0
theorem sp_no_le (r : Nat → Int32) (n : Nat) : sp_no r n ≤ n := by
  induction n with
  | zero => exact Nat.le_refl _
  | succ n ih =>
    show sp_no r n + sp_if _ 1 0 ≤ _
    by_cases c : r n = -1
    · rw [sp_if_t c]; omega
    · rw [sp_if_f c]; omega
theorem sp_mk_ck : ∀ n, n < 10 → ∀ m, m < 2 ^ n → sp_qq (m ||| 2 ^ n) = sp_qq m + 1 := by decide +kernel
theorem sp_bit_n : ∀ n, n < 10 → (1 : Int32) <<< (nI n &&& 31) = nI (2 ^ n) := by decide +kernel
theorem nI_or (a b : Nat) : nI a ||| nI b = nI (a ||| b) := by
  apply Int32.toBitVec_inj.1
  rw [Int32.toBitVec_or, nI_bv, nI_bv, nI_bv]
  exact BitVec.ofNat_or.symm
theorem sp_mk_n (r : Nat → Int32) : ∀ n, n ≤ 10 → ∃ m, m < 2 ^ n ∧ sp_mk r n = nI m ∧ sp_qq m + sp_no r n = n := by
  intro n
  induction n with
  | zero => intro _; exact ⟨0, by decide, rfl, by show sp_qq 0 + 0 = 0; decide +kernel⟩
  | succ n ih =>
    intro hn
    obtain ⟨m, h1, h2, h3⟩ := ih (by omega)
    have hp : 2 ^ (n + 1) = 2 ^ n + 2 ^ n := by rw [Nat.pow_succ]; omega
    by_cases c : r n = -1
    · refine ⟨m, by omega, ?_, ?_⟩
      · show sp_mk r n ||| sp_if _ _ _ = _
        rw [sp_if_t c, h2]
        exact Int32.or_zero
      · show sp_qq m + (sp_no r n + sp_if _ 1 0) = _
        rw [sp_if_t c]; omega
    · refine ⟨m ||| 2 ^ n, ?_, ?_, ?_⟩
      · exact Nat.or_lt_two_pow (by omega) (by omega)
      · show sp_mk r n ||| sp_if _ _ _ = _
        rw [sp_if_f c, h2, sp_bit_n n (by omega), nI_or]
      · show _ + (sp_no r n + sp_if _ 1 0) = _
        rw [sp_if_f c, sp_mk_ck n (by omega) m h1]; omega
theorem sp_mk_10 (r : Nat → Int32) : (10 : Int32) - sp_pop (sp_mk r 10) = nI (sp_no r 10) := by
  obtain ⟨m, h1, h2, h3⟩ := sp_mk_n r 10 (Nat.le_refl _)
  rw [h2, sp_pop_n (by omega)]
  show nI 10 - nI _ = _
  rw [nI_sub (by omega)]
  congr 1
  omega
/-- the first of the last j digits that has no shape -/
noncomputable def sp_fh (r : Nat → Int32) : Nat → Int32
  | 0 => -1
  | j + 1 => sp_if (r (9 - j) = -1) (nI (9 - j)) (sp_fh r j)
noncomputable def sp_df (r : Nat → Int32) (b : Int32) (d e : Nat) : Int32 := sp_pop (sp_sh b d (r d) ^^^ sp_sh b e (r e))
noncomputable def sp_cs (r : Nat → Int32) (b : Int32) (d e : Nat) (a : Int32) : Int32 := sp_if (r d = -1 ∨ r e = -1) a (sp_if (a = -1 ∨ sp_df r b d e < a) (sp_df r b d e) a)
noncomputable def sp_ci (r : Nat → Int32) (b : Int32) (d : Nat) (a : Int32) : Nat → Int32
  | 0 => a
  | e + 1 => sp_cs r b d e (sp_ci r b d a e)
noncomputable def sp_co (r : Nat → Int32) (b : Int32) : Nat → Int32
  | 0 => -1
  | d + 1 => sp_ci r b d (sp_co r b d) d
noncomputable def sp_dw (r : Nat → Int32) (l : Nat) : Nat → Nat
  | 0 => 0
  | d + 1 => sp_dw r l d + sp_if (¬ r d = -1 ∧ ¬ mm_SHP (3 * d + (r d).toNatClampNeg) &&& sp_bit l = 0) 1 0
noncomputable def sp_cg (r r' : Nat → Int32) : Nat → Nat
  | 0 => 0
  | d + 1 => sp_cg r r' d + sp_if (r d = r' d) 0 1
theorem sp_cg_comm (r r' : Nat → Int32) (n : Nat) : sp_cg r r' n = sp_cg r' r n := by
  induction n with
  | zero => rfl
  | succ n ih =>
    show _ + sp_if _ 0 1 = _ + sp_if _ 0 1
    rw [ih, show (r n = r' n) = (r' n = r n) from propext ⟨Eq.symm, Eq.symm⟩]
theorem sp_cg_le (r r' : Nat → Int32) (n : Nat) : sp_cg r r' n ≤ n := by
  induction n with
  | zero => exact Nat.le_refl _
  | succ n ih =>
    show _ + sp_if _ 0 1 ≤ _
    by_cases c : r n = r' n
    · rw [sp_if_t c]; omega
    · rw [sp_if_f c]; omega
/-- nearest and least after n digits -/
noncomputable def sp_nr (r : Nat → Int32) (b L : Int32) : Nat → Int32 × Int32
  | 0 => (-1, 16)
  | d + 1 => sp_if (r d = -1) (sp_nr r b L d) (sp_if (sp_pop (L ^^^ sp_sh b d (r d)) < (sp_nr r b L d).2) (nI d, sp_pop (L ^^^ sp_sh b d (r d))) (sp_if (sp_pop (L ^^^ sp_sh b d (r d)) = (sp_nr r b L d).2) (-1, (sp_nr r b L d).2) (sp_nr r b L d)))
section SM
variable {g : mm_Gg} {I : mm_Is} {x y z b s L b' s' : Int32} {l d k t u : Nat}
theorem c_canShow (hT : mm_T t) (h : sp_tt I t b s) : mm_M 14 2 [.ref t, .int x] g I (some (.int (mm_bi (sp_can (sp_row b s) x)))) I := by
  refine w_M ?_
  show mm_W 14 0 [.ref t, .int x] [] _ _ _
  generalize hF : mm_EX _ _ _ = F
  refine w_st rfl rfl rfl trivial ?_
  refine w_k11 (c_isDigit) rfl ⟨rfl, by decide, by decide, by decide, Or.inr (Or.inl ⟨_, rfl⟩)⟩ (Nat.le_of_ble_eq_true rfl) trivial (Nat.le_of_ble_eq_true rfl) ?_  -- calls 46 cX4_isDigit
  refine w_b_eq rfl (fun c1 => ?_) (fun c1 => ?_)
  · skip
    refine w_st rfl rfl rfl trivial ?_
    refine w_retz rfl (by first | exact Or.inl rfl | exact Or.inr rfl | exact mm_bi_01 _ | assumption) ?_
    exact hF ▸ mm_EX_i ((mm_bi_f (fun ⟨d, h1, h2, _⟩ => c1 ⟨d, h1, h2⟩)).symm)
  · obtain ⟨d, hd, rfl⟩ := c1
    refine w_st rfl rfl rfl trivial ?_
    refine w_gr (j := (t + 1 + 0)) rfl (mm_T_o hT) (mm_T_r hT (by decide)) mm_T_0 ?_
    refine w_st rfl rfl rfl trivial ?_
    refine w_ia (d) rfl (mm_T_a hT (by decide)) (by first | rfl | assumption | (simp only [← nI_add, ← nI_mul]; rfl)) (by first | decide | omega) ?_
    rw [(h d hd).1]
    refine w_st rfl rfl rfl trivial ?_
    refine w_v_eq rfl (fun c2 => ?_) (fun c2 => ?_)
    · skip
      refine w_st rfl rfl rfl trivial ?_
      refine w_retz rfl (by first | exact Or.inl rfl | exact Or.inr rfl | exact mm_bi_01 _ | assumption) ?_
      exact hF ▸ mm_EX_i ((mm_bi_f (fun ⟨e, h1, h2, h3⟩ => h3 (by rw [← (nI_eq (by omega) (by omega)).1 h2]; exact c2))).symm)
    · skip
      refine w_st rfl rfl rfl trivial ?_
      refine w_st rfl rfl rfl trivial ?_
      refine w_retz rfl (by first | exact Or.inl rfl | exact Or.inr rfl | exact mm_bi_01 _ | assumption) ?_
      exact hF ▸ mm_EX_i ((mm_bi_t ⟨d, hd, rfl, c2⟩).symm)
theorem c_shapeOf (hT : mm_T t) (h : sp_tt I t b s) : mm_M 15 2 [.ref t, .int x] g I (some (.int (sp_if (sp_can (sp_row b s) x) (sp_row b s x.toNatClampNeg) (-1)))) I := by
  refine w_M ?_
  show mm_W 15 0 [.ref t, .int x] [] _ _ _
  generalize hF : mm_EX _ _ _ = F
  refine w_st rfl rfl rfl trivial ?_
  refine w_st rfl rfl rfl trivial ?_
  refine w_k21 (c_canShow hT h) rfl ⟨rfl, by decide, by decide, by decide, Or.inl ⟨_, rfl⟩⟩ (Nat.le_of_ble_eq_true rfl) (mm_T_o hT) (Nat.le_of_ble_eq_true rfl) ?_  -- calls 14 cX2_canShow
  refine w_b_eq rfl (fun c1 => ?_) (fun c1 => ?_)
  · skip
    refine w_st rfl rfl rfl trivial ?_
    refine w_reti rfl ?_
    exact hF ▸ mm_EX_i ((sp_if_f c1 _ _).symm)
  · rw [sp_if_t c1] at hF
    obtain ⟨d, hd, rfl, c2⟩ := c1
    rw [nI_clamp (by omega)] at hF
    refine w_st rfl rfl rfl trivial ?_
    refine w_gr (j := (t + 1 + 0)) rfl (mm_T_o hT) (mm_T_r hT (by decide)) mm_T_0 ?_
    refine w_st rfl rfl rfl trivial ?_
    refine w_ia (d) rfl (mm_T_a hT (by decide)) (by first | rfl | assumption | (simp only [← nI_add, ← nI_mul]; rfl)) (by first | decide | omega) ?_
    rw [(h d hd).1]
    refine w_st rfl rfl rfl trivial ?_
    refine w_reti rfl ?_
    exact hF ▸ mm_EX_i (rfl)
theorem c_shownOf (hT : mm_T t) (h : sp_tt I t b s) : mm_M 16 2 [.ref t, .int x] g I (some (.int (sp_if (sp_can (sp_row b s) x) (sp_sh b x.toNatClampNeg (sp_row b s x.toNatClampNeg)) (-1)))) I := by
  refine w_M ?_
  show mm_W 16 0 [.ref t, .int x] [] _ _ _
  generalize hF : mm_EX _ _ _ = F
  refine w_st rfl rfl rfl trivial ?_
  refine w_st rfl rfl rfl trivial ?_
  refine w_k21 (c_canShow hT h) rfl ⟨rfl, by decide, by decide, by decide, Or.inl ⟨_, rfl⟩⟩ (Nat.le_of_ble_eq_true rfl) (mm_T_o hT) (Nat.le_of_ble_eq_true rfl) ?_  -- calls 14 cX2_canShow
  refine w_b_eq rfl (fun c1 => ?_) (fun c1 => ?_)
  · skip
    refine w_st rfl rfl rfl trivial ?_
    refine w_reti rfl ?_
    exact hF ▸ mm_EX_i ((sp_if_f c1 _ _).symm)
  · rw [sp_if_t c1] at hF
    obtain ⟨d, hd, rfl, c2⟩ := c1
    rw [nI_clamp (by omega)] at hF
    refine w_st rfl rfl rfl trivial ?_
    refine w_gr (j := (t + 1 + 1)) rfl (mm_T_o hT) (mm_T_r hT (by decide)) mm_T_0 ?_
    refine w_st rfl rfl rfl trivial ?_
    refine w_ia (d) rfl (mm_T_a hT (by decide)) (by first | rfl | assumption | (simp only [← nI_add, ← nI_mul]; rfl)) (by first | decide | omega) ?_
    rw [((h d hd).2 c2).1]
    refine w_st rfl rfl rfl trivial ?_
    refine w_reti rfl ?_
    exact hF ▸ mm_EX_i (rfl)
theorem c_missingOf (hT : mm_T t) (h : sp_tt I t b s) : mm_M 17 2 [.ref t, .int x] g I (some (.int (sp_if (sp_can (sp_row b s) x) (sp_mi b x.toNatClampNeg (sp_row b s x.toNatClampNeg)) (-1)))) I := by
  refine w_M ?_
  show mm_W 17 0 [.ref t, .int x] [] _ _ _
  generalize hF : mm_EX _ _ _ = F
  refine w_st rfl rfl rfl trivial ?_
  refine w_st rfl rfl rfl trivial ?_
  refine w_k21 (c_canShow hT h) rfl ⟨rfl, by decide, by decide, by decide, Or.inl ⟨_, rfl⟩⟩ (Nat.le_of_ble_eq_true rfl) (mm_T_o hT) (Nat.le_of_ble_eq_true rfl) ?_  -- calls 14 cX2_canShow
  refine w_b_eq rfl (fun c1 => ?_) (fun c1 => ?_)
  · skip
    refine w_st rfl rfl rfl trivial ?_
    refine w_reti rfl ?_
    exact hF ▸ mm_EX_i ((sp_if_f c1 _ _).symm)
  · rw [sp_if_t c1] at hF
    obtain ⟨d, hd, rfl, c2⟩ := c1
    rw [nI_clamp (by omega)] at hF
    refine w_st rfl rfl rfl trivial ?_
    refine w_gr (j := (t + 1 + 2)) rfl (mm_T_o hT) (mm_T_r hT (by decide)) mm_T_0 ?_
    refine w_st rfl rfl rfl trivial ?_
    refine w_ia (d) rfl (mm_T_a hT (by decide)) (by first | rfl | assumption | (simp only [← nI_add, ← nI_mul]; rfl)) (by first | decide | omega) ?_
    rw [((h d hd).2 c2).2]
    refine w_st rfl rfl rfl trivial ?_
    refine w_reti rfl ?_
    exact hF ▸ mm_EX_i (rfl)
theorem c_digitsAsMask (hT : mm_T t) (h : sp_tt I t b s) : mm_M 18 3 [.ref t] g I (some (.int (sp_mk (sp_row b s) 10))) I := by
  refine w_M ?_
  show mm_W 18 0 [.ref t, .null, .null] [] _ _ _
  generalize hF : mm_EX _ _ _ = F
  refine w_st rfl rfl rfl trivial ?_
  refine w_st rfl rfl rfl (Nat.le_of_ble_eq_true rfl) ?_
  refine w_st rfl rfl rfl trivial ?_
  refine w_st rfl rfl rfl (Nat.le_of_ble_eq_true rfl) ?_
  refine mm_dn (P := fun j => mm_W 18 4 [.ref t, .int (sp_mk (sp_row b s) j), .int (nI j)] [] g I F) (10) ?_ ?_ 0 (by first | decide | omega)
  · try dsimp only
    refine w_st rfl rfl rfl trivial ?_
    refine w_st rfl rfl rfl trivial ?_
    refine w_n_ge (a := 10) (b := 10) rfl (by first | decide | omega) (by first | decide | omega) (by first | rfl | assumption | (simp only [← nI_add, ← nI_mul]; rfl)) (by first | rfl | assumption | (simp only [← nI_add, ← nI_mul]; rfl)) (fun _ => ?_) (fun c => by exfalso; omega)
    refine w_st rfl rfl rfl trivial ?_
    refine w_reti rfl ?_
    exact hF ▸ mm_EX_i (rfl)
  · intro j hj ih
    try dsimp only at ih ⊢
    refine w_st rfl rfl rfl trivial ?_
    refine w_st rfl rfl rfl trivial ?_
    refine w_n_ge (a := j) (b := 10) rfl (by first | decide | omega) (by first | decide | omega) (by first | rfl | assumption | (simp only [← nI_add, ← nI_mul]; rfl)) (by first | rfl | assumption | (simp only [← nI_add, ← nI_mul]; rfl)) (fun c => by exfalso; omega) (fun _ => ?_)
    refine w_st rfl rfl rfl trivial ?_
    refine w_st rfl rfl rfl trivial ?_
    refine w_gr (j := (t + 1 + 0)) rfl (mm_T_o hT) (mm_T_r hT (by decide)) mm_T_0 ?_
    refine w_st rfl rfl rfl trivial ?_
    refine w_ia (j) rfl (mm_T_a hT (by decide)) (by first | rfl | assumption | (simp only [← nI_add, ← nI_mul]; rfl)) (by first | decide | omega) ?_
    rw [(h j hj).1]
    have e : sp_mk (sp_row b s) (j + 1) = sp_mk (sp_row b s) j ||| sp_if (sp_row b s j = -1) (0 : Int32) ((1 : Int32) <<< (nI j &&& 31)) := rfl
    refine w_st rfl rfl rfl trivial ?_
    refine w_v_ne rfl (fun c => ?_) (fun c => ?_)
    · rw [sp_if_f c] at e
      refine w_st rfl rfl rfl trivial ?_
      refine w_st rfl rfl rfl trivial ?_
      refine w_ishl rfl ?_
      refine w_ior rfl ?_
      refine w_st rfl rfl rfl (Nat.le_of_ble_eq_true rfl) ?_
      refine w_inc rfl rfl rfl (Nat.le_of_ble_eq_true rfl) (nI_1 _) ?_
      refine w_st rfl rfl rfl trivial ?_
      rw [e] at ih; exact ih
    · rw [sp_if_t c] at e
      refine w_st rfl rfl rfl trivial ?_
      refine w_st rfl rfl rfl trivial ?_
      refine w_ior rfl ?_
      refine w_st rfl rfl rfl (Nat.le_of_ble_eq_true rfl) ?_
      refine w_inc rfl rfl rfl (Nat.le_of_ble_eq_true rfl) (nI_1 _) ?_
      refine w_st rfl rfl rfl trivial ?_
      rw [e] at ih; exact ih
theorem c_hiddenDigits (hT : mm_T t) (h : sp_tt I t b s) : mm_M 19 1 [.ref t] g I (some (.int (nI (sp_no (sp_row b s) 10)))) I := by
  refine w_M ?_
  show mm_W 19 0 [.ref t] [] _ _ _
  generalize hF : mm_EX _ _ _ = F
  refine w_st rfl rfl rfl trivial ?_
  refine w_st rfl rfl rfl trivial ?_
  refine w_k11 (c_digitsAsMask hT h) rfl ⟨rfl, by decide, by decide, by decide, Or.inl ⟨_, rfl⟩⟩ (Nat.le_of_ble_eq_true rfl) (mm_T_o hT) (Nat.le_of_ble_eq_true rfl) ?_  -- calls 18 cX2_digitsAsMask
  refine w_k11 (c_bitCount) rfl ⟨rfl, by decide, by decide, by decide, Or.inr (Or.inl ⟨_, rfl⟩)⟩ (Nat.le_of_ble_eq_true rfl) trivial (Nat.le_of_ble_eq_true rfl) ?_  -- calls 67 cJ6_bitCount_0f7a4
  refine w_isub rfl ?_
  refine w_reti rfl ?_
  exact hF ▸ mm_EX_i (sp_mk_10 _)
theorem c_firstHidden (hT : mm_T t) (h : sp_tt I t b s) : mm_M 20 2 [.ref t] g I (some (.int (sp_fh (sp_row b s) 10))) I := by
  refine w_M ?_
  show mm_W 20 0 [.ref t, .null] [] _ _ _
  generalize hF : mm_EX _ _ _ = F
  refine w_st rfl rfl rfl trivial ?_
  refine w_st rfl rfl rfl (Nat.le_of_ble_eq_true rfl) ?_
  have K : ∀ j, j ≤ 10 → sp_fh (sp_row b s) 10 = sp_fh (sp_row b s) (10 - j) → mm_W 20 2 [.ref t, .int (nI j)] [] g I F := by
    refine mm_dn 10 ?_ ?_
    · intro e
      refine w_st rfl rfl rfl trivial ?_
      refine w_st rfl rfl rfl trivial ?_
      refine w_n_ge (a := 10) (b := 10) rfl (by first | decide | omega) (by first | decide | omega) (by first | rfl | assumption | (simp only [← nI_add, ← nI_mul]; rfl)) (by first | rfl | assumption | (simp only [← nI_add, ← nI_mul]; rfl)) (fun _ => ?_) (fun c => by exfalso; omega)
      refine w_st rfl rfl rfl trivial ?_
      refine w_reti rfl ?_
      exact hF ▸ mm_EX_i (e.symm)
    · intro j hj ih e
      refine w_st rfl rfl rfl trivial ?_
      refine w_st rfl rfl rfl trivial ?_
      refine w_n_ge (a := j) (b := 10) rfl (by first | decide | omega) (by first | decide | omega) (by first | rfl | assumption | (simp only [← nI_add, ← nI_mul]; rfl)) (by first | rfl | assumption | (simp only [← nI_add, ← nI_mul]; rfl)) (fun c => by exfalso; omega) (fun _ => ?_)
      refine w_st rfl rfl rfl trivial ?_
      refine w_gr (j := (t + 1 + 0)) rfl (mm_T_o hT) (mm_T_r hT (by decide)) mm_T_0 ?_
      refine w_st rfl rfl rfl trivial ?_
      refine w_ia (j) rfl (mm_T_a hT (by decide)) (by first | rfl | assumption | (simp only [← nI_add, ← nI_mul]; rfl)) (by first | decide | omega) ?_
      rw [(h j hj).1]
      have e1 : sp_fh (sp_row b s) (10 - j) = sp_if (sp_row b s j = -1) (nI j) (sp_fh (sp_row b s) (10 - (j + 1))) := by
        obtain ⟨i, hi⟩ : ∃ i, 10 - j = i + 1 := ⟨9 - j, by omega⟩
        rw [hi]
        show sp_if (sp_row b s (9 - i) = -1) _ _ = _
        rw [show 9 - i = j from by omega, show 10 - (j + 1) = i from by omega]
      refine w_st rfl rfl rfl trivial ?_
      refine w_v_ne rfl (fun c => ?_) (fun c => ?_)
      · rw [sp_if_f c] at e1
        refine w_inc rfl rfl rfl (Nat.le_of_ble_eq_true rfl) (nI_1 _) ?_
        refine w_st rfl rfl rfl trivial ?_
        exact ih (e.trans e1)
      · rw [sp_if_t c] at e1
        refine w_st rfl rfl rfl trivial ?_
        refine w_reti rfl ?_
        exact hF ▸ mm_EX_i ((e.trans e1).symm)
  exact K 0 (by decide) rfl
theorem c_leastDifference (hT : mm_T t) (h : sp_tt I t b s) : mm_M 21 5 [.ref t] g I (some (.int (sp_co (sp_row b s) b 10))) I := by
  refine w_M ?_
  show mm_W 21 0 [.ref t, .null, .null, .null, .null] [] _ _ _
  generalize hF : mm_EX _ _ _ = F
  refine w_st rfl rfl rfl trivial ?_
  refine w_st rfl rfl rfl (Nat.le_of_ble_eq_true rfl) ?_
  refine w_st rfl rfl rfl trivial ?_
  refine w_st rfl rfl rfl (Nat.le_of_ble_eq_true rfl) ?_
  have K : ∀ d, d ≤ 10 → ∀ v3 v4, mm_pre [.ref t, .int 0, .int 0, v3, v4] 4 = false → mm_W 21 4 [.ref t, .int (sp_co (sp_row b s) b d), .int (nI d), v3, v4] [] g I F := by
    refine mm_dn 10 ?_ ?_
    · intro v3 v4 _
      refine w_st rfl rfl rfl trivial ?_
      refine w_st rfl rfl rfl trivial ?_
      refine w_n_ge (a := 10) (b := 10) rfl (by first | decide | omega) (by first | decide | omega) (by first | rfl | assumption | (simp only [← nI_add, ← nI_mul]; rfl)) (by first | rfl | assumption | (simp only [← nI_add, ← nI_mul]; rfl)) (fun _ => ?_) (fun c => by exfalso; omega)
      refine w_st rfl rfl rfl trivial ?_
      refine w_reti rfl ?_
      exact hF ▸ mm_EX_i (rfl)
    · intro d hd ih v3 v4 _
      refine w_st rfl rfl rfl trivial ?_
      refine w_st rfl rfl rfl trivial ?_
      refine w_n_ge (a := d) (b := 10) rfl (by first | decide | omega) (by first | decide | omega) (by first | rfl | assumption | (simp only [← nI_add, ← nI_mul]; rfl)) (by first | rfl | assumption | (simp only [← nI_add, ← nI_mul]; rfl)) (fun c => by exfalso; omega) (fun _ => ?_)
      refine w_st rfl rfl rfl trivial ?_
      refine w_st rfl rfl rfl (Nat.le_of_ble_eq_true rfl) ?_
      have K2 : ∀ e, e ≤ d → ∀ v4, mm_W 21 12 [.ref t, .int (sp_ci (sp_row b s) b d (sp_co (sp_row b s) b d) e), .int (nI d), .int (nI e), v4] [] g I F := by
        refine mm_dn d ?_ ?_
        · intro v4
          refine w_st rfl rfl rfl trivial ?_
          refine w_st rfl rfl rfl trivial ?_
          refine w_n_ge (a := d) (b := d) rfl (by first | decide | omega) (by first | decide | omega) (by first | rfl | assumption | (simp only [← nI_add, ← nI_mul]; rfl)) (by first | rfl | assumption | (simp only [← nI_add, ← nI_mul]; rfl)) (fun _ => ?_) (fun c => by exfalso; omega)
          refine w_inc rfl rfl rfl (Nat.le_of_ble_eq_true rfl) (nI_1 _) ?_
          refine w_st rfl rfl rfl trivial ?_
          exact ih (.int (nI d)) v4 rfl
        · intro e he ih2 v4
          have e1 : sp_ci (sp_row b s) b d (sp_co (sp_row b s) b d) (e + 1) = sp_cs (sp_row b s) b d e (sp_ci (sp_row b s) b d (sp_co (sp_row b s) b d) e) := rfl
          unfold sp_cs at e1
          refine w_st rfl rfl rfl trivial ?_
          refine w_st rfl rfl rfl trivial ?_
          refine w_n_ge (a := e) (b := d) rfl (by first | decide | omega) (by first | decide | omega) (by first | rfl | assumption | (simp only [← nI_add, ← nI_mul]; rfl)) (by first | rfl | assumption | (simp only [← nI_add, ← nI_mul]; rfl)) (fun c => by exfalso; omega) (fun _ => ?_)
          refine w_st rfl rfl rfl trivial ?_
          refine w_gr (j := (t + 1 + 0)) rfl (mm_T_o hT) (mm_T_r hT (by decide)) mm_T_0 ?_
          refine w_st rfl rfl rfl trivial ?_
          refine w_ia (d) rfl (mm_T_a hT (by decide)) (by first | rfl | assumption | (simp only [← nI_add, ← nI_mul]; rfl)) (by first | decide | omega) ?_
          rw [(h d hd).1]
          refine w_st rfl rfl rfl trivial ?_
          refine w_v_eq rfl (fun c1 => ?_) (fun c1 => ?_)
          · rw [sp_if_t (Or.inl c1)] at e1
            refine w_inc rfl rfl rfl (Nat.le_of_ble_eq_true rfl) (nI_1 _) ?_
            refine w_st rfl rfl rfl trivial ?_
            rw [e1] at ih2; exact ih2 v4
          · skip
            refine w_st rfl rfl rfl trivial ?_
            refine w_gr (j := (t + 1 + 0)) rfl (mm_T_o hT) (mm_T_r hT (by decide)) mm_T_0 ?_
            refine w_st rfl rfl rfl trivial ?_
            refine w_ia (e) rfl (mm_T_a hT (by decide)) (by first | rfl | assumption | (simp only [← nI_add, ← nI_mul]; rfl)) (by first | decide | omega) ?_
            rw [(h e (by omega)).1]
            refine w_st rfl rfl rfl trivial ?_
            refine w_v_ne rfl (fun c2 => ?_) (fun c2 => ?_)
            · rw [sp_if_f (fun z => z.elim c1 c2)] at e1
              refine w_st rfl rfl rfl trivial ?_
              refine w_gr (j := (t + 1 + 1)) rfl (mm_T_o hT) (mm_T_r hT (by decide)) mm_T_0 ?_
              refine w_st rfl rfl rfl trivial ?_
              refine w_ia (d) rfl (mm_T_a hT (by decide)) (by first | rfl | assumption | (simp only [← nI_add, ← nI_mul]; rfl)) (by first | decide | omega) ?_
              refine w_st rfl rfl rfl trivial ?_
              refine w_gr (j := (t + 1 + 1)) rfl (mm_T_o hT) (mm_T_r hT (by decide)) mm_T_0 ?_
              refine w_st rfl rfl rfl trivial ?_
              refine w_ia (e) rfl (mm_T_a hT (by decide)) (by first | rfl | assumption | (simp only [← nI_add, ← nI_mul]; rfl)) (by first | decide | omega) ?_
              refine w_ixor rfl ?_
              refine w_k11 (c_bitCount) rfl ⟨rfl, by decide, by decide, by decide, Or.inr (Or.inl ⟨_, rfl⟩)⟩ (Nat.le_of_ble_eq_true rfl) trivial (Nat.le_of_ble_eq_true rfl) ?_  -- calls 67 cJ6_bitCount_0f7a4
              rw [((h d hd).2 c1).1, ((h e (by omega)).2 c2).1]
              refine w_st rfl rfl rfl (Nat.le_of_ble_eq_true rfl) ?_
              refine w_st rfl rfl rfl trivial ?_
              refine w_st rfl rfl rfl trivial ?_
              refine w_v_eq rfl (fun c3 => ?_) (fun c3 => ?_)
              · rw [sp_if_t (Or.inl c3)] at e1
                refine w_st rfl rfl rfl trivial ?_
                refine w_st rfl rfl rfl (Nat.le_of_ble_eq_true rfl) ?_
                refine w_inc rfl rfl rfl (Nat.le_of_ble_eq_true rfl) (nI_1 _) ?_
                refine w_st rfl rfl rfl trivial ?_
                rw [e1] at ih2; exact ih2 (.int (sp_df (sp_row b s) b d e))
              · skip
                refine w_st rfl rfl rfl trivial ?_
                refine w_st rfl rfl rfl trivial ?_
                refine w_v_ge rfl (fun c4 => ?_) (fun c4 => ?_)
                · rw [sp_if_f (fun z => z.elim c3 (fun z => absurd c4 (Int32.not_le.2 z)))] at e1
                  refine w_inc rfl rfl rfl (Nat.le_of_ble_eq_true rfl) (nI_1 _) ?_
                  refine w_st rfl rfl rfl trivial ?_
                  rw [e1] at ih2; exact ih2 (.int (sp_df (sp_row b s) b d e))
                · rw [sp_if_t (Or.inr (show sp_df (sp_row b s) b d e < _ from Int32.not_le.1 c4))] at e1
                  refine w_st rfl rfl rfl trivial ?_
                  refine w_st rfl rfl rfl (Nat.le_of_ble_eq_true rfl) ?_
                  refine w_inc rfl rfl rfl (Nat.le_of_ble_eq_true rfl) (nI_1 _) ?_
                  refine w_st rfl rfl rfl trivial ?_
                  rw [e1] at ih2; exact ih2 (.int (sp_df (sp_row b s) b d e))
            · rw [sp_if_t (Or.inr c2)] at e1
              refine w_st rfl rfl rfl trivial ?_
              refine w_inc rfl rfl rfl (Nat.le_of_ble_eq_true rfl) (nI_1 _) ?_
              refine w_st rfl rfl rfl trivial ?_
              rw [e1] at ih2; exact ih2 v4
      exact K2 0 (Nat.zero_le _) v4
  exact K 0 (by decide) .null .null rfl
theorem c_digitsWith (hT : mm_T t) (h : sp_tt I t b s) : mm_M 22 4 [.ref t, .int (nI l)] g I (some (.int (nI (sp_dw (sp_row b s) l 10)))) I := by
  refine w_M ?_
  show mm_W 22 0 [.ref t, .int (nI l), .null, .null] [] _ _ _
  generalize hF : mm_EX _ _ _ = F
  refine w_st rfl rfl rfl trivial ?_
  refine w_st rfl rfl rfl (Nat.le_of_ble_eq_true rfl) ?_
  refine w_st rfl rfl rfl trivial ?_
  refine w_st rfl rfl rfl (Nat.le_of_ble_eq_true rfl) ?_
  refine mm_dn (P := fun j => mm_W 22 4 [.ref t, .int (nI l), .int (nI (sp_dw (sp_row b s) l j)), .int (nI j)] [] g I F) (10) ?_ ?_ 0 (by first | decide | omega)
  · try dsimp only
    refine w_st rfl rfl rfl trivial ?_
    refine w_st rfl rfl rfl trivial ?_
    refine w_n_ge (a := 10) (b := 10) rfl (by first | decide | omega) (by first | decide | omega) (by first | rfl | assumption | (simp only [← nI_add, ← nI_mul]; rfl)) (by first | rfl | assumption | (simp only [← nI_add, ← nI_mul]; rfl)) (fun _ => ?_) (fun c => by exfalso; omega)
    refine w_st rfl rfl rfl trivial ?_
    refine w_reti rfl ?_
    exact hF ▸ mm_EX_i (rfl)
  · intro j hj ih
    try dsimp only at ih ⊢
    have e : sp_dw (sp_row b s) l (j + 1) = sp_dw (sp_row b s) l j + sp_if (¬ sp_row b s j = -1 ∧ ¬ mm_SHP (3 * j + (sp_row b s j).toNatClampNeg) &&& sp_bit l = 0) 1 0 := rfl
    refine w_st rfl rfl rfl trivial ?_
    refine w_st rfl rfl rfl trivial ?_
    refine w_n_ge (a := j) (b := 10) rfl (by first | decide | omega) (by first | decide | omega) (by first | rfl | assumption | (simp only [← nI_add, ← nI_mul]; rfl)) (by first | rfl | assumption | (simp only [← nI_add, ← nI_mul]; rfl)) (fun c => by exfalso; omega) (fun _ => ?_)
    refine w_st rfl rfl rfl trivial ?_
    refine w_gr (j := (t + 1 + 0)) rfl (mm_T_o hT) (mm_T_r hT (by decide)) mm_T_0 ?_
    refine w_st rfl rfl rfl trivial ?_
    refine w_ia (j) rfl (mm_T_a hT (by decide)) (by first | rfl | assumption | (simp only [← nI_add, ← nI_mul]; rfl)) (by first | decide | omega) ?_
    rw [(h j hj).1]
    refine w_st rfl rfl rfl trivial ?_
    refine w_v_eq rfl (fun c => ?_) (fun c => ?_)
    · rw [sp_if_f (fun z => z.1 c)] at e
      refine w_inc rfl rfl rfl (Nat.le_of_ble_eq_true rfl) (nI_1 _) ?_
      refine w_st rfl rfl rfl trivial ?_
      rw [e] at ih; exact ih
    · skip
      refine w_st rfl rfl rfl trivial ?_
      refine w_st rfl rfl rfl trivial ?_
      refine w_gr (j := (t + 1 + 0)) rfl (mm_T_o hT) (mm_T_r hT (by decide)) mm_T_0 ?_
      refine w_st rfl rfl rfl trivial ?_
      refine w_ia (j) rfl (mm_T_a hT (by decide)) (by first | rfl | assumption | (simp only [← nI_add, ← nI_mul]; rfl)) (by first | decide | omega) ?_
      rw [(h j hj).1]
      obtain ⟨k, hk, hr⟩ := (sp_row_k (b := b) (s := s) hj).resolve_left c
      rw [hr] at e ⊢
      rw [nI_clamp (by omega)] at e
      refine w_k21 (c_lampsOf hj hk) rfl ⟨rfl, by decide, by decide, by decide, Or.inr (Or.inl ⟨_, rfl⟩)⟩ (Nat.le_of_ble_eq_true rfl) trivial (Nat.le_of_ble_eq_true rfl) ?_  -- calls 13 cX2_lampsOf
      refine w_st rfl rfl rfl trivial ?_
      refine w_k21 (c_has) rfl ⟨rfl, by decide, by decide, by decide, Or.inr (Or.inl ⟨_, rfl⟩)⟩ (Nat.le_of_ble_eq_true rfl) trivial (Nat.le_of_ble_eq_true rfl) ?_  -- calls 50 cX4_has
      refine w_b_eq rfl (fun c2 => ?_) (fun c2 => ?_)
      · rw [sp_if_f (fun z => c2 z.2)] at e
        refine w_inc rfl rfl rfl (Nat.le_of_ble_eq_true rfl) (nI_1 _) ?_
        refine w_st rfl rfl rfl trivial ?_
        rw [e] at ih; exact ih
      · rw [sp_if_t ⟨nI_ne1 (by omega), c2⟩] at e
        refine w_inc rfl rfl rfl (Nat.le_of_ble_eq_true rfl) (nI_1 _) ?_
        refine w_inc rfl rfl rfl (Nat.le_of_ble_eq_true rfl) (nI_1 _) ?_
        refine w_st rfl rfl rfl trivial ?_
        rw [e] at ih; exact ih
theorem c_changesFrom (hT : mm_T t) (hU : mm_T u) (h : sp_tt I t b s) (h' : sp_tt I u b' s') : mm_M 23 4 [.ref t, .ref u] g I (some (.int (nI (sp_cg (sp_row b s) (sp_row b' s') 10)))) I := by
  refine w_M ?_
  show mm_W 23 0 [.ref t, .ref u, .null, .null] [] _ _ _
  generalize hF : mm_EX _ _ _ = F
  refine w_st rfl rfl rfl trivial ?_
  refine w_st rfl rfl rfl (Nat.le_of_ble_eq_true rfl) ?_
  refine w_st rfl rfl rfl trivial ?_
  refine w_st rfl rfl rfl (Nat.le_of_ble_eq_true rfl) ?_
  refine mm_dn (P := fun j => mm_W 23 4 [.ref t, .ref u, .int (nI (sp_cg (sp_row b s) (sp_row b' s') j)), .int (nI j)] [] g I F) (10) ?_ ?_ 0 (by first | decide | omega)
  · try dsimp only
    refine w_st rfl rfl rfl trivial ?_
    refine w_st rfl rfl rfl trivial ?_
    refine w_n_ge (a := 10) (b := 10) rfl (by first | decide | omega) (by first | decide | omega) (by first | rfl | assumption | (simp only [← nI_add, ← nI_mul]; rfl)) (by first | rfl | assumption | (simp only [← nI_add, ← nI_mul]; rfl)) (fun _ => ?_) (fun c => by exfalso; omega)
    refine w_st rfl rfl rfl trivial ?_
    refine w_reti rfl ?_
    exact hF ▸ mm_EX_i (rfl)
  · intro j hj ih
    try dsimp only at ih ⊢
    have e : sp_cg (sp_row b s) (sp_row b' s') (j + 1) = sp_cg (sp_row b s) (sp_row b' s') j + sp_if (sp_row b s j = sp_row b' s' j) 0 1 := rfl
    refine w_st rfl rfl rfl trivial ?_
    refine w_st rfl rfl rfl trivial ?_
    refine w_n_ge (a := j) (b := 10) rfl (by first | decide | omega) (by first | decide | omega) (by first | rfl | assumption | (simp only [← nI_add, ← nI_mul]; rfl)) (by first | rfl | assumption | (simp only [← nI_add, ← nI_mul]; rfl)) (fun c => by exfalso; omega) (fun _ => ?_)
    refine w_st rfl rfl rfl trivial ?_
    refine w_st rfl rfl rfl trivial ?_
    refine w_gr (j := (t + 1 + 0)) rfl (mm_T_o hT) (mm_T_r hT (by decide)) mm_T_0 ?_
    refine w_st rfl rfl rfl trivial ?_
    refine w_ia (j) rfl (mm_T_a hT (by decide)) (by first | rfl | assumption | (simp only [← nI_add, ← nI_mul]; rfl)) (by first | decide | omega) ?_
    refine w_st rfl rfl rfl trivial ?_
    refine w_gr (j := (u + 1 + 0)) rfl (mm_T_o hU) (mm_T_r hU (by decide)) mm_T_0 ?_
    refine w_st rfl rfl rfl trivial ?_
    refine w_ia (j) rfl (mm_T_a hU (by decide)) (by first | rfl | assumption | (simp only [← nI_add, ← nI_mul]; rfl)) (by first | decide | omega) ?_
    rw [(h j hj).1, (h' j hj).1]
    refine w_v_ne rfl (fun c => ?_) (fun c => ?_)
    · rw [sp_if_f c] at e
      refine w_st rfl rfl rfl trivial ?_
      refine w_iadd rfl ?_
      refine w_hd (nI_1 _) ?_
      refine w_st rfl rfl rfl (Nat.le_of_ble_eq_true rfl) ?_
      refine w_inc rfl rfl rfl (Nat.le_of_ble_eq_true rfl) (nI_1 _) ?_
      refine w_st rfl rfl rfl trivial ?_
      rw [e] at ih; exact ih
    · rw [sp_if_t c] at e
      refine w_st rfl rfl rfl trivial ?_
      refine w_st rfl rfl rfl trivial ?_
      refine w_iadd rfl ?_
      refine w_hd (nI_add _ 0) ?_
      refine w_st rfl rfl rfl (Nat.le_of_ble_eq_true rfl) ?_
      refine w_inc rfl rfl rfl (Nat.le_of_ble_eq_true rfl) (nI_1 _) ?_
      refine w_st rfl rfl rfl trivial ?_
      rw [e] at ih; exact ih
theorem c_nearestTo (hT : mm_T t) (h : sp_tt I t b s) : mm_M 24 6 [.ref t, .int L] g I (some (.int (sp_nr (sp_row b s) b L 10).1)) I := by
  refine w_M ?_
  show mm_W 24 0 [.ref t, .int L, .null, .null, .null, .null] [] _ _ _
  generalize hF : mm_EX _ _ _ = F
  refine w_st rfl rfl rfl trivial ?_
  refine w_st rfl rfl rfl (Nat.le_of_ble_eq_true rfl) ?_
  refine w_st rfl rfl rfl trivial ?_
  refine w_st rfl rfl rfl (Nat.le_of_ble_eq_true rfl) ?_
  refine w_st rfl rfl rfl trivial ?_
  refine w_st rfl rfl rfl (Nat.le_of_ble_eq_true rfl) ?_
  have K : ∀ j, j ≤ 10 → ∀ v, mm_W 24 8 [.ref t, .int L, .int (sp_nr (sp_row b s) b L j).1, .int (sp_nr (sp_row b s) b L j).2, .int (nI j), v] [] g I F := by
    refine mm_dn 10 ?_ ?_
    · intro v
      refine w_st rfl rfl rfl trivial ?_
      refine w_st rfl rfl rfl trivial ?_
      refine w_n_ge (a := 10) (b := 10) rfl (by first | decide | omega) (by first | decide | omega) (by first | rfl | assumption | (simp only [← nI_add, ← nI_mul]; rfl)) (by first | rfl | assumption | (simp only [← nI_add, ← nI_mul]; rfl)) (fun _ => ?_) (fun c => by exfalso; omega)
      refine w_st rfl rfl rfl trivial ?_
      refine w_reti rfl ?_
      exact hF ▸ mm_EX_i (rfl)
    · intro j hj ih v
      have e : sp_nr (sp_row b s) b L (j + 1) = sp_if (sp_row b s j = -1) (sp_nr (sp_row b s) b L j) (sp_if (sp_pop (L ^^^ sp_sh b j (sp_row b s j)) < (sp_nr (sp_row b s) b L j).2) (nI j, sp_pop (L ^^^ sp_sh b j (sp_row b s j))) (sp_if (sp_pop (L ^^^ sp_sh b j (sp_row b s j)) = (sp_nr (sp_row b s) b L j).2) (-1, (sp_nr (sp_row b s) b L j).2) (sp_nr (sp_row b s) b L j))) := rfl
      refine w_st rfl rfl rfl trivial ?_
      refine w_st rfl rfl rfl trivial ?_
      refine w_n_ge (a := j) (b := 10) rfl (by first | decide | omega) (by first | decide | omega) (by first | rfl | assumption | (simp only [← nI_add, ← nI_mul]; rfl)) (by first | rfl | assumption | (simp only [← nI_add, ← nI_mul]; rfl)) (fun c => by exfalso; omega) (fun _ => ?_)
      refine w_st rfl rfl rfl trivial ?_
      refine w_gr (j := (t + 1 + 0)) rfl (mm_T_o hT) (mm_T_r hT (by decide)) mm_T_0 ?_
      refine w_st rfl rfl rfl trivial ?_
      refine w_ia (j) rfl (mm_T_a hT (by decide)) (by first | rfl | assumption | (simp only [← nI_add, ← nI_mul]; rfl)) (by first | decide | omega) ?_
      rw [(h j hj).1]
      refine w_st rfl rfl rfl trivial ?_
      refine w_v_ne rfl (fun c1 => ?_) (fun c1 => ?_)
      · rw [sp_if_f c1] at e
        refine w_st rfl rfl rfl trivial ?_
        refine w_st rfl rfl rfl trivial ?_
        refine w_gr (j := (t + 1 + 1)) rfl (mm_T_o hT) (mm_T_r hT (by decide)) mm_T_0 ?_
        refine w_st rfl rfl rfl trivial ?_
        refine w_ia (j) rfl (mm_T_a hT (by decide)) (by first | rfl | assumption | (simp only [← nI_add, ← nI_mul]; rfl)) (by first | decide | omega) ?_
        refine w_ixor rfl ?_
        refine w_k11 (c_bitCount) rfl ⟨rfl, by decide, by decide, by decide, Or.inr (Or.inl ⟨_, rfl⟩)⟩ (Nat.le_of_ble_eq_true rfl) trivial (Nat.le_of_ble_eq_true rfl) ?_  -- calls 67 cJ6_bitCount_0f7a4
        rw [((h j hj).2 c1).1]
        refine w_st rfl rfl rfl (Nat.le_of_ble_eq_true rfl) ?_
        refine w_st rfl rfl rfl trivial ?_
        refine w_st rfl rfl rfl trivial ?_
        refine w_v_ge rfl (fun c2 => ?_) (fun c2 => ?_)
        · rw [sp_if_f (Int32.not_lt.2 c2)] at e
          refine w_st rfl rfl rfl trivial ?_
          refine w_st rfl rfl rfl trivial ?_
          refine w_v_ne rfl (fun c3 => ?_) (fun c3 => ?_)
          · rw [sp_if_f c3] at e
            rw [e] at ih
            refine w_inc rfl rfl rfl (Nat.le_of_ble_eq_true rfl) (nI_1 _) ?_
            refine w_st rfl rfl rfl trivial ?_
            exact ih _
          · rw [sp_if_t c3] at e
            rw [e] at ih
            refine w_st rfl rfl rfl trivial ?_
            refine w_st rfl rfl rfl (Nat.le_of_ble_eq_true rfl) ?_
            refine w_inc rfl rfl rfl (Nat.le_of_ble_eq_true rfl) (nI_1 _) ?_
            refine w_st rfl rfl rfl trivial ?_
            exact ih _
        · rw [sp_if_t (Int32.not_le.1 c2)] at e
          rw [e] at ih
          refine w_st rfl rfl rfl trivial ?_
          refine w_st rfl rfl rfl (Nat.le_of_ble_eq_true rfl) ?_
          refine w_st rfl rfl rfl trivial ?_
          refine w_st rfl rfl rfl (Nat.le_of_ble_eq_true rfl) ?_
          refine w_st rfl rfl rfl trivial ?_
          refine w_inc rfl rfl rfl (Nat.le_of_ble_eq_true rfl) (nI_1 _) ?_
          refine w_st rfl rfl rfl trivial ?_
          exact ih _
      · rw [sp_if_t c1] at e
        rw [e] at ih
        refine w_st rfl rfl rfl trivial ?_
        refine w_inc rfl rfl rfl (Nat.le_of_ble_eq_true rfl) (nI_1 _) ?_
        refine w_st rfl rfl rfl trivial ?_
        exact ih _
  exact K 0 (by decide) .null
end SM
end
section
/-! the reference's own way to the table -/
theorem sp_b15_sh {b : Int32} {d k : Nat} (hd : d < 10) (hk : k < 3) : sp_b15 (sp_sh b d (nI k)) := by
  rw [sp_sh_n hk]
  exact sp_b15_and (sp_b15_S _ (by omega)) _
theorem sp_ci_none {r : Nat → Int32} {b : Int32} {d : Nat} {a : Int32} (h : r d = -1) (n : Nat) : sp_ci r b d a n = a := by
  induction n with
  | zero => rfl
  | succ n ih =>
    show sp_cs r b d n (sp_ci r b d a n) = a
    unfold sp_cs
    rw [sp_if_t (Or.inl h), ih]
section SM
variable {g : mm_Gg} {I : mm_Is} {x y z b s L b' s' : Int32} {l d k t u p : Nat}
end SM
end
section
/-! what the class tells of a state -/
abbrev sp_St : Type := Nat → Int32
/-- board b holds the state s -/
def sp_bd (I : mm_Is) (b : Nat) (σ : sp_St) : Prop := (∀ f, f < 4 → I (b + 1 + 0) f = σ (4 + f)) ∧ (∀ f, f < 4 → I (b + 1 + 1) f = σ (8 + f)) ∧ (∀ j, j < 60 → I (b + 1 + 2) j = σ (12 + j)) ∧ (∀ k, k < 2 → I (b + 1 + 3) k = σ (1 + k)) ∧ I b 4 = σ 0 ∧ I b 5 = σ 3
/-- the class's board and its four tables -/
def sp_D (I : mm_Is) (σ : sp_St) : Prop := sp_bd I 1 σ ∧ ∀ f, f < 4 → sp_tt I (45 + 4 * f) (σ (8 + f)) (σ 1)
noncomputable def sp_R (σ : sp_St) (f : Nat) : Nat → Int32 := sp_row (σ (8 + f)) (σ 1)
def sp_vis (σ : sp_St) (f : Nat) : Prop := sp_can (sp_R σ f) (σ (4 + f))
noncomputable def sp_lit (σ : sp_St) (f : Nat) : Int32 := sp_if (sp_vis σ f) (sp_sh (σ (8 + f)) (σ (4 + f)).toNatClampNeg (sp_R σ f (σ (4 + f)).toNatClampNeg)) 0
theorem sp_lit_b {σ : sp_St} {f : Nat} : sp_b15 (sp_lit σ f) := by
  unfold sp_lit
  by_cases c : sp_vis σ f
  · rw [sp_if_t c]
    obtain ⟨d, hd, h1, h2⟩ := c
    rw [h1, nI_clamp (by omega)]
    obtain ⟨k, hk, hr⟩ := (sp_row_k (b := σ (8 + f)) (s := σ 1) hd).resolve_left h2
    rw [show sp_R σ f d = nI k from hr]
    exact sp_b15_sh hd hk
  · rw [sp_if_f c]; exact sp_b15_0
def sp_bl (σ : sp_St) : Nat → Int32
  | 0 => 0
  | n + 1 => sp_bl σ n + sp_pop (σ (8 + n))
noncomputable def sp_ll (σ : sp_St) : Nat → Int32
  | 0 => 0
  | n + 1 => sp_ll σ n + sp_pop (sp_lit σ n)
noncomputable def sp_wd (σ : sp_St) : Nat → Nat
  | 0 => 0
  | n + 1 => sp_wd σ n + sp_if (σ (4 + n) = -1) 0 1
noncomputable def sp_fs (σ : sp_St) : Nat → Nat
  | 0 => 0
  | n + 1 => sp_fs σ n + sp_if (sp_vis σ n) 1 0
noncomputable def sp_ns (σ : sp_St) : Nat → Int32 → Int32
  | 0, a => a
  | j + 1, a => sp_if (sp_vis σ (3 - j)) (sp_ns σ j (sp_if (a = -1) (σ (4 + (3 - j))) (10 * a + σ (4 + (3 - j))))) (sp_if (¬ σ (4 + (3 - j)) = -1 ∨ ¬ a = -1) (-1) (sp_ns σ j a))
def sp_wn (σ : sp_St) (f l : Nat) : Prop := 0 < 100 * σ 2 ∧ 100 * σ 2 ≤ σ (12 + (15 * f + l))
noncomputable def sp_hu (σ : sp_St) (f l : Nat) : Int32 := sp_if (σ 2 = 0 ∨ ¬ σ (8 + f) &&& sp_bit l = 0) (-1) (sp_if (sp_wn σ f l) 1 (sp_if (¬ sp_lit σ f &&& sp_bit l = 0) (100 * σ 2 - σ (12 + (15 * f + l))) (-1)))
noncomputable def sp_n1 (a h : Int32) : Int32 := sp_if (¬ h = -1 ∧ (a = -1 ∨ h < a)) h a
noncomputable def sp_n2 (σ : sp_St) (f : Nat) (a : Int32) : Nat → Int32
  | 0 => a
  | l + 1 => sp_n1 (sp_n2 σ f a l) (sp_hu σ f l)
noncomputable def sp_nb (σ : sp_St) : Nat → Int32
  | 0 => -1
  | f + 1 => sp_n2 σ f (sp_nb σ f) 15
noncomputable def sp_ct (σ : sp_St) : Nat → Nat
  | 0 => 0
  | n + 1 => sp_ct σ n + (10 - sp_no (sp_R σ n) 10)
section SM
variable {g : mm_Gg} {I : mm_Is} {x y z : Int32} {l d k t u f : Nat} {σ : sp_St}
theorem sp_Dd (h : sp_D I σ) (hf : f < 4) : I 2 f = σ (4 + f) := h.1.1 f hf
theorem sp_Db (h : sp_D I σ) (hf : f < 4) : I 3 f = σ (8 + f) := h.1.2.1 f hf
theorem sp_Dh (h : sp_D I σ) (hf : f < 60) : I 4 f = σ (12 + f) := h.1.2.2.1 f hf
theorem sp_Ds (h : sp_D I σ) (hf : f < 2) : I 5 f = σ (1 + f) := h.1.2.2.2.1 f hf
theorem c_isShown (h : sp_D I σ) (hf : f < 4) : mm_M 60 2 [.ref 0, .int (nI f)] g I (some (.int (mm_bi (sp_vis σ f)))) I := by
  have hT : mm_T (45 + 4 * f) := mm_T_f hf
  refine w_M ?_
  show mm_W 60 0 [.ref 0, .int (nI f)] [] _ _ _
  generalize hF : mm_EX _ _ _ = F
  refine w_st rfl rfl rfl trivial ?_
  refine w_gr (j := 6) rfl (mm_foc rfl) rfl (by decide) ?_
  refine w_st rfl rfl rfl trivial ?_
  refine w_ra (j := 45 + 4 * (f)) (f) rfl (Or.inl (mm_fac (n := 4) rfl)) (by first | rfl | assumption | (simp only [← nI_add, ← nI_mul]; rfl)) (by first | decide | omega) (mm_T_6 (by omega)) (by omega) ?_
  refine w_st rfl rfl rfl trivial ?_
  refine w_gr (j := 1) rfl (mm_foc rfl) rfl (by decide) ?_
  refine w_gr (j := 2) rfl (mm_foc rfl) rfl (by decide) ?_
  refine w_st rfl rfl rfl trivial ?_
  refine w_ia (f) rfl (mm_fac (n := 4) rfl) (by first | rfl | assumption | (simp only [← nI_add, ← nI_mul]; rfl)) (by first | decide | omega) ?_
  rw [sp_Dd h hf]
  refine w_k21 (c_canShow hT (h.2 f hf)) rfl ⟨rfl, by decide, by decide, by decide, Or.inl ⟨_, rfl⟩⟩ (Nat.le_of_ble_eq_true rfl) (mm_T_o hT) (Nat.le_of_ble_eq_true rfl) ?_  -- calls 14 cX2_canShow
  refine w_retz rfl (by first | exact Or.inl rfl | exact Or.inr rfl | exact mm_bi_01 _ | assumption) ?_
  exact hF ▸ mm_EX_i (rfl)
theorem c_litOf (h : sp_D I σ) (hf : f < 4) : mm_M 61 2 [.ref 0, .int (nI f)] g I (some (.int (sp_lit σ f))) I := by
  have hT : mm_T (45 + 4 * f) := mm_T_f hf
  refine w_M ?_
  show mm_W 61 0 [.ref 0, .int (nI f)] [] _ _ _
  generalize hF : mm_EX _ _ _ = F
  refine w_st rfl rfl rfl trivial ?_
  refine w_st rfl rfl rfl trivial ?_
  refine w_k21 (c_isShown h hf) rfl ⟨rfl, by decide, by decide, by decide, Or.inl ⟨_, rfl⟩⟩ (Nat.le_of_ble_eq_true rfl) (mm_foc rfl) (Nat.le_of_ble_eq_true rfl) ?_  -- calls 60 cX4_isShown
  refine w_b_eq rfl (fun c => ?_) (fun c => ?_)
  · skip
    refine w_st rfl rfl rfl trivial ?_
    refine w_reti rfl ?_
    exact hF ▸ mm_EX_i ((sp_if_f c _ _).symm)
  · skip
    refine w_st rfl rfl rfl trivial ?_
    refine w_gr (j := 6) rfl (mm_foc rfl) rfl (by decide) ?_
    refine w_st rfl rfl rfl trivial ?_
    refine w_ra (j := 45 + 4 * (f)) (f) rfl (Or.inl (mm_fac (n := 4) rfl)) (by first | rfl | assumption | (simp only [← nI_add, ← nI_mul]; rfl)) (by first | decide | omega) (mm_T_6 (by omega)) (by omega) ?_
    refine w_st rfl rfl rfl trivial ?_
    refine w_gr (j := 1) rfl (mm_foc rfl) rfl (by decide) ?_
    refine w_gr (j := 2) rfl (mm_foc rfl) rfl (by decide) ?_
    refine w_st rfl rfl rfl trivial ?_
    refine w_ia (f) rfl (mm_fac (n := 4) rfl) (by first | rfl | assumption | (simp only [← nI_add, ← nI_mul]; rfl)) (by first | decide | omega) ?_
    rw [sp_Dd h hf]
    refine w_k21 (c_shownOf hT (h.2 f hf)) rfl ⟨rfl, by decide, by decide, by decide, Or.inl ⟨_, rfl⟩⟩ (Nat.le_of_ble_eq_true rfl) (mm_T_o hT) (Nat.le_of_ble_eq_true rfl) ?_  -- calls 16 cX2_shownOf
    refine w_st rfl rfl rfl trivial ?_
    refine w_reti rfl ?_
    exact hF ▸ mm_EX_i (by unfold sp_lit; rw [sp_if_t c]; exact sp_if_t c _ _)
theorem c_burntLamps (h : sp_D I σ) : mm_M 62 3 [.ref 0] g I (some (.int (sp_bl σ 4))) I := by
  refine w_M ?_
  show mm_W 62 0 [.ref 0, .null, .null] [] _ _ _
  generalize hF : mm_EX _ _ _ = F
  refine w_st rfl rfl rfl trivial ?_
  refine w_st rfl rfl rfl (Nat.le_of_ble_eq_true rfl) ?_
  refine w_st rfl rfl rfl trivial ?_
  refine w_st rfl rfl rfl (Nat.le_of_ble_eq_true rfl) ?_
  refine mm_dn (P := fun j => mm_W 62 4 [.ref 0, .int (sp_bl σ j), .int (nI j)] [] g I F) (4) ?_ ?_ 0 (by first | decide | omega)
  · try dsimp only
    refine w_st rfl rfl rfl trivial ?_
    refine w_st rfl rfl rfl trivial ?_
    refine w_n_ge (a := 4) (b := 4) rfl (by first | decide | omega) (by first | decide | omega) (by first | rfl | assumption | (simp only [← nI_add, ← nI_mul]; rfl)) (by first | rfl | assumption | (simp only [← nI_add, ← nI_mul]; rfl)) (fun _ => ?_) (fun c => by exfalso; omega)
    refine w_st rfl rfl rfl trivial ?_
    refine w_reti rfl ?_
    exact hF ▸ mm_EX_i (rfl)
  · intro j hj ih
    try dsimp only at ih ⊢
    refine w_st rfl rfl rfl trivial ?_
    refine w_st rfl rfl rfl trivial ?_
    refine w_n_ge (a := j) (b := 4) rfl (by first | decide | omega) (by first | decide | omega) (by first | rfl | assumption | (simp only [← nI_add, ← nI_mul]; rfl)) (by first | rfl | assumption | (simp only [← nI_add, ← nI_mul]; rfl)) (fun c => by exfalso; omega) (fun _ => ?_)
    refine w_st rfl rfl rfl trivial ?_
    refine w_st rfl rfl rfl trivial ?_
    refine w_gr (j := 1) rfl (mm_foc rfl) rfl (by decide) ?_
    refine w_gr (j := 3) rfl (mm_foc rfl) rfl (by decide) ?_
    refine w_st rfl rfl rfl trivial ?_
    refine w_ia (j) rfl (mm_fac (n := 4) rfl) (by first | rfl | assumption | (simp only [← nI_add, ← nI_mul]; rfl)) (by first | decide | omega) ?_
    rw [sp_Db h hj]
    refine w_k11 (c_bitCount) rfl ⟨rfl, by decide, by decide, by decide, Or.inr (Or.inl ⟨_, rfl⟩)⟩ (Nat.le_of_ble_eq_true rfl) trivial (Nat.le_of_ble_eq_true rfl) ?_  -- calls 67 cJ6_bitCount_0f7a4
    refine w_iadd rfl ?_
    refine w_st rfl rfl rfl (Nat.le_of_ble_eq_true rfl) ?_
    refine w_inc rfl rfl rfl (Nat.le_of_ble_eq_true rfl) (nI_1 _) ?_
    refine w_st rfl rfl rfl trivial ?_
    exact ih
theorem c_litLamps (h : sp_D I σ) : mm_M 63 3 [.ref 0] g I (some (.int (sp_ll σ 4))) I := by
  refine w_M ?_
  show mm_W 63 0 [.ref 0, .null, .null] [] _ _ _
  generalize hF : mm_EX _ _ _ = F
  refine w_st rfl rfl rfl trivial ?_
  refine w_st rfl rfl rfl (Nat.le_of_ble_eq_true rfl) ?_
  refine w_st rfl rfl rfl trivial ?_
  refine w_st rfl rfl rfl (Nat.le_of_ble_eq_true rfl) ?_
  refine mm_dn (P := fun j => mm_W 63 4 [.ref 0, .int (sp_ll σ j), .int (nI j)] [] g I F) (4) ?_ ?_ 0 (by first | decide | omega)
  · try dsimp only
    refine w_st rfl rfl rfl trivial ?_
    refine w_st rfl rfl rfl trivial ?_
    refine w_n_ge (a := 4) (b := 4) rfl (by first | decide | omega) (by first | decide | omega) (by first | rfl | assumption | (simp only [← nI_add, ← nI_mul]; rfl)) (by first | rfl | assumption | (simp only [← nI_add, ← nI_mul]; rfl)) (fun _ => ?_) (fun c => by exfalso; omega)
    refine w_st rfl rfl rfl trivial ?_
    refine w_reti rfl ?_
    exact hF ▸ mm_EX_i (rfl)
  · intro j hj ih
    try dsimp only at ih ⊢
    refine w_st rfl rfl rfl trivial ?_
    refine w_st rfl rfl rfl trivial ?_
    refine w_n_ge (a := j) (b := 4) rfl (by first | decide | omega) (by first | decide | omega) (by first | rfl | assumption | (simp only [← nI_add, ← nI_mul]; rfl)) (by first | rfl | assumption | (simp only [← nI_add, ← nI_mul]; rfl)) (fun c => by exfalso; omega) (fun _ => ?_)
    refine w_st rfl rfl rfl trivial ?_
    refine w_st rfl rfl rfl trivial ?_
    refine w_st rfl rfl rfl trivial ?_
    refine w_k21 (c_litOf h hj) rfl ⟨rfl, by decide, by decide, by decide, Or.inl ⟨_, rfl⟩⟩ (Nat.le_of_ble_eq_true rfl) (mm_foc rfl) (Nat.le_of_ble_eq_true rfl) ?_  -- calls 61 cX4_litOf
    refine w_k11 (c_bitCount) rfl ⟨rfl, by decide, by decide, by decide, Or.inr (Or.inl ⟨_, rfl⟩)⟩ (Nat.le_of_ble_eq_true rfl) trivial (Nat.le_of_ble_eq_true rfl) ?_  -- calls 67 cJ6_bitCount_0f7a4
    refine w_iadd rfl ?_
    refine w_st rfl rfl rfl (Nat.le_of_ble_eq_true rfl) ?_
    refine w_inc rfl rfl rfl (Nat.le_of_ble_eq_true rfl) (nI_1 _) ?_
    refine w_st rfl rfl rfl trivial ?_
    exact ih
theorem c_fieldsWithDigit (h : sp_D I σ) : mm_M 64 3 [.ref 0] g I (some (.int (nI (sp_wd σ 4)))) I := by
  refine w_M ?_
  show mm_W 64 0 [.ref 0, .null, .null] [] _ _ _
  generalize hF : mm_EX _ _ _ = F
  refine w_st rfl rfl rfl trivial ?_
  refine w_st rfl rfl rfl (Nat.le_of_ble_eq_true rfl) ?_
  refine w_st rfl rfl rfl trivial ?_
  refine w_st rfl rfl rfl (Nat.le_of_ble_eq_true rfl) ?_
  refine mm_dn (P := fun j => mm_W 64 4 [.ref 0, .int (nI (sp_wd σ j)), .int (nI j)] [] g I F) (4) ?_ ?_ 0 (by first | decide | omega)
  · try dsimp only
    refine w_st rfl rfl rfl trivial ?_
    refine w_st rfl rfl rfl trivial ?_
    refine w_n_ge (a := 4) (b := 4) rfl (by first | decide | omega) (by first | decide | omega) (by first | rfl | assumption | (simp only [← nI_add, ← nI_mul]; rfl)) (by first | rfl | assumption | (simp only [← nI_add, ← nI_mul]; rfl)) (fun _ => ?_) (fun c => by exfalso; omega)
    refine w_st rfl rfl rfl trivial ?_
    refine w_reti rfl ?_
    exact hF ▸ mm_EX_i (rfl)
  · intro j hj ih
    try dsimp only at ih ⊢
    have e : sp_wd σ (j + 1) = sp_wd σ j + sp_if (σ (4 + j) = -1) 0 1 := rfl
    refine w_st rfl rfl rfl trivial ?_
    refine w_st rfl rfl rfl trivial ?_
    refine w_n_ge (a := j) (b := 4) rfl (by first | decide | omega) (by first | decide | omega) (by first | rfl | assumption | (simp only [← nI_add, ← nI_mul]; rfl)) (by first | rfl | assumption | (simp only [← nI_add, ← nI_mul]; rfl)) (fun c => by exfalso; omega) (fun _ => ?_)
    refine w_st rfl rfl rfl trivial ?_
    refine w_st rfl rfl rfl trivial ?_
    refine w_gr (j := 1) rfl (mm_foc rfl) rfl (by decide) ?_
    refine w_gr (j := 2) rfl (mm_foc rfl) rfl (by decide) ?_
    refine w_st rfl rfl rfl trivial ?_
    refine w_ia (j) rfl (mm_fac (n := 4) rfl) (by first | rfl | assumption | (simp only [← nI_add, ← nI_mul]; rfl)) (by first | decide | omega) ?_
    rw [sp_Dd h hj]
    refine w_st rfl rfl rfl trivial ?_
    refine w_v_ne rfl (fun c => ?_) (fun c => ?_)
    · rw [sp_if_f c] at e
      refine w_st rfl rfl rfl trivial ?_
      refine w_iadd rfl ?_
      refine w_hd (nI_1 _) ?_
      refine w_st rfl rfl rfl (Nat.le_of_ble_eq_true rfl) ?_
      refine w_inc rfl rfl rfl (Nat.le_of_ble_eq_true rfl) (nI_1 _) ?_
      refine w_st rfl rfl rfl trivial ?_
      rw [e] at ih; exact ih
    · rw [sp_if_t c] at e
      refine w_st rfl rfl rfl trivial ?_
      refine w_st rfl rfl rfl trivial ?_
      refine w_iadd rfl ?_
      refine w_hd (nI_add _ 0) ?_
      refine w_st rfl rfl rfl (Nat.le_of_ble_eq_true rfl) ?_
      refine w_inc rfl rfl rfl (Nat.le_of_ble_eq_true rfl) (nI_1 _) ?_
      refine w_st rfl rfl rfl trivial ?_
      rw [e] at ih; exact ih
theorem c_fieldsShown (h : sp_D I σ) : mm_M 65 3 [.ref 0] g I (some (.int (nI (sp_fs σ 4)))) I := by
  refine w_M ?_
  show mm_W 65 0 [.ref 0, .null, .null] [] _ _ _
  generalize hF : mm_EX _ _ _ = F
  refine w_st rfl rfl rfl trivial ?_
  refine w_st rfl rfl rfl (Nat.le_of_ble_eq_true rfl) ?_
  refine w_st rfl rfl rfl trivial ?_
  refine w_st rfl rfl rfl (Nat.le_of_ble_eq_true rfl) ?_
  refine mm_dn (P := fun j => mm_W 65 4 [.ref 0, .int (nI (sp_fs σ j)), .int (nI j)] [] g I F) (4) ?_ ?_ 0 (by first | decide | omega)
  · try dsimp only
    refine w_st rfl rfl rfl trivial ?_
    refine w_st rfl rfl rfl trivial ?_
    refine w_n_ge (a := 4) (b := 4) rfl (by first | decide | omega) (by first | decide | omega) (by first | rfl | assumption | (simp only [← nI_add, ← nI_mul]; rfl)) (by first | rfl | assumption | (simp only [← nI_add, ← nI_mul]; rfl)) (fun _ => ?_) (fun c => by exfalso; omega)
    refine w_st rfl rfl rfl trivial ?_
    refine w_reti rfl ?_
    exact hF ▸ mm_EX_i (rfl)
  · intro j hj ih
    try dsimp only at ih ⊢
    have e : sp_fs σ (j + 1) = sp_fs σ j + sp_if (sp_vis σ j) 1 0 := rfl
    refine w_st rfl rfl rfl trivial ?_
    refine w_st rfl rfl rfl trivial ?_
    refine w_n_ge (a := j) (b := 4) rfl (by first | decide | omega) (by first | decide | omega) (by first | rfl | assumption | (simp only [← nI_add, ← nI_mul]; rfl)) (by first | rfl | assumption | (simp only [← nI_add, ← nI_mul]; rfl)) (fun c => by exfalso; omega) (fun _ => ?_)
    refine w_st rfl rfl rfl trivial ?_
    refine w_st rfl rfl rfl trivial ?_
    refine w_st rfl rfl rfl trivial ?_
    refine w_k21 (c_isShown h hj) rfl ⟨rfl, by decide, by decide, by decide, Or.inl ⟨_, rfl⟩⟩ (Nat.le_of_ble_eq_true rfl) (mm_foc rfl) (Nat.le_of_ble_eq_true rfl) ?_  -- calls 60 cX4_isShown
    refine w_b_eq rfl (fun c => ?_) (fun c => ?_)
    · rw [sp_if_f c] at e
      refine w_st rfl rfl rfl trivial ?_
      refine w_iadd rfl ?_
      refine w_hd (nI_add _ 0) ?_
      refine w_st rfl rfl rfl (Nat.le_of_ble_eq_true rfl) ?_
      refine w_inc rfl rfl rfl (Nat.le_of_ble_eq_true rfl) (nI_1 _) ?_
      refine w_st rfl rfl rfl trivial ?_
      rw [e] at ih; exact ih
    · rw [sp_if_t c] at e
      refine w_st rfl rfl rfl trivial ?_
      refine w_st rfl rfl rfl trivial ?_
      refine w_iadd rfl ?_
      refine w_hd (nI_1 _) ?_
      refine w_st rfl rfl rfl (Nat.le_of_ble_eq_true rfl) ?_
      refine w_inc rfl rfl rfl (Nat.le_of_ble_eq_true rfl) (nI_1 _) ?_
      refine w_st rfl rfl rfl trivial ?_
      rw [e] at ih; exact ih
theorem c_numberShown (h : sp_D I σ) : mm_M 66 3 [.ref 0] g I (some (.int (sp_ns σ 4 (-1)))) I := by
  refine w_M ?_
  show mm_W 66 0 [.ref 0, .null, .null] [] _ _ _
  generalize hF : mm_EX _ _ _ = F
  refine w_st rfl rfl rfl trivial ?_
  refine w_st rfl rfl rfl (Nat.le_of_ble_eq_true rfl) ?_
  refine w_st rfl rfl rfl trivial ?_
  refine w_st rfl rfl rfl (Nat.le_of_ble_eq_true rfl) ?_
  have K : ∀ j, j ≤ 4 → ∀ a, sp_ns σ 4 (-1) = sp_ns σ (4 - j) a → mm_W 66 4 [.ref 0, .int a, .int (nI j)] [] g I F := by
    refine mm_dn 4 ?_ ?_
    · intro a e
      refine w_st rfl rfl rfl trivial ?_
      refine w_st rfl rfl rfl trivial ?_
      refine w_n_ge (a := 4) (b := 4) rfl (by first | decide | omega) (by first | decide | omega) (by first | rfl | assumption | (simp only [← nI_add, ← nI_mul]; rfl)) (by first | rfl | assumption | (simp only [← nI_add, ← nI_mul]; rfl)) (fun _ => ?_) (fun c => by exfalso; omega)
      refine w_st rfl rfl rfl trivial ?_
      refine w_reti rfl ?_
      exact hF ▸ mm_EX_i (e.symm)
    · intro j hj ih a e
      have e1 : sp_ns σ (4 - j) a = sp_if (sp_vis σ j) (sp_ns σ (4 - (j + 1)) (sp_if (a = -1) (σ (4 + j)) (10 * a + σ (4 + j)))) (sp_if (¬ σ (4 + j) = -1 ∨ ¬ a = -1) (-1) (sp_ns σ (4 - (j + 1)) a)) := by
        obtain ⟨i, hi⟩ : ∃ i, 4 - j = i + 1 := ⟨3 - j, by omega⟩
        have h1 : 3 - i = j := by omega
        have h2 : 4 - (j + 1) = i := by omega
        rw [hi, h2]
        show sp_if (sp_vis σ (3 - i)) _ _ = _
        rw [h1]
      refine w_st rfl rfl rfl trivial ?_
      refine w_st rfl rfl rfl trivial ?_
      refine w_n_ge (a := j) (b := 4) rfl (by first | decide | omega) (by first | decide | omega) (by first | rfl | assumption | (simp only [← nI_add, ← nI_mul]; rfl)) (by first | rfl | assumption | (simp only [← nI_add, ← nI_mul]; rfl)) (fun c => by exfalso; omega) (fun _ => ?_)
      refine w_st rfl rfl rfl trivial ?_
      refine w_st rfl rfl rfl trivial ?_
      refine w_k21 (c_isShown h hj) rfl ⟨rfl, by decide, by decide, by decide, Or.inl ⟨_, rfl⟩⟩ (Nat.le_of_ble_eq_true rfl) (mm_foc rfl) (Nat.le_of_ble_eq_true rfl) ?_  -- calls 60 cX4_isShown
      refine w_b_eq rfl (fun c => ?_) (fun c => ?_)
      · rw [sp_if_f c] at e1
        refine w_st rfl rfl rfl trivial ?_
        refine w_gr (j := 1) rfl (mm_foc rfl) rfl (by decide) ?_
        refine w_gr (j := 2) rfl (mm_foc rfl) rfl (by decide) ?_
        refine w_st rfl rfl rfl trivial ?_
        refine w_ia (j) rfl (mm_fac (n := 4) rfl) (by first | rfl | assumption | (simp only [← nI_add, ← nI_mul]; rfl)) (by first | decide | omega) ?_
        rw [sp_Dd h hj]
        refine w_st rfl rfl rfl trivial ?_
        refine w_v_ne rfl (fun c2 => ?_) (fun c2 => ?_)
        · rw [sp_if_t (Or.inl c2)] at e1
          refine w_st rfl rfl rfl trivial ?_
          refine w_reti rfl ?_
          exact hF ▸ mm_EX_i ((e.trans e1).symm)
        · skip
          refine w_st rfl rfl rfl trivial ?_
          refine w_st rfl rfl rfl trivial ?_
          refine w_v_eq rfl (fun c3 => ?_) (fun c3 => ?_)
          · rw [sp_if_f (fun z => z.elim (fun z => z c2) (fun z => z c3))] at e1
            refine w_inc rfl rfl rfl (Nat.le_of_ble_eq_true rfl) (nI_1 _) ?_
            refine w_st rfl rfl rfl trivial ?_
            exact ih a (e.trans e1)
          · rw [sp_if_t (Or.inr c3)] at e1
            refine w_st rfl rfl rfl trivial ?_
            refine w_reti rfl ?_
            exact hF ▸ mm_EX_i ((e.trans e1).symm)
      · rw [sp_if_t c] at e1
        refine w_st rfl rfl rfl trivial ?_
        refine w_st rfl rfl rfl trivial ?_
        refine w_v_ne rfl (fun c2 => ?_) (fun c2 => ?_)
        · rw [sp_if_f c2] at e1
          refine w_st rfl rfl rfl trivial ?_
          refine w_st rfl rfl rfl trivial ?_
          refine w_imul rfl ?_
          refine w_st rfl rfl rfl trivial ?_
          refine w_gr (j := 1) rfl (mm_foc rfl) rfl (by decide) ?_
          refine w_gr (j := 2) rfl (mm_foc rfl) rfl (by decide) ?_
          refine w_st rfl rfl rfl trivial ?_
          refine w_ia (j) rfl (mm_fac (n := 4) rfl) (by first | rfl | assumption | (simp only [← nI_add, ← nI_mul]; rfl)) (by first | decide | omega) ?_
          rw [sp_Dd h hj]
          refine w_iadd rfl ?_
          refine w_st rfl rfl rfl (Nat.le_of_ble_eq_true rfl) ?_
          refine w_st rfl rfl rfl trivial ?_
          refine w_inc rfl rfl rfl (Nat.le_of_ble_eq_true rfl) (nI_1 _) ?_
          refine w_st rfl rfl rfl trivial ?_
          exact ih _ (e.trans e1)
        · rw [sp_if_t c2] at e1
          refine w_st rfl rfl rfl trivial ?_
          refine w_gr (j := 1) rfl (mm_foc rfl) rfl (by decide) ?_
          refine w_gr (j := 2) rfl (mm_foc rfl) rfl (by decide) ?_
          refine w_st rfl rfl rfl trivial ?_
          refine w_ia (j) rfl (mm_fac (n := 4) rfl) (by first | rfl | assumption | (simp only [← nI_add, ← nI_mul]; rfl)) (by first | decide | omega) ?_
          rw [sp_Dd h hj]
          refine w_st rfl rfl rfl trivial ?_
          refine w_st rfl rfl rfl (Nat.le_of_ble_eq_true rfl) ?_
          refine w_st rfl rfl rfl trivial ?_
          refine w_inc rfl rfl rfl (Nat.le_of_ble_eq_true rfl) (nI_1 _) ?_
          refine w_st rfl rfl rfl trivial ?_
          exact ih _ (e.trans e1)
  exact K 0 (by decide) (-1) rfl
theorem c_hoursOf (h : sp_D I σ) (hf : f < 4) (hl : l < 15) : mm_M 3 3 [.ref 1, .int (nI f), .int (nI l)] g I (some (.int (σ (12 + (15 * f + l))))) I := by
  refine w_M ?_
  show mm_W 3 0 [.ref 1, .int (nI f), .int (nI l)] [] _ _ _
  generalize hF : mm_EX _ _ _ = F
  refine w_st rfl rfl rfl trivial ?_
  refine w_gr (j := 4) rfl (mm_foc rfl) rfl (by decide) ?_
  refine w_st rfl rfl rfl trivial ?_
  refine w_st rfl rfl rfl trivial ?_
  refine w_imul rfl ?_
  refine w_st rfl rfl rfl trivial ?_
  refine w_iadd rfl ?_
  refine w_ia (15 * f + l) rfl (mm_fac (n := 60) rfl) (by first | rfl | assumption | (simp only [← nI_add, ← nI_mul]; rfl)) (by first | decide | omega) ?_
  rw [sp_Dh h (by omega)]
  refine w_reti rfl ?_
  exact hF ▸ mm_EX_i (rfl)
theorem c_isWorn (h : sp_D I σ) (hf : f < 4) (hl : l < 15) : mm_M 58 4 [.ref 0, .int (nI f), .int (nI l)] g I (some (.int (mm_bi (sp_wn σ f l)))) I := by
  refine w_M ?_
  show mm_W 58 0 [.ref 0, .int (nI f), .int (nI l), .null] [] _ _ _
  generalize hF : mm_EX _ _ _ = F
  refine w_st rfl rfl rfl trivial ?_
  refine w_st rfl rfl rfl trivial ?_
  refine w_gr (j := 1) rfl (mm_foc rfl) rfl (by decide) ?_
  refine w_gr (j := 5) rfl (mm_foc rfl) rfl (by decide) ?_
  refine w_st rfl rfl rfl trivial ?_
  refine w_ia (1) rfl (mm_fac (n := 2) rfl) (by first | rfl | assumption | (simp only [← nI_add, ← nI_mul]; rfl)) (by first | decide | omega) ?_
  rw [sp_Ds h (by decide)]
  refine w_imul rfl ?_
  refine w_st rfl rfl rfl (Nat.le_of_ble_eq_true rfl) ?_
  refine w_st rfl rfl rfl trivial ?_
  refine w_z_le rfl (fun c1 => ?_) (fun c1 => ?_)
  · skip
    refine w_st rfl rfl rfl trivial ?_
    refine w_retz rfl (by first | exact Or.inl rfl | exact Or.inr rfl | exact mm_bi_01 _ | assumption) ?_
    exact hF ▸ mm_EX_i ((mm_bi_f (fun z => absurd z.1 (Int32.not_lt.2 c1))).symm)
  · skip
    refine w_st rfl rfl rfl trivial ?_
    refine w_gr (j := 1) rfl (mm_foc rfl) rfl (by decide) ?_
    refine w_st rfl rfl rfl trivial ?_
    refine w_st rfl rfl rfl trivial ?_
    refine w_k31 (c_hoursOf h hf hl) rfl ⟨rfl, by decide, by decide, by decide, Or.inl ⟨_, rfl⟩⟩ (Nat.le_of_ble_eq_true rfl) (mm_foc rfl) (Nat.le_of_ble_eq_true rfl) ?_  -- calls 3 cX0_hoursOf
    refine w_st rfl rfl rfl trivial ?_
    refine w_v_lt rfl (fun c2 => ?_) (fun c2 => ?_)
    · skip
      refine w_st rfl rfl rfl trivial ?_
      refine w_retz rfl (by first | exact Or.inl rfl | exact Or.inr rfl | exact mm_bi_01 _ | assumption) ?_
      exact hF ▸ mm_EX_i ((mm_bi_f (fun z => absurd z.2 (Int32.not_le.2 c2))).symm)
    · skip
      refine w_st rfl rfl rfl trivial ?_
      refine w_st rfl rfl rfl trivial ?_
      refine w_retz rfl (by first | exact Or.inl rfl | exact Or.inr rfl | exact mm_bi_01 _ | assumption) ?_
      exact hF ▸ mm_EX_i ((mm_bi_t ⟨Int32.not_le.1 c1, Int32.not_lt.1 c2⟩).symm)
theorem c_hoursUntil (h : sp_D I σ) (hf : f < 4) (hl : l < 15) : mm_M 59 4 [.ref 0, .int (nI f), .int (nI l)] g I (some (.int (sp_hu σ f l))) I := by
  refine w_M ?_
  show mm_W 59 0 [.ref 0, .int (nI f), .int (nI l), .null] [] _ _ _
  generalize hF : mm_EX _ _ _ = F
  refine w_st rfl rfl rfl trivial ?_
  refine w_gr (j := 1) rfl (mm_foc rfl) rfl (by decide) ?_
  refine w_gr (j := 5) rfl (mm_foc rfl) rfl (by decide) ?_
  refine w_st rfl rfl rfl trivial ?_
  refine w_ia (1) rfl (mm_fac (n := 2) rfl) (by first | rfl | assumption | (simp only [← nI_add, ← nI_mul]; rfl)) (by first | decide | omega) ?_
  rw [sp_Ds h (by decide)]
  refine w_z_eq rfl (fun c1 => ?_) (fun c1 => ?_)
  · skip
    refine w_st rfl rfl rfl trivial ?_
    refine w_reti rfl ?_
    exact hF ▸ mm_EX_i ((sp_if_t (Or.inl c1) _ _).symm)
  · skip
    refine w_st rfl rfl rfl trivial ?_
    refine w_gr (j := 1) rfl (mm_foc rfl) rfl (by decide) ?_
    refine w_gr (j := 3) rfl (mm_foc rfl) rfl (by decide) ?_
    refine w_st rfl rfl rfl trivial ?_
    refine w_ia (f) rfl (mm_fac (n := 4) rfl) (by first | rfl | assumption | (simp only [← nI_add, ← nI_mul]; rfl)) (by first | decide | omega) ?_
    rw [sp_Db h hf]
    refine w_st rfl rfl rfl trivial ?_
    refine w_k21 (c_has) rfl ⟨rfl, by decide, by decide, by decide, Or.inr (Or.inl ⟨_, rfl⟩)⟩ (Nat.le_of_ble_eq_true rfl) trivial (Nat.le_of_ble_eq_true rfl) ?_  -- calls 50 cX4_has
    refine w_b_eq rfl (fun c2 => ?_) (fun c2 => ?_)
    · skip
      refine w_st rfl rfl rfl trivial ?_
      refine w_st rfl rfl rfl trivial ?_
      refine w_st rfl rfl rfl trivial ?_
      refine w_k31 (c_isWorn h hf hl) rfl ⟨rfl, by decide, by decide, by decide, Or.inl ⟨_, rfl⟩⟩ (Nat.le_of_ble_eq_true rfl) (mm_foc rfl) (Nat.le_of_ble_eq_true rfl) ?_  -- calls 58 cX4_isWorn
      have e : sp_hu σ f l = sp_if (sp_wn σ f l) 1 (sp_if (¬ sp_lit σ f &&& sp_bit l = 0) (100 * σ 2 - σ (12 + (15 * f + l))) (-1)) := sp_if_f (fun z => z.elim c1 c2) _ _
      rw [e] at hF
      refine w_b_eq rfl (fun c3 => ?_) (fun c3 => ?_)
      · rw [sp_if_f c3] at hF
        refine w_st rfl rfl rfl trivial ?_
        refine w_st rfl rfl rfl trivial ?_
        refine w_gr (j := 1) rfl (mm_foc rfl) rfl (by decide) ?_
        refine w_gr (j := 5) rfl (mm_foc rfl) rfl (by decide) ?_
        refine w_st rfl rfl rfl trivial ?_
        refine w_ia (1) rfl (mm_fac (n := 2) rfl) (by first | rfl | assumption | (simp only [← nI_add, ← nI_mul]; rfl)) (by first | decide | omega) ?_
        rw [sp_Ds h (by decide)]
        refine w_imul rfl ?_
        refine w_st rfl rfl rfl trivial ?_
        refine w_gr (j := 1) rfl (mm_foc rfl) rfl (by decide) ?_
        refine w_st rfl rfl rfl trivial ?_
        refine w_st rfl rfl rfl trivial ?_
        refine w_k31 (c_hoursOf h hf hl) rfl ⟨rfl, by decide, by decide, by decide, Or.inl ⟨_, rfl⟩⟩ (Nat.le_of_ble_eq_true rfl) (mm_foc rfl) (Nat.le_of_ble_eq_true rfl) ?_  -- calls 3 cX0_hoursOf
        refine w_isub rfl ?_
        refine w_st rfl rfl rfl (Nat.le_of_ble_eq_true rfl) ?_
        refine w_st rfl rfl rfl trivial ?_
        refine w_st rfl rfl rfl trivial ?_
        refine w_k21 (c_litOf h hf) rfl ⟨rfl, by decide, by decide, by decide, Or.inl ⟨_, rfl⟩⟩ (Nat.le_of_ble_eq_true rfl) (mm_foc rfl) (Nat.le_of_ble_eq_true rfl) ?_  -- calls 61 cX4_litOf
        refine w_st rfl rfl rfl trivial ?_
        refine w_k21 (c_has) rfl ⟨rfl, by decide, by decide, by decide, Or.inr (Or.inl ⟨_, rfl⟩)⟩ (Nat.le_of_ble_eq_true rfl) trivial (Nat.le_of_ble_eq_true rfl) ?_  -- calls 50 cX4_has
        refine w_b_eq rfl (fun c4 => ?_) (fun c4 => ?_)
        · skip
          refine w_st rfl rfl rfl trivial ?_
          refine w_reti rfl ?_
          exact hF ▸ mm_EX_i ((sp_if_f c4 _ _).symm)
        · skip
          refine w_st rfl rfl rfl trivial ?_
          refine w_st rfl rfl rfl trivial ?_
          refine w_reti rfl ?_
          exact hF ▸ mm_EX_i ((sp_if_t c4 _ _).symm)
      · skip
        refine w_st rfl rfl rfl trivial ?_
        refine w_reti rfl ?_
        exact hF ▸ mm_EX_i ((sp_if_t c3 _ _).symm)
    · skip
      refine w_st rfl rfl rfl trivial ?_
      refine w_reti rfl ?_
      exact hF ▸ mm_EX_i ((sp_if_t (Or.inr c2) _ _).symm)
theorem c_nextBurn (h : sp_D I σ) : mm_M 42 5 [.ref 0] g I (some (.int (sp_nb σ 4))) I := by
  refine w_M ?_
  show mm_W 42 0 [.ref 0, .null, .null, .null, .null] [] _ _ _
  generalize hF : mm_EX _ _ _ = F
  refine w_st rfl rfl rfl trivial ?_
  refine w_st rfl rfl rfl (Nat.le_of_ble_eq_true rfl) ?_
  refine w_st rfl rfl rfl trivial ?_
  refine w_st rfl rfl rfl (Nat.le_of_ble_eq_true rfl) ?_
  have K : ∀ f, f ≤ 4 → ∀ v3 v4, mm_W 42 4 [.ref 0, .int (sp_nb σ f), .int (nI f), v3, v4] [] g I F := by
    refine mm_dn 4 ?_ ?_
    · intro v3 v4
      refine w_st rfl rfl rfl trivial ?_
      refine w_st rfl rfl rfl trivial ?_
      refine w_n_ge (a := 4) (b := 4) rfl (by first | decide | omega) (by first | decide | omega) (by first | rfl | assumption | (simp only [← nI_add, ← nI_mul]; rfl)) (by first | rfl | assumption | (simp only [← nI_add, ← nI_mul]; rfl)) (fun _ => ?_) (fun c => by exfalso; omega)
      refine w_st rfl rfl rfl trivial ?_
      refine w_reti rfl ?_
      exact hF ▸ mm_EX_i (rfl)
    · intro f hf ih v3 v4
      refine w_st rfl rfl rfl trivial ?_
      refine w_st rfl rfl rfl trivial ?_
      refine w_n_ge (a := f) (b := 4) rfl (by first | decide | omega) (by first | decide | omega) (by first | rfl | assumption | (simp only [← nI_add, ← nI_mul]; rfl)) (by first | rfl | assumption | (simp only [← nI_add, ← nI_mul]; rfl)) (fun c => by exfalso; omega) (fun _ => ?_)
      refine w_st rfl rfl rfl trivial ?_
      refine w_st rfl rfl rfl (Nat.le_of_ble_eq_true rfl) ?_
      have K2 : ∀ l, l ≤ 15 → ∀ v4, mm_W 42 11 [.ref 0, .int (sp_n2 σ f (sp_nb σ f) l), .int (nI f), .int (nI l), v4] [] g I F := by
        refine mm_dn 15 ?_ ?_
        · intro v4
          refine w_st rfl rfl rfl trivial ?_
          refine w_st rfl rfl rfl trivial ?_
          refine w_n_ge (a := 15) (b := 15) rfl (by first | decide | omega) (by first | decide | omega) (by first | rfl | assumption | (simp only [← nI_add, ← nI_mul]; rfl)) (by first | rfl | assumption | (simp only [← nI_add, ← nI_mul]; rfl)) (fun _ => ?_) (fun c => by exfalso; omega)
          refine w_inc rfl rfl rfl (Nat.le_of_ble_eq_true rfl) (nI_1 _) ?_
          refine w_st rfl rfl rfl trivial ?_
          exact ih (.int (nI 15)) v4
        · intro l hl ih2 v4
          have e : sp_n2 σ f (sp_nb σ f) (l + 1) = sp_if (¬ sp_hu σ f l = -1 ∧ (sp_n2 σ f (sp_nb σ f) l = -1 ∨ sp_hu σ f l < sp_n2 σ f (sp_nb σ f) l)) (sp_hu σ f l) (sp_n2 σ f (sp_nb σ f) l) := rfl
          refine w_st rfl rfl rfl trivial ?_
          refine w_st rfl rfl rfl trivial ?_
          refine w_n_ge (a := l) (b := 15) rfl (by first | decide | omega) (by first | decide | omega) (by first | rfl | assumption | (simp only [← nI_add, ← nI_mul]; rfl)) (by first | rfl | assumption | (simp only [← nI_add, ← nI_mul]; rfl)) (fun c => by exfalso; omega) (fun _ => ?_)
          refine w_st rfl rfl rfl trivial ?_
          refine w_st rfl rfl rfl trivial ?_
          refine w_st rfl rfl rfl trivial ?_
          refine w_k31 (c_hoursUntil h hf hl) rfl ⟨rfl, by decide, by decide, by decide, Or.inl ⟨_, rfl⟩⟩ (Nat.le_of_ble_eq_true rfl) (mm_foc rfl) (Nat.le_of_ble_eq_true rfl) ?_  -- calls 59 cX4_hoursUntilBurning
          refine w_st rfl rfl rfl (Nat.le_of_ble_eq_true rfl) ?_
          refine w_st rfl rfl rfl trivial ?_
          refine w_st rfl rfl rfl trivial ?_
          refine w_v_eq rfl (fun c1 => ?_) (fun c1 => ?_)
          · rw [sp_if_f (fun z => z.1 c1)] at e
            refine w_inc rfl rfl rfl (Nat.le_of_ble_eq_true rfl) (nI_1 _) ?_
            refine w_st rfl rfl rfl trivial ?_
            rw [e] at ih2; exact ih2 _
          · skip
            refine w_st rfl rfl rfl trivial ?_
            refine w_st rfl rfl rfl trivial ?_
            refine w_v_eq rfl (fun c2 => ?_) (fun c2 => ?_)
            · rw [sp_if_t ⟨c1, Or.inl c2⟩] at e
              refine w_st rfl rfl rfl trivial ?_
              refine w_st rfl rfl rfl (Nat.le_of_ble_eq_true rfl) ?_
              refine w_inc rfl rfl rfl (Nat.le_of_ble_eq_true rfl) (nI_1 _) ?_
              refine w_st rfl rfl rfl trivial ?_
              rw [e] at ih2; exact ih2 _
            · skip
              refine w_st rfl rfl rfl trivial ?_
              refine w_st rfl rfl rfl trivial ?_
              refine w_v_ge rfl (fun c3 => ?_) (fun c3 => ?_)
              · rw [sp_if_f (fun z => z.2.elim c2 (fun z => absurd c3 (Int32.not_le.2 z)))] at e
                refine w_inc rfl rfl rfl (Nat.le_of_ble_eq_true rfl) (nI_1 _) ?_
                refine w_st rfl rfl rfl trivial ?_
                rw [e] at ih2; exact ih2 _
              · rw [sp_if_t ⟨c1, Or.inr (Int32.not_le.1 c3)⟩] at e
                refine w_st rfl rfl rfl trivial ?_
                refine w_st rfl rfl rfl (Nat.le_of_ble_eq_true rfl) ?_
                refine w_inc rfl rfl rfl (Nat.le_of_ble_eq_true rfl) (nI_1 _) ?_
                refine w_st rfl rfl rfl trivial ?_
                rw [e] at ih2; exact ih2 _
      exact K2 0 (by decide) v4
  exact K 0 (by decide) .null .null
/-- a table of the class laid anew -/
theorem c_chooseTable (h : sp_bd I 1 σ) (hf : f < 4) : ∃ I', mm_M 53 2 [.ref 0, .int (nI f)] g I none I' ∧ (sp_tt I' (45 + 4 * f) (σ (8 + f)) (σ 1) ∧ sp_f3 (45 + 4 * f) I I') := by
  have hT : mm_T (45 + 4 * f) := mm_T_f hf
  obtain ⟨I', hM, hI⟩ := c_choose (g := g) (I := I) (b := σ (8 + f)) (s := σ 1) hT
  refine ⟨I', ?_, hI⟩
  refine w_M ?_
  show mm_W 53 0 [.ref 0, .int (nI f)] [] _ _ _
  generalize hF : mm_EX _ _ _ = F
  refine w_st rfl rfl rfl trivial ?_
  refine w_gr (j := 6) rfl (mm_foc rfl) rfl (by decide) ?_
  refine w_st rfl rfl rfl trivial ?_
  refine w_ra (j := 45 + 4 * (f)) (f) rfl (Or.inl (mm_fac (n := 4) rfl)) (by first | rfl | assumption | (simp only [← nI_add, ← nI_mul]; rfl)) (by first | decide | omega) (mm_T_6 (by omega)) (by omega) ?_
  refine w_st rfl rfl rfl trivial ?_
  refine w_gr (j := 1) rfl (mm_foc rfl) rfl (by decide) ?_
  refine w_gr (j := 3) rfl (mm_foc rfl) rfl (by decide) ?_
  refine w_st rfl rfl rfl trivial ?_
  refine w_ia (f) rfl (mm_fac (n := 4) rfl) (by first | rfl | assumption | (simp only [← nI_add, ← nI_mul]; rfl)) (by first | decide | omega) ?_
  rw [show I 3 f = σ (8 + f) from h.2.1 f hf]
  refine w_st rfl rfl rfl trivial ?_
  refine w_gr (j := 1) rfl (mm_foc rfl) rfl (by decide) ?_
  refine w_gr (j := 5) rfl (mm_foc rfl) rfl (by decide) ?_
  refine w_st rfl rfl rfl trivial ?_
  refine w_ia (0) rfl (mm_fac (n := 2) rfl) (by first | rfl | assumption | (simp only [← nI_add, ← nI_mul]; rfl)) (by first | decide | omega) ?_
  rw [show I 5 0 = σ 1 from h.2.2.2.1 0 (by decide)]
  refine w_k30 (hM) rfl ⟨rfl, by decide, by decide, by decide, Or.inl ⟨_, rfl⟩⟩ (Nat.le_of_ble_eq_true rfl) (mm_T_o hT) (Nat.le_of_ble_eq_true rfl) ?_  -- calls 10 cX2_choose
  refine w_retv rfl ?_
  exact hF ▸ ⟨rfl, rfl, rfl⟩
theorem c_tryBurning (h : sp_bd I 1 σ) (hf : f < 4) : ∃ I', mm_M 55 3 [.ref 0, .int (nI f), .int (nI l)] g I none I' ∧ (sp_tt I' 7 (σ (8 + f) ||| sp_bit l) (σ 1) ∧ sp_f3 7 I I') := by
  obtain ⟨I', hM, hI⟩ := c_choose (g := g) (I := I) (b := σ (8 + f) ||| sp_bit l) (s := σ 1) (t := 7) (Or.inl rfl)
  refine ⟨I', ?_, hI⟩
  refine w_M ?_
  show mm_W 55 0 [.ref 0, .int (nI f), .int (nI l)] [] _ _ _
  generalize hF : mm_EX _ _ _ = F
  refine w_st rfl rfl rfl trivial ?_
  refine w_gr (j := 7) rfl (mm_foc rfl) rfl (by decide) ?_
  refine w_st rfl rfl rfl trivial ?_
  refine w_gr (j := 1) rfl (mm_foc rfl) rfl (by decide) ?_
  refine w_gr (j := 3) rfl (mm_foc rfl) rfl (by decide) ?_
  refine w_st rfl rfl rfl trivial ?_
  refine w_ia (f) rfl (mm_fac (n := 4) rfl) (by first | rfl | assumption | (simp only [← nI_add, ← nI_mul]; rfl)) (by first | decide | omega) ?_
  rw [show I 3 f = σ (8 + f) from h.2.1 f hf]
  refine w_st rfl rfl rfl trivial ?_
  refine w_k11 (c_maskOf) rfl ⟨rfl, by decide, by decide, by decide, Or.inr (Or.inl ⟨_, rfl⟩)⟩ (Nat.le_of_ble_eq_true rfl) trivial (Nat.le_of_ble_eq_true rfl) ?_  -- calls 49 cX4_maskOf
  refine w_ior rfl ?_
  refine w_st rfl rfl rfl trivial ?_
  refine w_gr (j := 1) rfl (mm_foc rfl) rfl (by decide) ?_
  refine w_gr (j := 5) rfl (mm_foc rfl) rfl (by decide) ?_
  refine w_st rfl rfl rfl trivial ?_
  refine w_ia (0) rfl (mm_fac (n := 2) rfl) (by first | rfl | assumption | (simp only [← nI_add, ← nI_mul]; rfl)) (by first | decide | omega) ?_
  rw [show I 5 0 = σ 1 from h.2.2.2.1 0 (by decide)]
  refine w_k30 (hM) rfl ⟨rfl, by decide, by decide, by decide, Or.inl ⟨_, rfl⟩⟩ (Nat.le_of_ble_eq_true rfl) (mm_foc rfl) (Nat.le_of_ble_eq_true rfl) ?_  -- calls 10 cX2_choose
  refine w_retv rfl ?_
  exact hF ▸ ⟨rfl, rfl, rfl⟩
end SM
end
section
/-! the class's looks -/
/-- a method that throws E at once -/
def mm_TH (mj L : Nat) (av : List Value) (g : mm_Gg) (I : mm_Is) (E : Nat) : Prop := mm_Me mj L av (mm_hp g I) ((E, none), mm_hp (mm_gx g) I)
def mm_TX (E : Nat) (g : mm_Gg) (I : mm_Is) : mm_Ph := fun q g' I' => q = (E, none) ∧ g' = mm_gx g ∧ I' = I
theorem w_MT {mj L : Nat} {av : List Value} {g : mm_Gg} {I : mm_Is} {E : Nat} (h : mm_W mj 0 (mm_ent L av) [] g I (mm_TX E g I)) : mm_TH mj L av g I E := by
  obtain ⟨q, g', J, h1, h2, h3, h4⟩ := h
  subst h2 h3 h4
  exact h1
noncomputable def sp_fd (σ : sp_St) (f : Nat) : Nat → Int32
  | 0 => σ (4 + f)
  | 1 => sp_if (sp_vis σ f) (sp_R σ f (σ (4 + f)).toNatClampNeg) (-1)
  | 2 => sp_lit σ f
  | 3 => sp_pop (σ (8 + f))
  | 4 => sp_if (sp_vis σ f) (sp_mi (σ (8 + f)) (σ (4 + f)).toNatClampNeg (sp_R σ f (σ (4 + f)).toNatClampNeg)) 0
  | 5 => sp_mk (sp_R σ f) 10
  | 6 => sp_co (sp_R σ f) (σ (8 + f)) 10
  | _ => sp_fh (sp_R σ f) 10
noncomputable def sp_lo (σ : sp_St) (f l : Nat) : Nat → Int32
  | 0 => mm_bi (¬ σ (8 + f) &&& sp_bit l = 0)
  | 1 => σ (12 + (15 * f + l))
  | 2 => mm_bi (¬ sp_lit σ f &&& sp_bit l = 0)
  | _ => nI (sp_dw (sp_R σ f) l 10)
noncomputable def sp_tb (σ : sp_St) (f d : Nat) : Nat → Int32
  | 0 => sp_R σ f d
  | 1 => sp_if (sp_R σ f d = -1) (-1) (sp_sh (σ (8 + f)) d (sp_R σ f d))
  | _ => sp_if (sp_R σ f d = -1) (-1) (sp_mi (σ (8 + f)) d (sp_R σ f d))
noncomputable def sp_cn (σ : sp_St) (k : Nat) : Nat → Int32
  | 0 => σ 0
  | 1 => sp_bl σ 4
  | 2 => nI (sp_wd σ 4)
  | 3 => nI (sp_wd σ 4) - nI (sp_fs σ 4)
  | 4 => sp_ll σ 4
  | 5 => σ 3
  | 6 => sp_ns σ 4 (-1)
  | _ => nI k
/-- what would be the table -/
noncomputable def sp_Q (σ : sp_St) (f l : Nat) : Nat → Int32 := sp_row (σ (8 + f) ||| sp_bit l) (σ 1)
noncomputable def sp_ib (σ : sp_St) (f l : Nat) : Nat → Int32
  | 0 => nI (sp_no (sp_Q σ f l) 10)
  | 1 => nI (sp_cg (sp_Q σ f l) (sp_R σ f) 10)
  | _ => sp_co (sp_Q σ f l) (σ (8 + f) ||| sp_bit l) 10
/-- the worst lamp, what it hides, what it changes, of the first n lamps -/
noncomputable def sp_wl (σ : sp_St) (f : Nat) : Nat → Int32 × Int32 × Int32
  | 0 => (-1, -1, -1)
  | l + 1 => sp_if (¬ σ (8 + f) &&& sp_bit l = 0) (sp_wl σ f l) (sp_if ((sp_wl σ f l).2.1 < sp_ib σ f l 0 ∨ (sp_ib σ f l 0 = (sp_wl σ f l).2.1 ∧ (sp_wl σ f l).2.2 < sp_ib σ f l 1)) (nI l, sp_ib σ f l 0, sp_ib σ f l 1) (sp_wl σ f l))
noncomputable def sp_sr (b : Int32) : Nat → Int32
  | 0 => 0
  | s + 1 => sp_if (sp_no (sp_row b (nI (s + 1))) 10 = 0) (nI (s + 1)) (sp_sr b s)
section SM
variable {g : mm_Gg} {I : mm_Is} {x y z : Int32} {l d k t u f w n : Nat} {σ : sp_St}
theorem sp_D_f3 {I' : mm_Is} (h : sp_f3 7 I I') (x : sp_D I σ) : sp_D I' σ := by
  have e : ∀ p, ¬ p = 8 → ¬ p = 9 → ¬ p = 10 → I' p = I p := fun p a b c => h p a b c
  unfold sp_D sp_bd at x ⊢
  rw [e (1 + 1 + 0) (by decide) (by decide) (by decide), e (1 + 1 + 1) (by decide) (by decide) (by decide), e (1 + 1 + 2) (by decide) (by decide) (by decide), e (1 + 1 + 3) (by decide) (by decide) (by decide), e 1 (by decide) (by decide) (by decide)]
  refine ⟨x.1, fun f hf d hd => ?_⟩
  have := x.2 f hf d hd
  unfold sp_te at this ⊢
  rw [e (45 + 4 * f + 1 + 0) (by omega) (by omega) (by omega), e (45 + 4 * f + 1 + 1) (by omega) (by omega) (by omega), e (45 + 4 * f + 1 + 2) (by omega) (by omega) (by omega)]
  exact this
theorem c_field_1 (h1 : ¬ sp_lt 4 x) : mm_TH 34 5 [.ref 0, .int x, .int y] g I 1 := by
  refine w_MT ?_
  show mm_W 34 0 [.ref 0, .int x, .int y, .null, .null] [] _ _ _
  generalize hF : mm_TX _ _ _ = F
  refine w_st rfl rfl rfl trivial ?_
  refine w_k11 (c_isField) rfl ⟨rfl, by decide, by decide, by decide, Or.inr (Or.inl ⟨_, rfl⟩)⟩ (Nat.le_of_ble_eq_true rfl) trivial (Nat.le_of_ble_eq_true rfl) ?_  -- calls 44 cX4_isField
  refine w_b_ne rfl (fun z => absurd z (h1)) (fun _ => ?_)
  refine w_thr rfl (Nat.le_of_ble_eq_true rfl) ?_
  exact hF ▸ ⟨rfl, rfl, rfl⟩
theorem c_field_2 (h1 : sp_lt 4 x) (h2 : ¬ sp_lt 8 y) : mm_TH 34 5 [.ref 0, .int x, .int y] g I 2 := by
  refine w_MT ?_
  show mm_W 34 0 [.ref 0, .int x, .int y, .null, .null] [] _ _ _
  generalize hF : mm_TX _ _ _ = F
  refine w_st rfl rfl rfl trivial ?_
  refine w_k11 (c_isField) rfl ⟨rfl, by decide, by decide, by decide, Or.inr (Or.inl ⟨_, rfl⟩)⟩ (Nat.le_of_ble_eq_true rfl) trivial (Nat.le_of_ble_eq_true rfl) ?_  -- calls 44 cX4_isField
  refine w_b_ne rfl (fun _ => ?_) (fun z => absurd (h1) z)
  refine w_st rfl rfl rfl trivial ?_
  refine w_z_lt rfl (fun c1 => ?_) (fun c1 => ?_)
  · skip
    refine w_thr rfl (Nat.le_of_ble_eq_true rfl) ?_
    exact hF ▸ ⟨rfl, rfl, rfl⟩
  · skip
    refine w_st rfl rfl rfl trivial ?_
    refine w_st rfl rfl rfl trivial ?_
    refine w_v_lt rfl (fun z => by first | exact absurd z (fun c2 => h2 (sp_lt_i (by decide) rfl c1 (Int32.not_le.2 c2))) | exact absurd (fun c2 => h2 (sp_lt_i (by decide) rfl c1 (Int32.not_le.2 c2))) z) (fun _ => ?_)
    refine w_thr rfl (Nat.le_of_ble_eq_true rfl) ?_
    exact hF ▸ ⟨rfl, rfl, rfl⟩
theorem c_field (h : sp_D I σ) (hf : f < 4) (hw : w < 8) : mm_M 34 5 [.ref 0, .int (nI f), .int (nI w)] g I (some (.int (sp_fd σ f w))) I := by
  have hT : mm_T (45 + 4 * f) := mm_T_f hf
  refine w_M ?_
  show mm_W 34 0 [.ref 0, .int (nI f), .int (nI w), .null, .null] [] _ _ _
  generalize hF : mm_EX _ _ _ = F
  refine w_st rfl rfl rfl trivial ?_
  refine w_k11 (c_isField) rfl ⟨rfl, by decide, by decide, by decide, Or.inr (Or.inl ⟨_, rfl⟩)⟩ (Nat.le_of_ble_eq_true rfl) trivial (Nat.le_of_ble_eq_true rfl) ?_  -- calls 44 cX4_isField
  refine w_b_ne rfl (fun _ => ?_) (fun z => absurd (⟨f, hf, rfl⟩) z)
  refine w_st rfl rfl rfl trivial ?_
  refine w_m_lt (a := w) rfl (by first | decide | omega) (by first | rfl | assumption | (simp only [← nI_add, ← nI_mul]; rfl)) ?_
  refine w_st rfl rfl rfl trivial ?_
  refine w_st rfl rfl rfl trivial ?_
  refine w_n_lt (a := w) (b := 8) rfl (by first | decide | omega) (by first | decide | omega) (by first | rfl | assumption | (simp only [← nI_add, ← nI_mul]; rfl)) (by first | rfl | assumption | (simp only [← nI_add, ← nI_mul]; rfl)) (fun _ => ?_) (fun c => by exfalso; omega)
  refine w_st rfl rfl rfl trivial ?_
  refine w_gr (j := 1) rfl (mm_foc rfl) rfl (by decide) ?_
  refine w_gr (j := 2) rfl (mm_foc rfl) rfl (by decide) ?_
  refine w_st rfl rfl rfl trivial ?_
  refine w_ia (f) rfl (mm_fac (n := 4) rfl) (by first | rfl | assumption | (simp only [← nI_add, ← nI_mul]; rfl)) (by first | decide | omega) ?_
  rw [sp_Dd h hf]
  refine w_st rfl rfl rfl (Nat.le_of_ble_eq_true rfl) ?_
  refine w_st rfl rfl rfl trivial ?_
  refine w_gr (j := 6) rfl (mm_foc rfl) rfl (by decide) ?_
  refine w_st rfl rfl rfl trivial ?_
  refine w_ra (j := 45 + 4 * (f)) (f) rfl (Or.inl (mm_fac (n := 4) rfl)) (by first | rfl | assumption | (simp only [← nI_add, ← nI_mul]; rfl)) (by first | decide | omega) (mm_T_6 (by omega)) (by omega) ?_
  refine w_st rfl rfl rfl (Nat.le_of_ble_eq_true rfl) ?_
  refine w_st rfl rfl rfl trivial ?_
  have hw' : w = 0 ∨ w = 1 ∨ w = 2 ∨ w = 3 ∨ w = 4 ∨ w = 5 ∨ w = 6 ∨ w = 7 := by omega
  rcases hw' with rfl | rfl | rfl | rfl | rfl | rfl | rfl | rfl
  · skip
    refine w_tab rfl 100 (by decide +kernel) ?_
    refine w_st rfl rfl rfl trivial ?_
    refine w_reti rfl ?_
    exact hF ▸ mm_EX_i (rfl)
  · skip
    refine w_tab rfl 102 (by decide +kernel) ?_
    refine w_st rfl rfl rfl trivial ?_
    refine w_st rfl rfl rfl trivial ?_
    refine w_k21 (c_shapeOf hT (h.2 f hf)) rfl ⟨rfl, by decide, by decide, by decide, Or.inl ⟨_, rfl⟩⟩ (Nat.le_of_ble_eq_true rfl) (mm_T_o hT) (Nat.le_of_ble_eq_true rfl) ?_  -- calls 15 cX2_shapeOf
    refine w_reti rfl ?_
    exact hF ▸ mm_EX_i (rfl)
  · skip
    refine w_tab rfl 109 (by decide +kernel) ?_
    refine w_st rfl rfl rfl trivial ?_
    refine w_st rfl rfl rfl trivial ?_
    refine w_k21 (c_litOf h hf) rfl ⟨rfl, by decide, by decide, by decide, Or.inl ⟨_, rfl⟩⟩ (Nat.le_of_ble_eq_true rfl) (mm_foc rfl) (Nat.le_of_ble_eq_true rfl) ?_  -- calls 61 cX4_litOf
    refine w_reti rfl ?_
    exact hF ▸ mm_EX_i (rfl)
  · skip
    refine w_tab rfl 115 (by decide +kernel) ?_
    refine w_st rfl rfl rfl trivial ?_
    refine w_gr (j := 1) rfl (mm_foc rfl) rfl (by decide) ?_
    refine w_gr (j := 3) rfl (mm_foc rfl) rfl (by decide) ?_
    refine w_st rfl rfl rfl trivial ?_
    refine w_ia (f) rfl (mm_fac (n := 4) rfl) (by first | rfl | assumption | (simp only [← nI_add, ← nI_mul]; rfl)) (by first | decide | omega) ?_
    rw [sp_Db h hf]
    refine w_k11 (c_bitCount) rfl ⟨rfl, by decide, by decide, by decide, Or.inr (Or.inl ⟨_, rfl⟩)⟩ (Nat.le_of_ble_eq_true rfl) trivial (Nat.le_of_ble_eq_true rfl) ?_  -- calls 67 cJ6_bitCount_0f7a4
    refine w_reti rfl ?_
    exact hF ▸ mm_EX_i (rfl)
  · skip
    refine w_tab rfl 128 (by decide +kernel) ?_
    refine w_st rfl rfl rfl trivial ?_
    refine w_st rfl rfl rfl trivial ?_
    refine w_k21 (c_isShown h hf) rfl ⟨rfl, by decide, by decide, by decide, Or.inl ⟨_, rfl⟩⟩ (Nat.le_of_ble_eq_true rfl) (mm_foc rfl) (Nat.le_of_ble_eq_true rfl) ?_  -- calls 60 cX4_isShown
    refine w_b_eq rfl (fun c => ?_) (fun c => ?_)
    · skip
      refine w_st rfl rfl rfl trivial ?_
      refine w_reti rfl ?_
      exact hF ▸ mm_EX_i ((sp_if_f c _ _).symm)
    · skip
      refine w_st rfl rfl rfl trivial ?_
      refine w_st rfl rfl rfl trivial ?_
      refine w_k21 (c_missingOf hT (h.2 f hf)) rfl ⟨rfl, by decide, by decide, by decide, Or.inl ⟨_, rfl⟩⟩ (Nat.le_of_ble_eq_true rfl) (mm_T_o hT) (Nat.le_of_ble_eq_true rfl) ?_  -- calls 17 cX2_missingOf
      refine w_st rfl rfl rfl trivial ?_
      refine w_reti rfl ?_
      exact hF ▸ mm_EX_i ((sp_if_t c _ _).trans (sp_if_t c _ _).symm)
  · skip
    refine w_tab rfl 147 (by decide +kernel) ?_
    refine w_st rfl rfl rfl trivial ?_
    refine w_k11 (c_digitsAsMask hT (h.2 f hf)) rfl ⟨rfl, by decide, by decide, by decide, Or.inl ⟨_, rfl⟩⟩ (Nat.le_of_ble_eq_true rfl) (mm_T_o hT) (Nat.le_of_ble_eq_true rfl) ?_  -- calls 18 cX2_digitsAsMask
    refine w_reti rfl ?_
    exact hF ▸ mm_EX_i (rfl)
  · skip
    refine w_tab rfl 153 (by decide +kernel) ?_
    refine w_st rfl rfl rfl trivial ?_
    refine w_k11 (c_leastDifference hT (h.2 f hf)) rfl ⟨rfl, by decide, by decide, by decide, Or.inl ⟨_, rfl⟩⟩ (Nat.le_of_ble_eq_true rfl) (mm_T_o hT) (Nat.le_of_ble_eq_true rfl) ?_  -- calls 21 cX2_leastDifference
    refine w_reti rfl ?_
    exact hF ▸ mm_EX_i (rfl)
  · skip
    refine w_tab rfl 159 (by decide +kernel) ?_
    refine w_st rfl rfl rfl trivial ?_
    refine w_k11 (c_firstHidden hT (h.2 f hf)) rfl ⟨rfl, by decide, by decide, by decide, Or.inl ⟨_, rfl⟩⟩ (Nat.le_of_ble_eq_true rfl) (mm_T_o hT) (Nat.le_of_ble_eq_true rfl) ?_  -- calls 20 cX2_firstHidden
    refine w_reti rfl ?_
    exact hF ▸ mm_EX_i (rfl)
theorem c_lampOf_1 (h1 : ¬ (sp_lt 4 x ∧ sp_lt 15 y)) : mm_TH 35 4 [.ref 0, .int x, .int y, .int z] g I 1 := by
  refine w_MT ?_
  show mm_W 35 0 [.ref 0, .int x, .int y, .int z] [] _ _ _
  generalize hF : mm_TX _ _ _ = F
  refine w_st rfl rfl rfl trivial ?_
  refine w_k11 (c_isField) rfl ⟨rfl, by decide, by decide, by decide, Or.inr (Or.inl ⟨_, rfl⟩)⟩ (Nat.le_of_ble_eq_true rfl) trivial (Nat.le_of_ble_eq_true rfl) ?_  -- calls 44 cX4_isField
  refine w_b_eq rfl (fun c => ?_) (fun c => ?_)
  · skip
    refine w_thr rfl (Nat.le_of_ble_eq_true rfl) ?_
    exact hF ▸ ⟨rfl, rfl, rfl⟩
  · skip
    refine w_st rfl rfl rfl trivial ?_
    refine w_k11 (c_isLamp) rfl ⟨rfl, by decide, by decide, by decide, Or.inr (Or.inl ⟨_, rfl⟩)⟩ (Nat.le_of_ble_eq_true rfl) trivial (Nat.le_of_ble_eq_true rfl) ?_  -- calls 45 cX4_isLamp
    refine w_b_ne rfl (fun z => absurd z (fun z => h1 ⟨c, z⟩)) (fun _ => ?_)
    refine w_thr rfl (Nat.le_of_ble_eq_true rfl) ?_
    exact hF ▸ ⟨rfl, rfl, rfl⟩
theorem c_lampOf_2 (h1 : sp_lt 4 x ∧ sp_lt 15 y) (h2 : ¬ sp_lt 4 z) : mm_TH 35 4 [.ref 0, .int x, .int y, .int z] g I 2 := by
  refine w_MT ?_
  show mm_W 35 0 [.ref 0, .int x, .int y, .int z] [] _ _ _
  generalize hF : mm_TX _ _ _ = F
  refine w_st rfl rfl rfl trivial ?_
  refine w_k11 (c_isField) rfl ⟨rfl, by decide, by decide, by decide, Or.inr (Or.inl ⟨_, rfl⟩)⟩ (Nat.le_of_ble_eq_true rfl) trivial (Nat.le_of_ble_eq_true rfl) ?_  -- calls 44 cX4_isField
  refine w_b_eq rfl (fun z => absurd (h1.1) z) (fun _ => ?_)
  refine w_st rfl rfl rfl trivial ?_
  refine w_k11 (c_isLamp) rfl ⟨rfl, by decide, by decide, by decide, Or.inr (Or.inl ⟨_, rfl⟩)⟩ (Nat.le_of_ble_eq_true rfl) trivial (Nat.le_of_ble_eq_true rfl) ?_  -- calls 45 cX4_isLamp
  refine w_b_ne rfl (fun _ => ?_) (fun z => absurd (h1.2) z)
  refine w_st rfl rfl rfl trivial ?_
  refine w_z_lt rfl (fun c1 => ?_) (fun c1 => ?_)
  · skip
    refine w_thr rfl (Nat.le_of_ble_eq_true rfl) ?_
    exact hF ▸ ⟨rfl, rfl, rfl⟩
  · skip
    refine w_st rfl rfl rfl trivial ?_
    refine w_st rfl rfl rfl trivial ?_
    refine w_v_lt rfl (fun z => by first | exact absurd z (fun c2 => h2 (sp_lt_i (by decide) rfl c1 (Int32.not_le.2 c2))) | exact absurd (fun c2 => h2 (sp_lt_i (by decide) rfl c1 (Int32.not_le.2 c2))) z) (fun _ => ?_)
    refine w_thr rfl (Nat.le_of_ble_eq_true rfl) ?_
    exact hF ▸ ⟨rfl, rfl, rfl⟩
theorem c_lampOf (h : sp_D I σ) (hf : f < 4) (hl : l < 15) (hw : w < 4) : mm_M 35 4 [.ref 0, .int (nI f), .int (nI l), .int (nI w)] g I (some (.int (sp_lo σ f l w))) I := by
  have hT : mm_T (45 + 4 * f) := mm_T_f hf
  refine w_M ?_
  show mm_W 35 0 [.ref 0, .int (nI f), .int (nI l), .int (nI w)] [] _ _ _
  generalize hF : mm_EX _ _ _ = F
  refine w_st rfl rfl rfl trivial ?_
  refine w_k11 (c_isField) rfl ⟨rfl, by decide, by decide, by decide, Or.inr (Or.inl ⟨_, rfl⟩)⟩ (Nat.le_of_ble_eq_true rfl) trivial (Nat.le_of_ble_eq_true rfl) ?_  -- calls 44 cX4_isField
  refine w_b_eq rfl (fun z => absurd (⟨f, hf, rfl⟩) z) (fun _ => ?_)
  refine w_st rfl rfl rfl trivial ?_
  refine w_k11 (c_isLamp) rfl ⟨rfl, by decide, by decide, by decide, Or.inr (Or.inl ⟨_, rfl⟩)⟩ (Nat.le_of_ble_eq_true rfl) trivial (Nat.le_of_ble_eq_true rfl) ?_  -- calls 45 cX4_isLamp
  refine w_b_ne rfl (fun _ => ?_) (fun z => absurd (⟨l, hl, rfl⟩) z)
  refine w_st rfl rfl rfl trivial ?_
  refine w_m_lt (a := w) rfl (by first | decide | omega) (by first | rfl | assumption | (simp only [← nI_add, ← nI_mul]; rfl)) ?_
  refine w_st rfl rfl rfl trivial ?_
  refine w_st rfl rfl rfl trivial ?_
  refine w_n_lt (a := w) (b := 4) rfl (by first | decide | omega) (by first | decide | omega) (by first | rfl | assumption | (simp only [← nI_add, ← nI_mul]; rfl)) (by first | rfl | assumption | (simp only [← nI_add, ← nI_mul]; rfl)) (fun _ => ?_) (fun c => by exfalso; omega)
  refine w_st rfl rfl rfl trivial ?_
  have hw' : w = 0 ∨ w = 1 ∨ w = 2 ∨ w = 3 := by omega
  rcases hw' with rfl | rfl | rfl | rfl
  · skip
    refine w_tab rfl 72 (by decide +kernel) ?_
    refine w_st rfl rfl rfl trivial ?_
    refine w_gr (j := 1) rfl (mm_foc rfl) rfl (by decide) ?_
    refine w_gr (j := 3) rfl (mm_foc rfl) rfl (by decide) ?_
    refine w_st rfl rfl rfl trivial ?_
    refine w_ia (f) rfl (mm_fac (n := 4) rfl) (by first | rfl | assumption | (simp only [← nI_add, ← nI_mul]; rfl)) (by first | decide | omega) ?_
    rw [sp_Db h hf]
    refine w_st rfl rfl rfl trivial ?_
    refine w_k21 (c_has) rfl ⟨rfl, by decide, by decide, by decide, Or.inr (Or.inl ⟨_, rfl⟩)⟩ (Nat.le_of_ble_eq_true rfl) trivial (Nat.le_of_ble_eq_true rfl) ?_  -- calls 50 cX4_has
    refine w_b_eq rfl (fun c => ?_) (fun c => ?_)
    · skip
      refine w_st rfl rfl rfl trivial ?_
      refine w_reti rfl ?_
      exact hF ▸ mm_EX_i ((mm_bi_f c).symm)
    · skip
      refine w_st rfl rfl rfl trivial ?_
      refine w_st rfl rfl rfl trivial ?_
      refine w_reti rfl ?_
      exact hF ▸ mm_EX_i ((mm_bi_t c).symm)
  · skip
    refine w_tab rfl 94 (by decide +kernel) ?_
    refine w_st rfl rfl rfl trivial ?_
    refine w_gr (j := 1) rfl (mm_foc rfl) rfl (by decide) ?_
    refine w_st rfl rfl rfl trivial ?_
    refine w_st rfl rfl rfl trivial ?_
    refine w_k31 (c_hoursOf h hf hl) rfl ⟨rfl, by decide, by decide, by decide, Or.inl ⟨_, rfl⟩⟩ (Nat.le_of_ble_eq_true rfl) (mm_foc rfl) (Nat.le_of_ble_eq_true rfl) ?_  -- calls 3 cX0_hoursOf
    refine w_reti rfl ?_
    exact hF ▸ mm_EX_i (rfl)
  · skip
    refine w_tab rfl 104 (by decide +kernel) ?_
    refine w_st rfl rfl rfl trivial ?_
    refine w_st rfl rfl rfl trivial ?_
    refine w_k21 (c_litOf h hf) rfl ⟨rfl, by decide, by decide, by decide, Or.inl ⟨_, rfl⟩⟩ (Nat.le_of_ble_eq_true rfl) (mm_foc rfl) (Nat.le_of_ble_eq_true rfl) ?_  -- calls 61 cX4_litOf
    refine w_st rfl rfl rfl trivial ?_
    refine w_k21 (c_has) rfl ⟨rfl, by decide, by decide, by decide, Or.inr (Or.inl ⟨_, rfl⟩)⟩ (Nat.le_of_ble_eq_true rfl) trivial (Nat.le_of_ble_eq_true rfl) ?_  -- calls 50 cX4_has
    refine w_b_eq rfl (fun c => ?_) (fun c => ?_)
    · skip
      refine w_st rfl rfl rfl trivial ?_
      refine w_reti rfl ?_
      exact hF ▸ mm_EX_i ((mm_bi_f c).symm)
    · skip
      refine w_st rfl rfl rfl trivial ?_
      refine w_st rfl rfl rfl trivial ?_
      refine w_reti rfl ?_
      exact hF ▸ mm_EX_i ((mm_bi_t c).symm)
  · skip
    refine w_tab rfl 122 (by decide +kernel) ?_
    refine w_st rfl rfl rfl trivial ?_
    refine w_gr (j := 6) rfl (mm_foc rfl) rfl (by decide) ?_
    refine w_st rfl rfl rfl trivial ?_
    refine w_ra (j := 45 + 4 * (f)) (f) rfl (Or.inl (mm_fac (n := 4) rfl)) (by first | rfl | assumption | (simp only [← nI_add, ← nI_mul]; rfl)) (by first | decide | omega) (mm_T_6 (by omega)) (by omega) ?_
    refine w_st rfl rfl rfl trivial ?_
    refine w_k21 (c_digitsWith hT (h.2 f hf)) rfl ⟨rfl, by decide, by decide, by decide, Or.inl ⟨_, rfl⟩⟩ (Nat.le_of_ble_eq_true rfl) (mm_T_o hT) (Nat.le_of_ble_eq_true rfl) ?_  -- calls 22 cX2_digitsWith
    refine w_reti rfl ?_
    exact hF ▸ mm_EX_i (rfl)
theorem c_table_1 (h1 : ¬ sp_lt 4 x) : mm_TH 36 5 [.ref 0, .int x, .int y, .int z] g I 1 := by
  refine w_MT ?_
  show mm_W 36 0 [.ref 0, .int x, .int y, .int z, .null] [] _ _ _
  generalize hF : mm_TX _ _ _ = F
  refine w_st rfl rfl rfl trivial ?_
  refine w_k11 (c_isField) rfl ⟨rfl, by decide, by decide, by decide, Or.inr (Or.inl ⟨_, rfl⟩)⟩ (Nat.le_of_ble_eq_true rfl) trivial (Nat.le_of_ble_eq_true rfl) ?_  -- calls 44 cX4_isField
  refine w_b_ne rfl (fun z => absurd z (h1)) (fun _ => ?_)
  refine w_thr rfl (Nat.le_of_ble_eq_true rfl) ?_
  exact hF ▸ ⟨rfl, rfl, rfl⟩
theorem c_table_2 (h1 : sp_lt 4 x) (h2 : ¬ (sp_lt 10 y ∧ sp_lt 3 z)) : mm_TH 36 5 [.ref 0, .int x, .int y, .int z] g I 2 := by
  refine w_MT ?_
  show mm_W 36 0 [.ref 0, .int x, .int y, .int z, .null] [] _ _ _
  generalize hF : mm_TX _ _ _ = F
  refine w_st rfl rfl rfl trivial ?_
  refine w_k11 (c_isField) rfl ⟨rfl, by decide, by decide, by decide, Or.inr (Or.inl ⟨_, rfl⟩)⟩ (Nat.le_of_ble_eq_true rfl) trivial (Nat.le_of_ble_eq_true rfl) ?_  -- calls 44 cX4_isField
  refine w_b_ne rfl (fun _ => ?_) (fun z => absurd (h1) z)
  refine w_st rfl rfl rfl trivial ?_
  refine w_k11 (c_isDigit) rfl ⟨rfl, by decide, by decide, by decide, Or.inr (Or.inl ⟨_, rfl⟩)⟩ (Nat.le_of_ble_eq_true rfl) trivial (Nat.le_of_ble_eq_true rfl) ?_  -- calls 46 cX4_isDigit
  refine w_b_eq rfl (fun c => ?_) (fun c => ?_)
  · skip
    refine w_thr rfl (Nat.le_of_ble_eq_true rfl) ?_
    exact hF ▸ ⟨rfl, rfl, rfl⟩
  · skip
    refine w_st rfl rfl rfl trivial ?_
    refine w_z_lt rfl (fun c1 => ?_) (fun c1 => ?_)
    · skip
      refine w_thr rfl (Nat.le_of_ble_eq_true rfl) ?_
      exact hF ▸ ⟨rfl, rfl, rfl⟩
    · skip
      refine w_st rfl rfl rfl trivial ?_
      refine w_st rfl rfl rfl trivial ?_
      refine w_v_lt rfl (fun z => by first | exact absurd z (fun c2 => h2 ⟨c, sp_lt_i (by decide) rfl c1 (Int32.not_le.2 c2)⟩) | exact absurd (fun c2 => h2 ⟨c, sp_lt_i (by decide) rfl c1 (Int32.not_le.2 c2)⟩) z) (fun _ => ?_)
      refine w_thr rfl (Nat.le_of_ble_eq_true rfl) ?_
      exact hF ▸ ⟨rfl, rfl, rfl⟩
theorem sp_can_n {r : Nat → Int32} (hd : d < 10) : sp_can r (nI d) ↔ ¬ r d = -1 := by
  constructor
  · rintro ⟨e, he, h1, h2⟩
    rw [(nI_eq (by omega) (by omega)).1 h1]; exact h2
  · intro h; exact ⟨d, hd, rfl, h⟩
theorem sp_can_if {r : Nat → Int32} (hd : d < 10) : sp_if (sp_can r (nI d)) x (-1) = sp_if (r d = -1) (-1) x := by
  by_cases c : r d = -1
  · rw [sp_if_t c, sp_if_f (fun z => (sp_can_n hd).1 z c)]
  · rw [sp_if_f c, sp_if_t ((sp_can_n hd).2 c)]
theorem c_table (h : sp_D I σ) (hf : f < 4) (hd : d < 10) (hw : w < 3) : mm_M 36 5 [.ref 0, .int (nI f), .int (nI d), .int (nI w)] g I (some (.int (sp_tb σ f d w))) I := by
  have hT : mm_T (45 + 4 * f) := mm_T_f hf
  have hc : (nI d).toNatClampNeg = d := nI_clamp (by omega)
  refine w_M ?_
  show mm_W 36 0 [.ref 0, .int (nI f), .int (nI d), .int (nI w), .null] [] _ _ _
  generalize hF : mm_EX _ _ _ = F
  refine w_st rfl rfl rfl trivial ?_
  refine w_k11 (c_isField) rfl ⟨rfl, by decide, by decide, by decide, Or.inr (Or.inl ⟨_, rfl⟩)⟩ (Nat.le_of_ble_eq_true rfl) trivial (Nat.le_of_ble_eq_true rfl) ?_  -- calls 44 cX4_isField
  refine w_b_ne rfl (fun _ => ?_) (fun z => absurd (⟨f, hf, rfl⟩) z)
  refine w_st rfl rfl rfl trivial ?_
  refine w_k11 (c_isDigit) rfl ⟨rfl, by decide, by decide, by decide, Or.inr (Or.inl ⟨_, rfl⟩)⟩ (Nat.le_of_ble_eq_true rfl) trivial (Nat.le_of_ble_eq_true rfl) ?_  -- calls 46 cX4_isDigit
  refine w_b_eq rfl (fun z => absurd (⟨d, hd, rfl⟩) z) (fun _ => ?_)
  refine w_st rfl rfl rfl trivial ?_
  refine w_m_lt (a := w) rfl (by first | decide | omega) (by first | rfl | assumption | (simp only [← nI_add, ← nI_mul]; rfl)) ?_
  refine w_st rfl rfl rfl trivial ?_
  refine w_st rfl rfl rfl trivial ?_
  refine w_n_lt (a := w) (b := 3) rfl (by first | decide | omega) (by first | decide | omega) (by first | rfl | assumption | (simp only [← nI_add, ← nI_mul]; rfl)) (by first | rfl | assumption | (simp only [← nI_add, ← nI_mul]; rfl)) (fun _ => ?_) (fun c => by exfalso; omega)
  refine w_st rfl rfl rfl trivial ?_
  refine w_gr (j := 6) rfl (mm_foc rfl) rfl (by decide) ?_
  refine w_st rfl rfl rfl trivial ?_
  refine w_ra (j := 45 + 4 * (f)) (f) rfl (Or.inl (mm_fac (n := 4) rfl)) (by first | rfl | assumption | (simp only [← nI_add, ← nI_mul]; rfl)) (by first | decide | omega) (mm_T_6 (by omega)) (by omega) ?_
  refine w_st rfl rfl rfl (Nat.le_of_ble_eq_true rfl) ?_
  refine w_st rfl rfl rfl trivial ?_
  have hw' : w = 0 ∨ w = 1 ∨ w = 2 := by omega
  rcases hw' with rfl | rfl | rfl
  · skip
    refine w_lok rfl 80 (by decide +kernel) ?_
    refine w_st rfl rfl rfl trivial ?_
    refine w_st rfl rfl rfl trivial ?_
    refine w_k21 (c_shapeOf hT (h.2 f hf)) rfl ⟨rfl, by decide, by decide, by decide, Or.inl ⟨_, rfl⟩⟩ (Nat.le_of_ble_eq_true rfl) (mm_T_o hT) (Nat.le_of_ble_eq_true rfl) ?_  -- calls 15 cX2_shapeOf
    rw [hc, sp_can_if hd]
    by_cases c : sp_row (σ (8 + f)) (σ 1) d = -1
    · rw [sp_if_t c]
      refine w_reti rfl ?_
      exact hF ▸ mm_EX_i (c.symm)
    · rw [sp_if_f c]
      refine w_reti rfl ?_
      exact hF ▸ mm_EX_i (rfl)
  · skip
    refine w_lok rfl 87 (by decide +kernel) ?_
    refine w_st rfl rfl rfl trivial ?_
    refine w_st rfl rfl rfl trivial ?_
    refine w_k21 (c_shownOf hT (h.2 f hf)) rfl ⟨rfl, by decide, by decide, by decide, Or.inl ⟨_, rfl⟩⟩ (Nat.le_of_ble_eq_true rfl) (mm_T_o hT) (Nat.le_of_ble_eq_true rfl) ?_  -- calls 16 cX2_shownOf
    rw [hc, sp_can_if hd]
    refine w_reti rfl ?_
    exact hF ▸ mm_EX_i (rfl)
  · skip
    refine w_lok rfl 94 (by decide +kernel) ?_
    refine w_st rfl rfl rfl trivial ?_
    refine w_st rfl rfl rfl trivial ?_
    refine w_k21 (c_missingOf hT (h.2 f hf)) rfl ⟨rfl, by decide, by decide, by decide, Or.inl ⟨_, rfl⟩⟩ (Nat.le_of_ble_eq_true rfl) (mm_T_o hT) (Nat.le_of_ble_eq_true rfl) ?_  -- calls 17 cX2_missingOf
    rw [hc, sp_can_if hd]
    refine w_reti rfl ?_
    exact hF ▸ mm_EX_i (rfl)
theorem c_read_1 (h1 : ¬ sp_lt 4 x) : mm_TH 37 3 [.ref 0, .int x, .int y] g I 1 := by
  refine w_MT ?_
  show mm_W 37 0 [.ref 0, .int x, .int y] [] _ _ _
  generalize hF : mm_TX _ _ _ = F
  refine w_st rfl rfl rfl trivial ?_
  refine w_k11 (c_isField) rfl ⟨rfl, by decide, by decide, by decide, Or.inr (Or.inl ⟨_, rfl⟩)⟩ (Nat.le_of_ble_eq_true rfl) trivial (Nat.le_of_ble_eq_true rfl) ?_  -- calls 44 cX4_isField
  refine w_b_ne rfl (fun z => absurd z (h1)) (fun _ => ?_)
  refine w_thr rfl (Nat.le_of_ble_eq_true rfl) ?_
  exact hF ▸ ⟨rfl, rfl, rfl⟩
theorem c_read_2 (h1 : sp_lt 4 x) (h2 : ¬ sp_lt 32768 y) : mm_TH 37 3 [.ref 0, .int x, .int y] g I 2 := by
  refine w_MT ?_
  show mm_W 37 0 [.ref 0, .int x, .int y] [] _ _ _
  generalize hF : mm_TX _ _ _ = F
  refine w_st rfl rfl rfl trivial ?_
  refine w_k11 (c_isField) rfl ⟨rfl, by decide, by decide, by decide, Or.inr (Or.inl ⟨_, rfl⟩)⟩ (Nat.le_of_ble_eq_true rfl) trivial (Nat.le_of_ble_eq_true rfl) ?_  -- calls 44 cX4_isField
  refine w_b_ne rfl (fun _ => ?_) (fun z => absurd (h1) z)
  refine w_st rfl rfl rfl trivial ?_
  refine w_z_lt rfl (fun c1 => ?_) (fun c1 => ?_)
  · skip
    refine w_thr rfl (Nat.le_of_ble_eq_true rfl) ?_
    exact hF ▸ ⟨rfl, rfl, rfl⟩
  · skip
    refine w_st rfl rfl rfl trivial ?_
    refine w_st rfl rfl rfl trivial ?_
    refine w_v_le rfl (fun z => by first | exact absurd z (fun c2 => h2 (sp_le_i (n := 32767) (by decide) rfl (by rw [← Int32.not_lt]; exact c1) c2)) | exact absurd (fun c2 => h2 (sp_le_i (n := 32767) (by decide) rfl (by rw [← Int32.not_lt]; exact c1) c2)) z) (fun _ => ?_)
    refine w_thr rfl (Nat.le_of_ble_eq_true rfl) ?_
    exact hF ▸ ⟨rfl, rfl, rfl⟩
theorem c_read (h : sp_D I σ) (hf : f < 4) (hn : n < 32768) : mm_M 37 3 [.ref 0, .int (nI f), .int (nI n)] g I (some (.int (sp_nr (sp_R σ f) (σ (8 + f)) (nI n) 10).1)) I := by
  have hT : mm_T (45 + 4 * f) := mm_T_f hf
  refine w_M ?_
  show mm_W 37 0 [.ref 0, .int (nI f), .int (nI n)] [] _ _ _
  generalize hF : mm_EX _ _ _ = F
  refine w_st rfl rfl rfl trivial ?_
  refine w_k11 (c_isField) rfl ⟨rfl, by decide, by decide, by decide, Or.inr (Or.inl ⟨_, rfl⟩)⟩ (Nat.le_of_ble_eq_true rfl) trivial (Nat.le_of_ble_eq_true rfl) ?_  -- calls 44 cX4_isField
  refine w_b_ne rfl (fun _ => ?_) (fun z => absurd (⟨f, hf, rfl⟩) z)
  refine w_st rfl rfl rfl trivial ?_
  refine w_m_lt (a := n) rfl (by first | decide | omega) (by first | rfl | assumption | (simp only [← nI_add, ← nI_mul]; rfl)) ?_
  refine w_st rfl rfl rfl trivial ?_
  refine w_st rfl rfl rfl trivial ?_
  refine w_n_le (a := n) (b := 32767) rfl (by first | decide | omega) (by first | decide | omega) (by first | rfl | assumption | (simp only [← nI_add, ← nI_mul]; rfl)) (by first | rfl | assumption | (simp only [← nI_add, ← nI_mul]; rfl)) (fun _ => ?_) (fun c => by exfalso; omega)
  refine w_st rfl rfl rfl trivial ?_
  refine w_gr (j := 6) rfl (mm_foc rfl) rfl (by decide) ?_
  refine w_st rfl rfl rfl trivial ?_
  refine w_ra (j := 45 + 4 * (f)) (f) rfl (Or.inl (mm_fac (n := 4) rfl)) (by first | rfl | assumption | (simp only [← nI_add, ← nI_mul]; rfl)) (by first | decide | omega) (mm_T_6 (by omega)) (by omega) ?_
  refine w_st rfl rfl rfl trivial ?_
  refine w_k21 (c_nearestTo hT (h.2 f hf)) rfl ⟨rfl, by decide, by decide, by decide, Or.inl ⟨_, rfl⟩⟩ (Nat.le_of_ble_eq_true rfl) (mm_T_o hT) (Nat.le_of_ble_eq_true rfl) ?_  -- calls 24 cX2_nearestTo
  refine w_reti rfl ?_
  exact hF ▸ mm_EX_i (rfl)
theorem c_count_1 (h1 : ¬ sp_lt 8 y) : mm_TH 38 2 [.ref 0, .int y] g I 2 := by
  refine w_MT ?_
  show mm_W 38 0 [.ref 0, .int y] [] _ _ _
  generalize hF : mm_TX _ _ _ = F
  refine w_st rfl rfl rfl trivial ?_
  refine w_z_lt rfl (fun c1 => ?_) (fun c1 => ?_)
  · skip
    refine w_thr rfl (Nat.le_of_ble_eq_true rfl) ?_
    exact hF ▸ ⟨rfl, rfl, rfl⟩
  · skip
    refine w_st rfl rfl rfl trivial ?_
    refine w_st rfl rfl rfl trivial ?_
    refine w_v_lt rfl (fun z => by first | exact absurd z (fun c2 => h1 (sp_lt_i (by decide) rfl c1 (Int32.not_le.2 c2))) | exact absurd (fun c2 => h1 (sp_lt_i (by decide) rfl c1 (Int32.not_le.2 c2))) z) (fun _ => ?_)
    refine w_thr rfl (Nat.le_of_ble_eq_true rfl) ?_
    exact hF ▸ ⟨rfl, rfl, rfl⟩
theorem c_count (h : sp_D I σ) (hk : I 13 2 = nI k) (hw : w < 8) : mm_M 38 2 [.ref 0, .int (nI w)] g I (some (.int (sp_cn σ k w))) I := by
  refine w_M ?_
  show mm_W 38 0 [.ref 0, .int (nI w)] [] _ _ _
  generalize hF : mm_EX _ _ _ = F
  refine w_st rfl rfl rfl trivial ?_
  refine w_m_lt (a := w) rfl (by first | decide | omega) (by first | rfl | assumption | (simp only [← nI_add, ← nI_mul]; rfl)) ?_
  refine w_st rfl rfl rfl trivial ?_
  refine w_st rfl rfl rfl trivial ?_
  refine w_n_lt (a := w) (b := 8) rfl (by first | decide | omega) (by first | decide | omega) (by first | rfl | assumption | (simp only [← nI_add, ← nI_mul]; rfl)) (by first | rfl | assumption | (simp only [← nI_add, ← nI_mul]; rfl)) (fun _ => ?_) (fun c => by exfalso; omega)
  refine w_st rfl rfl rfl trivial ?_
  have hw' : w = 0 ∨ w = 1 ∨ w = 2 ∨ w = 3 ∨ w = 4 ∨ w = 5 ∨ w = 6 ∨ w = 7 := by omega
  rcases hw' with rfl | rfl | rfl | rfl | rfl | rfl | rfl | rfl
  · skip
    refine w_tab rfl 64 (by decide +kernel) ?_
    refine w_st rfl rfl rfl trivial ?_
    refine w_gr (j := 1) rfl (mm_foc rfl) rfl (by decide) ?_
    refine w_gi rfl (mm_foc rfl) ?_
    refine w_reti rfl ?_
    exact hF ▸ mm_EX_i (h.1.2.2.2.2.1)
  · skip
    refine w_tab rfl 72 (by decide +kernel) ?_
    refine w_st rfl rfl rfl trivial ?_
    refine w_k11 (c_burntLamps h) rfl ⟨rfl, by decide, by decide, by decide, Or.inl ⟨_, rfl⟩⟩ (Nat.le_of_ble_eq_true rfl) (mm_foc rfl) (Nat.le_of_ble_eq_true rfl) ?_  -- calls 62 cX4_burntLamps
    refine w_reti rfl ?_
    exact hF ▸ mm_EX_i (rfl)
  · skip
    refine w_tab rfl 77 (by decide +kernel) ?_
    refine w_st rfl rfl rfl trivial ?_
    refine w_k11 (c_fieldsWithDigit h) rfl ⟨rfl, by decide, by decide, by decide, Or.inl ⟨_, rfl⟩⟩ (Nat.le_of_ble_eq_true rfl) (mm_foc rfl) (Nat.le_of_ble_eq_true rfl) ?_  -- calls 64 cX4_fieldsWithDigit
    refine w_reti rfl ?_
    exact hF ▸ mm_EX_i (rfl)
  · skip
    refine w_tab rfl 82 (by decide +kernel) ?_
    refine w_st rfl rfl rfl trivial ?_
    refine w_k11 (c_fieldsWithDigit h) rfl ⟨rfl, by decide, by decide, by decide, Or.inl ⟨_, rfl⟩⟩ (Nat.le_of_ble_eq_true rfl) (mm_foc rfl) (Nat.le_of_ble_eq_true rfl) ?_  -- calls 64 cX4_fieldsWithDigit
    refine w_st rfl rfl rfl trivial ?_
    refine w_k11 (c_fieldsShown h) rfl ⟨rfl, by decide, by decide, by decide, Or.inl ⟨_, rfl⟩⟩ (Nat.le_of_ble_eq_true rfl) (mm_foc rfl) (Nat.le_of_ble_eq_true rfl) ?_  -- calls 65 cX4_fieldsShown
    refine w_isub rfl ?_
    refine w_reti rfl ?_
    exact hF ▸ mm_EX_i (rfl)
  · skip
    refine w_tab rfl 92 (by decide +kernel) ?_
    refine w_st rfl rfl rfl trivial ?_
    refine w_k11 (c_litLamps h) rfl ⟨rfl, by decide, by decide, by decide, Or.inl ⟨_, rfl⟩⟩ (Nat.le_of_ble_eq_true rfl) (mm_foc rfl) (Nat.le_of_ble_eq_true rfl) ?_  -- calls 63 cX4_litLamps
    refine w_reti rfl ?_
    exact hF ▸ mm_EX_i (rfl)
  · skip
    refine w_tab rfl 97 (by decide +kernel) ?_
    refine w_st rfl rfl rfl trivial ?_
    refine w_gr (j := 1) rfl (mm_foc rfl) rfl (by decide) ?_
    refine w_gi rfl (mm_foc rfl) ?_
    refine w_reti rfl ?_
    exact hF ▸ mm_EX_i (h.1.2.2.2.2.2)
  · skip
    refine w_tab rfl 105 (by decide +kernel) ?_
    refine w_st rfl rfl rfl trivial ?_
    refine w_k11 (c_numberShown h) rfl ⟨rfl, by decide, by decide, by decide, Or.inl ⟨_, rfl⟩⟩ (Nat.le_of_ble_eq_true rfl) (mm_foc rfl) (Nat.le_of_ble_eq_true rfl) ?_  -- calls 66 cX4_numberShown
    refine w_reti rfl ?_
    exact hF ▸ mm_EX_i (rfl)
  · skip
    refine w_tab rfl 110 (by decide +kernel) ?_
    refine w_st rfl rfl rfl trivial ?_
    refine w_gr (j := 13) rfl (mm_foc rfl) rfl (by decide) ?_
    refine w_gi rfl (mm_foc rfl) ?_
    refine w_reti rfl ?_
    exact hF ▸ mm_EX_i (hk)
theorem c_setting_1 (h1 : ¬ sp_lt 2 x) : mm_TH 39 2 [.ref 0, .int x] g I 1 := by
  refine w_MT ?_
  show mm_W 39 0 [.ref 0, .int x] [] _ _ _
  generalize hF : mm_TX _ _ _ = F
  refine w_st rfl rfl rfl trivial ?_
  refine w_k11 (c_isSetting) rfl ⟨rfl, by decide, by decide, by decide, Or.inr (Or.inl ⟨_, rfl⟩)⟩ (Nat.le_of_ble_eq_true rfl) trivial (Nat.le_of_ble_eq_true rfl) ?_  -- calls 47 cX4_isSetting
  refine w_b_ne rfl (fun z => absurd z (h1)) (fun _ => ?_)
  refine w_thr rfl (Nat.le_of_ble_eq_true rfl) ?_
  exact hF ▸ ⟨rfl, rfl, rfl⟩
theorem c_setting (h : sp_D I σ) (hk : k < 2) : mm_M 39 2 [.ref 0, .int (nI k)] g I (some (.int (σ (1 + k)))) I := by
  refine w_M ?_
  show mm_W 39 0 [.ref 0, .int (nI k)] [] _ _ _
  generalize hF : mm_EX _ _ _ = F
  refine w_st rfl rfl rfl trivial ?_
  refine w_k11 (c_isSetting) rfl ⟨rfl, by decide, by decide, by decide, Or.inr (Or.inl ⟨_, rfl⟩)⟩ (Nat.le_of_ble_eq_true rfl) trivial (Nat.le_of_ble_eq_true rfl) ?_  -- calls 47 cX4_isSetting
  refine w_b_ne rfl (fun _ => ?_) (fun z => absurd (⟨k, hk, rfl⟩) z)
  refine w_st rfl rfl rfl trivial ?_
  refine w_gr (j := 1) rfl (mm_foc rfl) rfl (by decide) ?_
  refine w_gr (j := 5) rfl (mm_foc rfl) rfl (by decide) ?_
  refine w_st rfl rfl rfl trivial ?_
  refine w_ia (k) rfl (mm_fac (n := 2) rfl) (by first | rfl | assumption | (simp only [← nI_add, ← nI_mul]; rfl)) (by first | decide | omega) ?_
  rw [sp_Ds h hk]
  refine w_reti rfl ?_
  exact hF ▸ mm_EX_i (rfl)
theorem c_worstLamp_1 (h1 : ¬ sp_lt 4 x) : mm_TH 40 8 [.ref 0, .int x] g I 1 := by
  refine w_MT ?_
  show mm_W 40 0 [.ref 0, .int x, .null, .null, .null, .null, .null, .null] [] _ _ _
  generalize hF : mm_TX _ _ _ = F
  refine w_st rfl rfl rfl trivial ?_
  refine w_k11 (c_isField) rfl ⟨rfl, by decide, by decide, by decide, Or.inr (Or.inl ⟨_, rfl⟩)⟩ (Nat.le_of_ble_eq_true rfl) trivial (Nat.le_of_ble_eq_true rfl) ?_  -- calls 44 cX4_isField
  refine w_b_ne rfl (fun z => absurd z (h1)) (fun _ => ?_)
  refine w_thr rfl (Nat.le_of_ble_eq_true rfl) ?_
  exact hF ▸ ⟨rfl, rfl, rfl⟩
theorem c_worstLamp (h : sp_D I σ) (hf : f < 4) : ∃ I', mm_M 40 8 [.ref 0, .int (nI f)] g I (some (.int (sp_wl σ f 15).1)) I' ∧ sp_f3 7 I I' := by
  have hT : mm_T (45 + 4 * f) := mm_T_f hf
  have hU : mm_T 7 := Or.inl rfl
  refine w_MX ?_
  show mm_W 40 0 [.ref 0, .int (nI f), .null, .null, .null, .null, .null, .null] [] _ _ _
  generalize hF : mm_EQ _ _ _ = F
  refine w_st rfl rfl rfl trivial ?_
  refine w_k11 (c_isField) rfl ⟨rfl, by decide, by decide, by decide, Or.inr (Or.inl ⟨_, rfl⟩)⟩ (Nat.le_of_ble_eq_true rfl) trivial (Nat.le_of_ble_eq_true rfl) ?_  -- calls 44 cX4_isField
  refine w_b_ne rfl (fun _ => ?_) (fun z => absurd (⟨f, hf, rfl⟩) z)
  refine w_st rfl rfl rfl trivial ?_
  refine w_st rfl rfl rfl (Nat.le_of_ble_eq_true rfl) ?_
  refine w_st rfl rfl rfl trivial ?_
  refine w_st rfl rfl rfl (Nat.le_of_ble_eq_true rfl) ?_
  refine w_st rfl rfl rfl trivial ?_
  refine w_st rfl rfl rfl (Nat.le_of_ble_eq_true rfl) ?_
  refine w_st rfl rfl rfl trivial ?_
  refine w_st rfl rfl rfl (Nat.le_of_ble_eq_true rfl) ?_
  have K : ∀ l, l ≤ 15 → ∀ I1 v6 v7, sp_f3 7 I I1 → mm_W 40 27 [.ref 0, .int (nI f), .int (sp_wl σ f l).1, .int (sp_wl σ f l).2.1, .int (sp_wl σ f l).2.2, .int (nI l), v6, v7] [] g I1 F := by
    refine mm_dn 15 ?_ ?_
    · intro I1 v6 v7 h3
      refine w_st rfl rfl rfl trivial ?_
      refine w_st rfl rfl rfl trivial ?_
      refine w_n_ge (a := 15) (b := 15) rfl (by first | decide | omega) (by first | decide | omega) (by first | rfl | assumption | (simp only [← nI_add, ← nI_mul]; rfl)) (by first | rfl | assumption | (simp only [← nI_add, ← nI_mul]; rfl)) (fun _ => ?_) (fun c => by exfalso; omega)
      refine w_st rfl rfl rfl trivial ?_
      refine w_reti rfl ?_
      exact hF ▸ ⟨rfl, rfl, h3⟩
    · intro l hl ih I1 v6 v7 h3
      have h1 := sp_D_f3 h3 h
      have e : sp_wl σ f (l + 1) = sp_if (¬ σ (8 + f) &&& sp_bit l = 0) (sp_wl σ f l) (sp_if ((sp_wl σ f l).2.1 < sp_ib σ f l 0 ∨ (sp_ib σ f l 0 = (sp_wl σ f l).2.1 ∧ (sp_wl σ f l).2.2 < sp_ib σ f l 1)) (nI l, sp_ib σ f l 0, sp_ib σ f l 1) (sp_wl σ f l)) := rfl
      refine w_st rfl rfl rfl trivial ?_
      refine w_st rfl rfl rfl trivial ?_
      refine w_n_ge (a := l) (b := 15) rfl (by first | decide | omega) (by first | decide | omega) (by first | rfl | assumption | (simp only [← nI_add, ← nI_mul]; rfl)) (by first | rfl | assumption | (simp only [← nI_add, ← nI_mul]; rfl)) (fun c => by exfalso; omega) (fun _ => ?_)
      refine w_st rfl rfl rfl trivial ?_
      refine w_gr (j := 1) rfl (mm_foc rfl) rfl (by decide) ?_
      refine w_gr (j := 3) rfl (mm_foc rfl) rfl (by decide) ?_
      refine w_st rfl rfl rfl trivial ?_
      refine w_ia (f) rfl (mm_fac (n := 4) rfl) (by first | rfl | assumption | (simp only [← nI_add, ← nI_mul]; rfl)) (by first | decide | omega) ?_
      rw [sp_Db h1 hf]
      refine w_st rfl rfl rfl trivial ?_
      refine w_k21 (c_has) rfl ⟨rfl, by decide, by decide, by decide, Or.inr (Or.inl ⟨_, rfl⟩)⟩ (Nat.le_of_ble_eq_true rfl) trivial (Nat.le_of_ble_eq_true rfl) ?_  -- calls 50 cX4_has
      refine w_b_eq rfl (fun c1 => ?_) (fun c1 => ?_)
      · rw [sp_if_f c1] at e
        obtain ⟨I2, hM, hI, h4⟩ := c_tryBurning (g := g) (I := I1) (l := l) h1.1 hf
        have h2 := sp_D_f3 h4 h1
        have h5 : sp_f3 7 I I2 := fun p a b c => (h4 p a b c).trans (h3 p a b c)
        refine w_st rfl rfl rfl trivial ?_
        refine w_st rfl rfl rfl trivial ?_
        refine w_st rfl rfl rfl trivial ?_
        refine w_k30 (hM) rfl ⟨rfl, by decide, by decide, by decide, Or.inl ⟨_, rfl⟩⟩ (Nat.le_of_ble_eq_true rfl) (mm_foc rfl) (Nat.le_of_ble_eq_true rfl) ?_  -- calls 55 cX4_tryBurning
        refine w_st rfl rfl rfl trivial ?_
        refine w_gr (j := 7) rfl (mm_foc rfl) rfl (by decide) ?_
        refine w_k11 (c_hiddenDigits hU hI) rfl ⟨rfl, by decide, by decide, by decide, Or.inl ⟨_, rfl⟩⟩ (Nat.le_of_ble_eq_true rfl) (mm_foc rfl) (Nat.le_of_ble_eq_true rfl) ?_  -- calls 19 cX2_hiddenDigits
        refine w_st rfl rfl rfl (Nat.le_of_ble_eq_true rfl) ?_
        refine w_st rfl rfl rfl trivial ?_
        refine w_gr (j := 7) rfl (mm_foc rfl) rfl (by decide) ?_
        refine w_st rfl rfl rfl trivial ?_
        refine w_gr (j := 6) rfl (mm_foc rfl) rfl (by decide) ?_
        refine w_st rfl rfl rfl trivial ?_
        refine w_ra (j := 45 + 4 * (f)) (f) rfl (Or.inl (mm_fac (n := 4) rfl)) (by first | rfl | assumption | (simp only [← nI_add, ← nI_mul]; rfl)) (by first | decide | omega) (mm_T_6 (by omega)) (by omega) ?_
        refine w_k21 (c_changesFrom hU hT hI (h2.2 f hf)) rfl ⟨rfl, by decide, by decide, by decide, Or.inl ⟨_, rfl⟩⟩ (Nat.le_of_ble_eq_true rfl) (mm_foc rfl) (Nat.le_of_ble_eq_true rfl) ?_  -- calls 23 cX2_changesFrom
        have Y : mm_W 40 104 [.ref 0, .int (nI f), .int (sp_wl σ f l).1, .int (sp_wl σ f l).2.1, .int (sp_wl σ f l).2.2, .int (nI l), .int (sp_ib σ f l 0), .int (sp_ib σ f l 1)] [] g I2 F ∨ ¬ ((sp_wl σ f l).2.1 < sp_ib σ f l 0 ∨ (sp_ib σ f l 0 = (sp_wl σ f l).2.1 ∧ (sp_wl σ f l).2.2 < sp_ib σ f l 1)) := by
          refine Classical.or_iff_not_imp_right.2 (fun c => ?_)
          rw [sp_if_t (Classical.not_not.1 c)] at e
          rw [e] at ih
          refine w_st rfl rfl rfl trivial ?_
          refine w_st rfl rfl rfl (Nat.le_of_ble_eq_true rfl) ?_
          refine w_st rfl rfl rfl trivial ?_
          refine w_st rfl rfl rfl (Nat.le_of_ble_eq_true rfl) ?_
          refine w_st rfl rfl rfl trivial ?_
          refine w_st rfl rfl rfl (Nat.le_of_ble_eq_true rfl) ?_
          refine w_inc rfl rfl rfl (Nat.le_of_ble_eq_true rfl) (nI_1 _) ?_
          refine w_st rfl rfl rfl trivial ?_
          exact ih I2 _ _ h5
        have N : mm_W 40 114 [.ref 0, .int (nI f), .int (sp_wl σ f l).1, .int (sp_wl σ f l).2.1, .int (sp_wl σ f l).2.2, .int (nI l), .int (sp_ib σ f l 0), .int (sp_ib σ f l 1)] [] g I2 F ∨ ((sp_wl σ f l).2.1 < sp_ib σ f l 0 ∨ (sp_ib σ f l 0 = (sp_wl σ f l).2.1 ∧ (sp_wl σ f l).2.2 < sp_ib σ f l 1)) := by
          refine Classical.or_iff_not_imp_right.2 (fun c => ?_)
          rw [sp_if_f c] at e
          rw [e] at ih
          refine w_inc rfl rfl rfl (Nat.le_of_ble_eq_true rfl) (nI_1 _) ?_
          refine w_st rfl rfl rfl trivial ?_
          exact ih I2 _ _ h5
        refine w_st rfl rfl rfl (Nat.le_of_ble_eq_true rfl) ?_
        refine w_st rfl rfl rfl trivial ?_
        refine w_st rfl rfl rfl trivial ?_
        refine w_v_gt rfl (fun c2 => ?_) (fun c2 => ?_)
        · exact Y.resolve_right (fun z => z (Or.inl c2))
        · skip
          refine w_st rfl rfl rfl trivial ?_
          refine w_st rfl rfl rfl trivial ?_
          refine w_v_ne rfl (fun c3 => ?_) (fun c3 => ?_)
          · exact N.resolve_right (fun z => z.elim c2 (fun z => c3 z.1))
          · skip
            refine w_st rfl rfl rfl trivial ?_
            refine w_st rfl rfl rfl trivial ?_
            refine w_v_le rfl (fun c4 => ?_) (fun c4 => ?_)
            · exact N.resolve_right (fun z => z.elim c2 (fun z => absurd c4 (Int32.not_le.2 z.2)))
            · exact Y.resolve_right (fun z => z (Or.inr ⟨c3, Int32.not_le.1 c4⟩))
      · rw [sp_if_t c1] at e
        rw [e] at ih
        refine w_st rfl rfl rfl trivial ?_
        refine w_inc rfl rfl rfl (Nat.le_of_ble_eq_true rfl) (nI_1 _) ?_
        refine w_st rfl rfl rfl trivial ?_
        exact ih I1 v6 v7 h3
  exact K 0 (by decide) I .null .null (fun _ _ _ _ => rfl)
theorem c_strictest_1 (h1 : ¬ sp_lt 4 x) : mm_TH 41 3 [.ref 0, .int x] g I 1 := by
  refine w_MT ?_
  show mm_W 41 0 [.ref 0, .int x, .null] [] _ _ _
  generalize hF : mm_TX _ _ _ = F
  refine w_st rfl rfl rfl trivial ?_
  refine w_k11 (c_isField) rfl ⟨rfl, by decide, by decide, by decide, Or.inr (Or.inl ⟨_, rfl⟩)⟩ (Nat.le_of_ble_eq_true rfl) trivial (Nat.le_of_ble_eq_true rfl) ?_  -- calls 44 cX4_isField
  refine w_b_ne rfl (fun z => absurd z (h1)) (fun _ => ?_)
  refine w_thr rfl (Nat.le_of_ble_eq_true rfl) ?_
  exact hF ▸ ⟨rfl, rfl, rfl⟩
theorem c_strictest (h : sp_D I σ) (hf : f < 4) : ∃ I', mm_M 41 3 [.ref 0, .int (nI f)] g I (some (.int (sp_sr (σ (8 + f)) 5))) I' ∧ sp_f3 7 I I' := by
  have hU : mm_T 7 := Or.inl rfl
  refine w_MX ?_
  show mm_W 41 0 [.ref 0, .int (nI f), .null] [] _ _ _
  generalize hF : mm_EQ _ _ _ = F
  refine w_st rfl rfl rfl trivial ?_
  refine w_k11 (c_isField) rfl ⟨rfl, by decide, by decide, by decide, Or.inr (Or.inl ⟨_, rfl⟩)⟩ (Nat.le_of_ble_eq_true rfl) trivial (Nat.le_of_ble_eq_true rfl) ?_  -- calls 44 cX4_isField
  refine w_b_ne rfl (fun _ => ?_) (fun z => absurd (⟨f, hf, rfl⟩) z)
  refine w_st rfl rfl rfl trivial ?_
  refine w_st rfl rfl rfl (Nat.le_of_ble_eq_true rfl) ?_
  have K : ∀ s, s ≤ 5 → sp_sr (σ (8 + f)) 5 = sp_sr (σ (8 + f)) s → ∀ I1, sp_f3 7 I I1 → mm_W 41 19 [.ref 0, .int (nI f), .int (nI s)] [] g I1 F := by
    intro s
    induction s with
    | zero =>
      intro _ e I1 h3
      refine w_st rfl rfl rfl trivial ?_
      refine w_st rfl rfl rfl trivial ?_
      refine w_n_lt (a := 0) (b := 1) rfl (by first | decide | omega) (by first | decide | omega) (by first | rfl | assumption | (simp only [← nI_add, ← nI_mul]; rfl)) (by first | rfl | assumption | (simp only [← nI_add, ← nI_mul]; rfl)) (fun _ => ?_) (fun c => by exfalso; omega)
      refine w_st rfl rfl rfl trivial ?_
      refine w_reti rfl ?_
      exact hF ▸ ⟨by rw [e]; rfl, rfl, h3⟩
    | succ s ih =>
      intro hs e I1 h3
      have h1 := sp_D_f3 h3 h
      have e1 : sp_sr (σ (8 + f)) (s + 1) = sp_if (sp_no (sp_row (σ (8 + f)) (nI (s + 1))) 10 = 0) (nI (s + 1)) (sp_sr (σ (8 + f)) s) := rfl
      refine w_st rfl rfl rfl trivial ?_
      refine w_st rfl rfl rfl trivial ?_
      refine w_n_lt (a := s + 1) (b := 1) rfl (by first | decide | omega) (by first | decide | omega) (by first | rfl | assumption | (simp only [← nI_add, ← nI_mul]; rfl)) (by first | rfl | assumption | (simp only [← nI_add, ← nI_mul]; rfl)) (fun c => by exfalso; omega) (fun _ => ?_)
      refine w_st rfl rfl rfl trivial ?_
      refine w_gr (j := 7) rfl (mm_foc rfl) rfl (by decide) ?_
      refine w_st rfl rfl rfl trivial ?_
      refine w_gr (j := 1) rfl (mm_foc rfl) rfl (by decide) ?_
      refine w_gr (j := 3) rfl (mm_foc rfl) rfl (by decide) ?_
      refine w_st rfl rfl rfl trivial ?_
      refine w_ia (f) rfl (mm_fac (n := 4) rfl) (by first | rfl | assumption | (simp only [← nI_add, ← nI_mul]; rfl)) (by first | decide | omega) ?_
      rw [sp_Db h1 hf]
      obtain ⟨I2, hM, hI, h4⟩ := c_choose (g := g) (I := I1) (b := σ (8 + f)) (s := nI (s + 1)) hU
      have h5 : sp_f3 7 I I2 := fun p a b c => (h4 p a b c).trans (h3 p a b c)
      refine w_st rfl rfl rfl trivial ?_
      refine w_k30 (hM) rfl ⟨rfl, by decide, by decide, by decide, Or.inl ⟨_, rfl⟩⟩ (Nat.le_of_ble_eq_true rfl) (mm_foc rfl) (Nat.le_of_ble_eq_true rfl) ?_  -- calls 10 cX2_choose
      refine w_st rfl rfl rfl trivial ?_
      refine w_gr (j := 7) rfl (mm_foc rfl) rfl (by decide) ?_
      refine w_k11 (c_hiddenDigits hU hI) rfl ⟨rfl, by decide, by decide, by decide, Or.inl ⟨_, rfl⟩⟩ (Nat.le_of_ble_eq_true rfl) (mm_foc rfl) (Nat.le_of_ble_eq_true rfl) ?_  -- calls 19 cX2_hiddenDigits
      have := sp_no_le (sp_row (σ (8 + f)) (nI (s + 1))) 10
      refine w_m_ne (a := sp_no (sp_row (σ (8 + f)) (nI (s + 1))) 10) rfl (by first | decide | omega) (by first | rfl | assumption | (simp only [← nI_add, ← nI_mul]; rfl)) (fun c => ?_) (fun c => ?_)
      · rw [sp_if_f (by omega)] at e1
        refine w_inc rfl rfl rfl (Nat.le_of_ble_eq_true rfl) (nI_dec _) ?_
        refine w_st rfl rfl rfl trivial ?_
        exact ih (by omega) (e.trans e1) I2 h5
      · rw [sp_if_t c] at e1
        refine w_st rfl rfl rfl trivial ?_
        refine w_reti rfl ?_
        exact hF ▸ ⟨by rw [e, e1], rfl, h5⟩
  exact K 5 (by decide) rfl I (fun _ _ _ _ => rfl)
end SM
end
section
/-! what the reference tells of a state -/
/-- a state that can be -/
def sp_ok (σ : sp_St) : Prop := (∀ f, f < 4 → σ (4 + f) = -1 ∨ ∃ d, d < 10 ∧ σ (4 + f) = nI d) ∧ (∀ f, f < 4 → sp_b15 (σ (8 + f))) ∧ (∃ s, 1 ≤ s ∧ s ≤ 5 ∧ σ 1 = nI s) ∧ (∃ l, l ≤ 99 ∧ σ 2 = nI l) ∧ ∃ n, n ≤ 99999 ∧ σ 0 = nI n ∧ ∀ j, j < 60 → ∃ h, h ≤ n ∧ σ (12 + j) = nI h
def sp_L (I : mm_Is) (p : Nat) (r : Nat → Int32) : Prop := ∀ d, d < 10 → I p d = r d
noncomputable def sp_mr (r : Nat → Int32) : Nat → Int32
  | 0 => 0
  | j + 1 => sp_mr r j ||| sp_if (r (9 - j) = -1) (0 : Int32) ((1 : Int32) <<< (nI (9 - j) &&& 31))
theorem sp_mr_mk (r : Nat → Int32) : ∀ n, n ≤ 10 → sp_mk r n ||| sp_mr r (10 - n) = sp_mr r 10 := by
  intro n
  induction n with
  | zero => intro _; exact Int32.zero_or
  | succ n ih =>
    intro hn
    rw [← ih (by omega)]
    obtain ⟨j, hj⟩ : ∃ j, 10 - n = j + 1 := ⟨9 - n, by omega⟩
    have e : sp_mr r (10 - n) = sp_mr r (10 - (n + 1)) ||| sp_if (r n = -1) (0 : Int32) ((1 : Int32) <<< (nI n &&& 31)) := by
      rw [hj]
      show sp_mr r j ||| sp_if (r (9 - j) = -1) _ ((1 : Int32) <<< (nI (9 - j) &&& 31)) = _
      rw [show 9 - j = n from by omega, show 10 - (n + 1) = j from by omega]
    rw [e]
    show (sp_mk r n ||| sp_if (r n = -1) (0 : Int32) ((1 : Int32) <<< (nI n &&& 31))) ||| _ = _
    rw [Int32.or_assoc, Int32.or_comm (sp_if _ _ _)]
theorem sp_mr_10 (r : Nat → Int32) : sp_mr r 10 = sp_mk r 10 := by
  rw [← sp_mr_mk r 10 (Nat.le_refl _)]
  exact Int32.or_zero
noncomputable def sp_dk (σ : sp_St) : Nat → Nat
  | 0 => 0
  | n + 1 => sp_dk σ n + sp_if (¬ σ (4 + n) = -1 ∧ ¬ sp_vis σ n) 1 0
theorem sp_vis_ne {σ : sp_St} {f : Nat} (h : sp_vis σ f) : ¬ σ (4 + f) = -1 := by
  obtain ⟨d, hd, h1, _⟩ := h
  rw [h1]; exact nI_ne1 (by omega)
theorem sp_dk_wd (σ : sp_St) (n : Nat) : sp_wd σ n = sp_fs σ n + sp_dk σ n := by
  induction n with
  | zero => rfl
  | succ n ih =>
    show sp_wd σ n + sp_if _ 0 1 = (sp_fs σ n + sp_if _ 1 0) + (sp_dk σ n + sp_if _ 1 0)
    by_cases c : σ (4 + n) = -1
    · have v : ¬ sp_vis σ n := fun z => sp_vis_ne z c
      rw [sp_if_t c, sp_if_f v, sp_if_f (fun z => z.1 c)]; omega
    · by_cases v : sp_vis σ n
      · rw [sp_if_f c, sp_if_t v, sp_if_f (fun z => z.2 v)]; omega
      · rw [sp_if_f c, sp_if_f v, sp_if_t ⟨c, v⟩]; omega
theorem sp_nr_k {r : Nat → Int32} {b L : Int32} (h : ∀ d, d < 10 → r d = -1 ∨ ∃ j, j < 3 ∧ r d = nI j) (hL : sp_b15 L) : ∀ d, d ≤ 10 → ∃ k, k ≤ 16 ∧ (sp_nr r b L d).2 = nI k := by
  intro d
  induction d with
  | zero => intro _; exact ⟨16, Nat.le_refl _, rfl⟩
  | succ d ih =>
    intro hd
    obtain ⟨k, hk, e⟩ := ih (by omega)
    have e1 : sp_nr r b L (d + 1) = sp_if (r d = -1) (sp_nr r b L d) (sp_if (sp_pop (L ^^^ sp_sh b d (r d)) < (sp_nr r b L d).2) (nI d, sp_pop (L ^^^ sp_sh b d (r d))) (sp_if (sp_pop (L ^^^ sp_sh b d (r d)) = (sp_nr r b L d).2) (-1, (sp_nr r b L d).2) (sp_nr r b L d))) := rfl
    by_cases c : r d = -1
    · rw [e1, sp_if_t c]; exact ⟨k, hk, e⟩
    · rw [e1, sp_if_f c]
      by_cases c2 : sp_pop (L ^^^ sp_sh b d (r d)) < (sp_nr r b L d).2
      · rw [sp_if_t c2]
        obtain ⟨j, hj, hr⟩ := (h d (by omega)).resolve_left c
        rw [hr]
        obtain ⟨i, hi, e2⟩ := sp_pop_k (sp_b15_xor hL (sp_b15_sh (b := b) (d := d) (by omega) hj))
        exact ⟨i, by omega, e2⟩
      · rw [sp_if_f c2]
        by_cases c3 : sp_pop (L ^^^ sp_sh b d (r d)) = (sp_nr r b L d).2
        · rw [sp_if_t c3]; exact ⟨k, hk, e⟩
        · rw [sp_if_f c3]; exact ⟨k, hk, e⟩
section SM
variable {g : mm_Gg} {I : mm_Is} {x y z : Int32} {l d k t u f w n : Nat} {σ : sp_St}
theorem sp_ns_s (hf : f < 4) (a : Int32) : sp_ns σ (4 - f) a = sp_if (sp_vis σ f) (sp_ns σ (4 - (f + 1)) (sp_if (a = -1) (σ (4 + f)) (10 * a + σ (4 + f)))) (sp_if (¬ σ (4 + f) = -1 ∨ ¬ a = -1) (-1) (sp_ns σ (4 - (f + 1)) a)) := by
  obtain ⟨i, hi⟩ : ∃ i, 4 - f = i + 1 := ⟨3 - f, by omega⟩
  have h1 : 3 - i = f := by omega
  have h2 : 4 - (f + 1) = i := by omega
  rw [hi, h2]
  show sp_if (sp_vis σ (3 - i)) _ _ = _
  rw [h1]
end SM
end
section
/-! the reference's looks -/
theorem sp_lit_c {σ : sp_St} {f d : Nat} (hd : d < 10) (e : σ (4 + f) = nI d) (x : Int32) : sp_if (sp_vis σ f) x 0 = sp_if (sp_R σ f d = -1) 0 x := by
  by_cases c : sp_R σ f d = -1
  · rw [sp_if_t c, sp_if_f (fun z => (sp_can_n hd).1 (show sp_can (sp_R σ f) (nI d) from by rw [← e]; exact z) c)]
  · rw [sp_if_f c, sp_if_t (show sp_vis σ f from by unfold sp_vis; rw [e]; exact (sp_can_n hd).2 c)]
section SM
variable {g : mm_Gg} {I : mm_Is} {x y z : Int32} {l d k t u f w n : Nat} {σ : sp_St}
end SM
end
section
/-! the reference: worst lamp, next burning, and its public looks -/
theorem sp_bit_tw {l : Nat} (h : l < 15) : (sp_bit l).toBitVec = BitVec.twoPow 32 (14 - l) := by
  revert l
  decide +kernel
theorem sp_tw0 {i : Nat} (h : i < 15) : ¬ BitVec.twoPow 32 i = 0#32 := by
  revert i
  decide +kernel
theorem sp_and_bit {x : Int32} {l : Nat} (h : l < 15) : x &&& sp_bit l = 0 ↔ x.toBitVec.getLsbD (14 - l) = false := by
  rw [← Int32.toBitVec_inj, Int32.toBitVec_and, sp_bit_tw h, BitVec.and_twoPow]
  show (if _ then _ else _) = 0#32 ↔ _
  cases c : x.toBitVec.getLsbD (14 - l)
  · simp
  · simp only [if_true]
    exact ⟨fun z => absurd z (sp_tw0 (by omega)), fun z => by cases z⟩
theorem sp_not_bit {b : Int32} {l : Nat} (h : l < 15) : (b ^^^ (-1)) &&& sp_bit l = 0 ↔ ¬ b &&& sp_bit l = 0 := by
  rw [sp_and_bit h, sp_and_bit h, Int32.toBitVec_xor, show (-1 : Int32).toBitVec = BitVec.allOnes 32 from by decide]
  simp only [BitVec.getLsbD_xor, BitVec.getLsbD_allOnes]
  rw [show decide (14 - l < 32) = true from by simp; omega]
  cases b.toBitVec.getLsbD (14 - l) <;> simp
theorem sp_and_bit2 {x y : Int32} {l : Nat} (h : l < 15) : x &&& y &&& sp_bit l = 0 ↔ (x &&& sp_bit l = 0 ∨ y &&& sp_bit l = 0) := by
  rw [sp_and_bit h, sp_and_bit h, sp_and_bit h, Int32.toBitVec_and, BitVec.getLsbD_and, Bool.and_eq_false_iff]
theorem sp_lit_nb {σ : sp_St} {f l : Nat} (hl : l < 15) (h : ¬ sp_lit σ f &&& sp_bit l = 0) : σ (8 + f) &&& sp_bit l = 0 := by
  unfold sp_lit at h
  by_cases c : sp_vis σ f
  · rw [sp_if_t c] at h
    unfold sp_sh at h
    rw [sp_and_bit2 hl] at h
    exact Classical.byContradiction (fun z => h (Or.inr ((sp_not_bit hl).2 z)))
  · rw [sp_if_f c] at h
    exact absurd Int32.zero_and h
theorem nI_sub_lt {a b : Nat} (h : a ≤ b) (hb : b < 2 ^ 30) : nI a - nI b < 1 := by
  rw [Int32.lt_iff_toInt_lt, Int32.toInt_sub, nI_toInt (by omega), nI_toInt (by omega), show (1 : Int32).toInt = 1 from by decide]
  unfold Int.bmod
  dsimp only
  split <;> omega
section SM
variable {g : mm_Gg} {I : mm_Is} {x y z : Int32} {l d k t u f w n : Nat} {σ : sp_St}
theorem sp_n2_0 {a : Int32} (h : σ 2 = 0) (f n : Nat) : sp_n2 σ f a n = a := by
  induction n with
  | zero => rfl
  | succ n ih =>
    show sp_n1 (sp_n2 σ f a n) (sp_hu σ f n) = a
    rw [ih, show sp_hu σ f n = -1 from sp_if_t (Or.inl h) _ _]
    exact sp_if_f (fun z => z.1 rfl) _ _
theorem sp_nb_0 (h : σ 2 = 0) (n : Nat) : sp_nb σ n = -1 := by
  induction n with
  | zero => rfl
  | succ n ih =>
    show sp_n2 σ n (sp_nb σ n) 15 = -1
    rw [sp_n2_0 h, ih]
theorem sp_n1_no (a : Int32) : sp_n1 a (-1) = a := sp_if_f (fun z => z.1 rfl) _ _
end SM
end
section
/-! the reference's public looks -/
theorem sp_lt8 (n : Nat) (hn : n + 1 < 2 ^ 31) {x y : Int32} (hy : y = nI n) : (0 ≤ x ∧ x ≤ y) ↔ sp_lt (n + 1) x := ⟨fun h => sp_le_i hn hy h.1 h.2, fun h => sp_le_n hn hy h⟩
noncomputable def sp_nt (σ : sp_St) : Nat → Nat
  | 0 => 0
  | n + 1 => sp_nt σ n + sp_no (sp_R σ n) 10
theorem sp_nt_le (σ : sp_St) (n : Nat) : sp_nt σ n + sp_ct σ n = 10 * n := by
  induction n with
  | zero => rfl
  | succ n ih =>
    show sp_nt σ n + sp_no (sp_R σ n) 10 + (sp_ct σ n + (10 - sp_no (sp_R σ n) 10)) = _
    have := sp_no_le (sp_R σ n) 10
    omega
def sp_cl (m : Nat) : UInt64 := FP.ddiv (FP.i2d (nI m)) 4630826316843712512
theorem sp_cl_n : ∀ m, m < 41 → vf_n64 (sp_cl m) := by unfold vf_n64; decide +kernel
section SM
variable {g : mm_Gg} {I : mm_Is} {x y z : Int32} {l d k t u f w n : Nat} {σ : sp_St}
theorem c_clarity (h : sp_D I σ) : mm_M 43 3 [.ref 0] g I (some (.double (sp_cl (sp_ct σ 4)))) I := by
  refine w_M ?_
  show mm_W 43 0 [.ref 0, .null, .null] [] _ _ _
  generalize hF : mm_EX _ _ _ = F
  refine w_st rfl rfl rfl trivial ?_
  refine w_st rfl rfl rfl (Nat.le_of_ble_eq_true rfl) ?_
  refine w_st rfl rfl rfl trivial ?_
  refine w_st rfl rfl rfl (Nat.le_of_ble_eq_true rfl) ?_
  refine mm_dn (P := fun j => mm_W 43 4 [.ref 0, .int (nI (sp_ct σ j)), .int (nI j)] [] g I F) (4) ?_ ?_ 0 (by first | decide | omega)
  · try dsimp only
    refine w_st rfl rfl rfl trivial ?_
    refine w_st rfl rfl rfl trivial ?_
    refine w_n_ge (a := 4) (b := 4) rfl (by first | decide | omega) (by first | decide | omega) (by first | rfl | assumption | (simp only [← nI_add, ← nI_mul]; rfl)) (by first | rfl | assumption | (simp only [← nI_add, ← nI_mul]; rfl)) (fun _ => ?_) (fun c => by exfalso; omega)
    have hv : vf_n64 (FP.ddiv (FP.i2d (nI (sp_ct σ 4))) 4630826316843712512) := sp_cl_n _ (by have := sp_nt_le σ 4; omega)
    refine w_st rfl rfl rfl trivial ?_
    refine w_st rfl rfl rfl trivial ?_
    refine w_st rfl rfl rfl trivial ?_
    refine w_st rfl rfl rfl (by assumption) ?_
    refine w_retd rfl ?_
    exact hF ▸ ⟨rfl, rfl, rfl⟩
  · intro j hj ih
    try dsimp only at ih ⊢
    have hT : mm_T (45 + 4 * j) := mm_T_f hj
    have hle := sp_no_le (sp_R σ j) 10
    refine w_st rfl rfl rfl trivial ?_
    refine w_st rfl rfl rfl trivial ?_
    refine w_n_ge (a := j) (b := 4) rfl (by first | decide | omega) (by first | decide | omega) (by first | rfl | assumption | (simp only [← nI_add, ← nI_mul]; rfl)) (by first | rfl | assumption | (simp only [← nI_add, ← nI_mul]; rfl)) (fun c => by exfalso; omega) (fun _ => ?_)
    refine w_st rfl rfl rfl trivial ?_
    refine w_st rfl rfl rfl trivial ?_
    refine w_st rfl rfl rfl trivial ?_
    refine w_gr (j := 6) rfl (mm_foc rfl) rfl (by decide) ?_
    refine w_st rfl rfl rfl trivial ?_
    refine w_ra (j := 45 + 4 * (j)) (j) rfl (Or.inl (mm_fac (n := 4) rfl)) (by first | rfl | assumption | (simp only [← nI_add, ← nI_mul]; rfl)) (by first | decide | omega) (mm_T_6 (by omega)) (by omega) ?_
    refine w_k11 (c_hiddenDigits hT (h.2 j hj)) rfl ⟨rfl, by decide, by decide, by decide, Or.inl ⟨_, rfl⟩⟩ (Nat.le_of_ble_eq_true rfl) (mm_T_o hT) (Nat.le_of_ble_eq_true rfl) ?_  -- calls 19 cX2_hiddenDigits
    refine w_isub rfl ?_
    refine w_iadd rfl ?_
    refine w_hd (show nI (sp_ct σ j) + (nI 10 - nI (sp_no (sp_R σ j) 10)) = nI (sp_ct σ (j + 1)) from by rw [nI_sub hle, nI_add]; rfl) ?_
    refine w_st rfl rfl rfl (Nat.le_of_ble_eq_true rfl) ?_
    refine w_inc rfl rfl rfl (Nat.le_of_ble_eq_true rfl) (nI_1 _) ?_
    refine w_st rfl rfl rfl trivial ?_
    exact ih
end SM
end
section
/-! the class's board, history and text -/
theorem w_cp {mi pc np : Nat} {ls st : List Value} {g : mm_Gg} {I : mm_Is} {F : mm_Ph} {w a b na nb : Nat} {v : Value} {tl : List Nat} (n : Nat) {x : Int32} (he : mm_code mi pc = some (.invokestatic w, np, v, 7 :: tl)) (hp : mm_pl (.invokestatic w, np, v, 7 :: tl) = true) (ha : mm_fa a 10 na) (hb : mm_fa b 10 nb) (hx : x = nI n) (h1 : n ≤ na) (h2 : n ≤ nb) (hs : (st.map Value.category).sum ≤ 8) (K : mm_W mi np ls st g (va_up I b (va_cpy (I a) (I b) 0 0 n)) F) : mm_W mi pc ls (.int x :: .int 0 :: .ref b :: .int 0 :: .ref a :: st) g I F := by
  subst hx
  have hn : n < 2 ^ 31 := by have := ha.2.2; omega
  have hc : (nI n).toNatClampNeg = n := nI_clamp hn
  have h0 : (0 : Int32).toNatClampNeg = 0 := by decide
  refine w_of (fun _ k => mm_step (P := mm_ob (mm_hp g I) a 10 ∧ mm_ob (mm_hp g I) b 10 ∧ ¬ (0 : Int32) < 0 ∧ ¬ (0 : Int32) < 0 ∧ ¬ nI n < 0 ∧ (0 : Int32).toNatClampNeg + (nI n).toNatClampNeg ≤ (mm_K (mm_hp g I) a).2 ∧ (0 : Int32).toNatClampNeg + (nI n).toNatClampNeg ≤ (mm_K (mm_hp g I) b).2 ∧ (st.map Value.category).sum ≤ 8) he hp rfl ?_ k) (ls' := ls) (st' := st) (g' := g) (I' := va_up I b (va_cpy (I a) (I b) (0 : Int32).toNatClampNeg (0 : Int32).toNatClampNeg (nI n).toNatClampNeg)) ?_
  · rw [hc, h0]
    refine ⟨⟨ha.1, ?_⟩, ⟨hb.1, ?_⟩, by decide, by decide, nI_pos hn, ?_, ?_, hs⟩
    · show (mm_K0 a).1 = 10; rw [ha.2.1]
    · show (mm_K0 b).1 = 10; rw [hb.2.1]
    · show 0 + n ≤ (mm_K0 a).2; rw [ha.2.1]; omega
    · show 0 + n ≤ (mm_K0 b).2; rw [hb.2.1]; omega
  · rw [hc, h0]; exact K
theorem va_cpy_i {α : Type} {f g : Nat → α} {n k : Nat} (h : k < n) : va_cpy f g 0 0 n k = f k := by
  show (if 0 ≤ k ∧ k < 0 + n then f (0 + (k - 0)) else g k) = f k
  rw [if_pos (by omega)]
  congr 1
  omega
def sp_in5 (b p : Nat) : Prop := b ≤ p ∧ p < b + 5
theorem sp_bd_c {I I' : mm_Is} {b : Nat} {σ : sp_St} (h : ∀ p, sp_in5 b p → I' p = I p) (x : sp_bd I b σ) : sp_bd I' b σ := by
  unfold sp_bd at x ⊢
  rw [h (b + 1 + 0) ⟨by omega, by omega⟩, h (b + 1 + 1) ⟨by omega, by omega⟩, h (b + 1 + 2) ⟨by omega, by omega⟩, h (b + 1 + 3) ⟨by omega, by omega⟩, h b ⟨by omega, by omega⟩]
  exact x
def sp_ckr (a : Nat) : Bool := decide (nI a / 10 = nI (a / 10)) && decide (nI a - nI a / 10 * 10 = nI (a % 10))
theorem sp_ckr_all : sp_al sp_ckr 14 0 = true := by decide +kernel
theorem nI_div10 {a : Nat} (h : a < 10000) : nI a / 10 = nI (a / 10) ∧ nI a - nI a / 10 * 10 = nI (a % 10) := by
  have x := sp_al_of 14 0 sp_ckr_all a (Nat.zero_le _) (by omega)
  unfold sp_ckr at x
  rw [Bool.and_eq_true, decide_eq_true_eq, decide_eq_true_eq] at x
  exact x
theorem nI_mod6 : ∀ a, a < 13 → nI a - nI a / 6 * 6 = nI (a % 6) := by decide +kernel
/-- the class's history -/
def sp_H (I : mm_Is) (n : Nat) (ps : Nat → sp_St) : Prop := I 13 2 = nI n ∧ n ≤ 6 ∧ ∃ o, o < 6 ∧ I 13 1 = nI o ∧ ∀ i, i < n → sp_bd I (15 + 5 * ((o + i) % 6)) (ps i)
def sp_X (I : mm_Is) (m : Nat) (tx : Nat → Int32) : Prop := I 11 1 = nI m ∧ m ≤ 60 ∧ ∀ i, i < m → I 12 i = tx i
def sp_sn (n : Nat) : Nat := if n < 6 then n + 1 else 6
def sp_sp (n : Nat) (ps : Nat → sp_St) (σ : sp_St) : Nat → sp_St := fun i => if n < 6 then (if i = n then σ else ps i) else (if i = 5 then σ else ps (i + 1))
section SM
variable {g : mm_Gg} {I : mm_Is} {x y z : Int32} {l d k t u f w n b o m : Nat} {σ τ : sp_St} {ps : Nat → sp_St} {tx : Nat → Int32}
theorem c_copyFrom (hB : mm_B b) (hO : mm_B o) (hne : ∀ p, sp_in5 b p → ¬ sp_in5 o p) (h : sp_bd I o σ) : ∃ I', mm_M 1 2 [.ref b, .ref o] g I none I' ∧ (sp_bd I' b σ ∧ ∀ p, ¬ sp_in5 b p → I' p = I p) := by
  have ne : ∀ i j, i < 5 → j < 5 → ¬ o + i = b + j := fun i j hi hj e => hne (b + j) ⟨by omega, by omega⟩ ⟨by omega, by omega⟩
  have n00 := ne 1 1 (by decide) (by decide)
  have n10 := ne 2 1 (by decide) (by decide)
  have n20 := ne 3 1 (by decide) (by decide)
  have n21 := ne 3 2 (by decide) (by decide)
  have n11 := ne 2 2 (by decide) (by decide)
  have n30 := ne 4 1 (by decide) (by decide)
  have n31 := ne 4 2 (by decide) (by decide)
  have n32 := ne 4 3 (by decide) (by decide)
  have n40 := ne 0 1 (by decide) (by decide)
  have n41 := ne 0 2 (by decide) (by decide)
  have n42 := ne 0 3 (by decide) (by decide)
  have n43 := ne 0 4 (by decide) (by decide)
  have n44 := ne 0 0 (by decide) (by decide)
  refine w_MX ?_
  show mm_W 1 0 [.ref b, .ref o] [] _ _ _
  generalize hF : mm_EQ _ _ _ = F
  refine w_st rfl rfl rfl trivial ?_
  refine w_gr (j := (o + 1 + 0)) rfl (mm_B_o hO) (mm_B_r hO (by decide)) mm_T_0 ?_
  refine w_st rfl rfl rfl trivial ?_
  refine w_st rfl rfl rfl trivial ?_
  refine w_gr (j := (b + 1 + 0)) rfl (mm_B_o hB) (mm_B_r hB (by decide)) mm_T_0 ?_
  refine w_st rfl rfl rfl trivial ?_
  refine w_st rfl rfl rfl trivial ?_
  refine w_cp (4) rfl rfl (na := 4) (mm_B_a hO (by decide)) (nb := 4) (mm_B_a hB (by decide)) (by first | rfl | assumption | (simp only [← nI_add, ← nI_mul]; rfl)) (by first | decide | omega) (by first | decide | omega) (Nat.le_of_ble_eq_true rfl) ?_
  refine w_st rfl rfl rfl trivial ?_
  refine w_gr (j := (o + 1 + 1)) rfl (mm_B_o hO) (mm_B_r hO (by decide)) mm_T_0 ?_
  refine w_st rfl rfl rfl trivial ?_
  refine w_st rfl rfl rfl trivial ?_
  refine w_gr (j := (b + 1 + 1)) rfl (mm_B_o hB) (mm_B_r hB (by decide)) mm_T_0 ?_
  refine w_st rfl rfl rfl trivial ?_
  refine w_st rfl rfl rfl trivial ?_
  refine w_cp (4) rfl rfl (na := 4) (mm_B_a hO (by decide)) (nb := 4) (mm_B_a hB (by decide)) (by first | rfl | assumption | (simp only [← nI_add, ← nI_mul]; rfl)) (by first | decide | omega) (by first | decide | omega) (Nat.le_of_ble_eq_true rfl) ?_
  refine w_st rfl rfl rfl trivial ?_
  refine w_gr (j := (o + 1 + 2)) rfl (mm_B_o hO) (mm_B_r hO (by decide)) mm_T_0 ?_
  refine w_st rfl rfl rfl trivial ?_
  refine w_st rfl rfl rfl trivial ?_
  refine w_gr (j := (b + 1 + 2)) rfl (mm_B_o hB) (mm_B_r hB (by decide)) mm_T_0 ?_
  refine w_st rfl rfl rfl trivial ?_
  refine w_st rfl rfl rfl trivial ?_
  refine w_cp (60) rfl rfl (na := 60) (mm_B_a hO (by decide)) (nb := 60) (mm_B_a hB (by decide)) (by first | rfl | assumption | (simp only [← nI_add, ← nI_mul]; rfl)) (by first | decide | omega) (by first | decide | omega) (Nat.le_of_ble_eq_true rfl) ?_
  refine w_st rfl rfl rfl trivial ?_
  refine w_gr (j := (o + 1 + 3)) rfl (mm_B_o hO) (mm_B_r hO (by decide)) mm_T_0 ?_
  refine w_st rfl rfl rfl trivial ?_
  refine w_st rfl rfl rfl trivial ?_
  refine w_gr (j := (b + 1 + 3)) rfl (mm_B_o hB) (mm_B_r hB (by decide)) mm_T_0 ?_
  refine w_st rfl rfl rfl trivial ?_
  refine w_st rfl rfl rfl trivial ?_
  refine w_cp (2) rfl rfl (na := 2) (mm_B_a hO (by decide)) (nb := 2) (mm_B_a hB (by decide)) (by first | rfl | assumption | (simp only [← nI_add, ← nI_mul]; rfl)) (by first | decide | omega) (by first | decide | omega) (Nat.le_of_ble_eq_true rfl) ?_
  refine w_st rfl rfl rfl trivial ?_
  refine w_st rfl rfl rfl trivial ?_
  refine w_gi rfl (mm_B_o hO) ?_
  refine w_pi rfl (mm_B_o hB) ?_
  refine w_st rfl rfl rfl trivial ?_
  refine w_st rfl rfl rfl trivial ?_
  refine w_gi rfl (mm_B_o hO) ?_
  refine w_pi rfl (mm_B_o hB) ?_
  refine w_retv rfl ?_
  subst hF
  refine ⟨rfl, rfl, ?_⟩
  unfold sp_bd at h ⊢
  obtain ⟨h1, h2, h3, h4, h5, h6⟩ := h
  refine ⟨⟨fun f hf => ?_, fun f hf => ?_, fun j hj => ?_, fun k hk => ?_, ?_, ?_⟩, fun p hp => ?_⟩
  · rw [va_up_ne _ _ (by omega), va_up_ne _ _ (by omega), va_up_ne _ _ (by omega), va_up_ne _ _ (by omega), va_up_ne _ _ (by omega), va_up_self, va_cpy_i hf]
    exact h1 f hf
  · rw [va_up_ne _ _ (by omega), va_up_ne _ _ (by omega), va_up_ne _ _ (by omega), va_up_ne _ _ (by omega), va_up_self, va_cpy_i hf, va_up_ne _ _ (by omega)]
    exact h2 f hf
  · rw [va_up_ne _ _ (by omega), va_up_ne _ _ (by omega), va_up_ne _ _ (by omega), va_up_self, va_cpy_i hj, va_up_ne _ _ (by omega), va_up_ne _ _ (by omega)]
    exact h3 j hj
  · rw [va_up_ne _ _ (by omega), va_up_ne _ _ (by omega), va_up_self, va_cpy_i hk, va_up_ne _ _ (by omega), va_up_ne _ _ (by omega), va_up_ne _ _ (by omega)]
    exact h4 k hk
  · rw [mm_un (Or.inr (by decide)), mm_uu, va_up_ne _ _ (by omega), va_up_ne _ _ (by omega), va_up_ne _ _ (by omega), va_up_ne _ _ (by omega)]
    exact h5
  · rw [mm_uu, mm_un (Or.inl (by omega)), va_up_ne _ _ (by omega), va_up_ne _ _ (by omega), va_up_ne _ _ (by omega), va_up_ne _ _ (by omega)]
    exact h6
  · unfold sp_in5 at hp
    rw [va_up_ne _ _ (by omega), va_up_ne _ _ (by omega), va_up_ne _ _ (by omega), va_up_ne _ _ (by omega), va_up_ne _ _ (by omega), va_up_ne _ _ (by omega)]
theorem c_slot (h : I 13 1 = nI o) (ho : o < 6) (hk : k ≤ 6) : mm_M 8 2 [.ref 13, .int (nI k)] g I (some (.int (nI ((o + k) % 6)))) I := by
  refine w_M ?_
  show mm_W 8 0 [.ref 13, .int (nI k)] [] _ _ _
  generalize hF : mm_EX _ _ _ = F
  refine w_st rfl rfl rfl trivial ?_
  refine w_gi rfl (mm_foc rfl) ?_
  refine w_st rfl rfl rfl trivial ?_
  refine w_iadd rfl ?_
  refine w_hd (show I 13 1 + nI k = nI (o + k) from by rw [h, nI_add]) ?_
  refine w_st rfl rfl rfl trivial ?_
  refine w_irem rfl (by decide) ?_
  refine w_reti rfl ?_
  exact hF ▸ mm_EX_i (nI_mod6 _ (by omega))
theorem c_save (hb : sp_bd I 1 σ) (h : sp_H I n ps) : ∃ I', mm_M 6 2 [.ref 13, .ref 1] g I none I' ∧ (sp_H I' (sp_sn n) (sp_sp n ps σ) ∧ ∀ p, ¬ p = 13 → ¬ (15 ≤ p ∧ p < 45) → I' p = I p) := by
  obtain ⟨h1, h2, o, ho, h3, h4⟩ := h
  obtain ⟨I1, hM, hb1, hf⟩ := c_copyFrom (g := g) (I := I) (b := 15 + 5 * ((o + n) % 6)) (o := 1) (mm_B_i (by omega)) (Or.inl rfl) (fun p a c => by unfold sp_in5 at a c; omega) hb
  have e13 : I1 13 = I 13 := hf 13 (fun z => by unfold sp_in5 at z; omega)
  have old : ∀ i, i < 6 → ¬ i = (o + n) % 6 → ∀ p, sp_in5 (15 + 5 * i) p → I1 p = I p := by
    intro i hi hne p hp
    refine hf p (fun z => ?_)
    unfold sp_in5 at z hp
    omega
  refine w_MX ?_
  show mm_W 6 0 [.ref 13, .ref 1] [] _ _ _
  generalize hF : mm_EQ _ _ _ = F
  refine w_st rfl rfl rfl trivial ?_
  refine w_gr (j := 14) rfl (mm_foc rfl) rfl (by decide) ?_
  refine w_st rfl rfl rfl trivial ?_
  refine w_st rfl rfl rfl trivial ?_
  refine w_gi rfl (mm_foc rfl) ?_
  rw [h1]
  refine w_k21 (c_slot h3 ho h2) rfl ⟨rfl, by decide, by decide, by decide, Or.inl ⟨_, rfl⟩⟩ (Nat.le_of_ble_eq_true rfl) (mm_foc rfl) (Nat.le_of_ble_eq_true rfl) ?_  -- calls 8 cX1_slot
  refine w_ra (j := 15 + 5 * ((o + n) % 6)) ((o + n) % 6) rfl (Or.inr (mm_fac (n := 6) rfl)) (by first | rfl | assumption | (simp only [← nI_add, ← nI_mul]; rfl)) (by first | decide | omega) (mm_B_14 (by omega)) (by omega) ?_
  refine w_st rfl rfl rfl trivial ?_
  refine w_k20 (hM) rfl ⟨rfl, by decide, by decide, by decide, Or.inl ⟨_, rfl⟩⟩ (Nat.le_of_ble_eq_true rfl) (mm_B_o (mm_B_i (by omega))) (Nat.le_of_ble_eq_true rfl) ?_  -- calls 1 cX0_copyFrom
  refine w_st rfl rfl rfl trivial ?_
  refine w_gi rfl (mm_foc rfl) ?_
  rw [e13, h1]
  refine w_st rfl rfl rfl trivial ?_
  refine w_n_ge (a := n) (b := 6) rfl (by first | decide | omega) (by first | decide | omega) (by first | rfl | assumption | (simp only [← nI_add, ← nI_mul]; rfl)) (by first | rfl | assumption | (simp only [← nI_add, ← nI_mul]; rfl)) (fun c => ?_) (fun c => ?_)
  · have hn : n = 6 := by omega
    subst hn
    refine w_st rfl rfl rfl trivial ?_
    refine w_st rfl rfl rfl trivial ?_
    refine w_st rfl rfl rfl trivial ?_
    refine w_k21 (c_slot (by rw [e13]; exact h3) ho (show 1 ≤ 6 by decide)) rfl ⟨rfl, by decide, by decide, by decide, Or.inl ⟨_, rfl⟩⟩ (Nat.le_of_ble_eq_true rfl) (mm_foc rfl) (Nat.le_of_ble_eq_true rfl) ?_  -- calls 8 cX1_slot
    refine w_pi rfl (mm_foc rfl) ?_
    refine w_retv rfl ?_
    subst hF
    refine ⟨rfl, rfl, ?_⟩
    refine ⟨⟨?_, by decide, (o + 1) % 6, by omega, mm_uu, fun i hi => ?_⟩, fun p a c => ?_⟩
    · rw [mm_un (Or.inr (by decide)), e13, h1]; rfl
    · refine sp_bd_c (I := I1) (fun p hp => va_up_ne _ _ (by unfold sp_in5 at hp; omega)) ?_
      show sp_bd I1 _ (if 6 < 6 then _ else (if i = 5 then σ else ps (i + 1)))
      rw [if_neg (by decide)]
      have hi6 : i < 6 := hi
      by_cases c5 : i = 5
      · rw [if_pos c5]
        subst c5
        rw [show ((o + 1) % 6 + 5) % 6 = (o + 6) % 6 from by omega]
        exact hb1
      · rw [if_neg c5]
        have e := h4 (i + 1) (by omega)
        rw [show ((o + 1) % 6 + i) % 6 = (o + (i + 1)) % 6 from by omega]
        exact sp_bd_c (old _ (by omega) (by omega)) e
    · rw [va_up_ne _ _ a]; exact hf p (fun z => by unfold sp_in5 at z; omega)
  · skip
    refine w_st rfl rfl rfl trivial ?_
    refine w_st rfl rfl rfl trivial ?_
    refine w_gi rfl (mm_foc rfl) ?_
    refine w_st rfl rfl rfl trivial ?_
    refine w_iadd rfl ?_
    refine w_hd (show I1 13 2 + 1 = nI (n + 1) from by rw [e13, h1]; exact nI_1 n) ?_
    refine w_pi rfl (mm_foc rfl) ?_
    refine w_st rfl rfl rfl trivial ?_
    refine w_retv rfl ?_
    subst hF
    refine ⟨rfl, rfl, ?_⟩
    have es : sp_sn n = n + 1 := if_pos c
    rw [es]
    refine ⟨⟨mm_uu, by omega, o, ho, ?_, fun i hi => ?_⟩, fun p a c => ?_⟩
    · rw [mm_un (Or.inr (by decide)), e13, h3]
    · refine sp_bd_c (I := I1) (fun p hp => va_up_ne _ _ (by unfold sp_in5 at hp; omega)) ?_
      show sp_bd I1 _ (if n < 6 then (if i = n then σ else ps i) else _)
      rw [if_pos c]
      by_cases cn : i = n
      · rw [if_pos cn, cn]; exact hb1
      · rw [if_neg cn]
        exact sp_bd_c (old _ (by omega) (by omega)) (h4 i (by omega))
    · rw [va_up_ne _ _ a]; exact hf p (fun z => by unfold sp_in5 at z; omega)
theorem c_restore (h : sp_H I (n + 1) ps) : ∃ I', mm_M 7 2 [.ref 13, .ref 1] g I none I' ∧ (sp_H I' n ps ∧ sp_bd I' 1 (ps n) ∧ ∀ p, ¬ p = 13 → ¬ sp_in5 1 p → I' p = I p) := by
  obtain ⟨h1, h2, o, ho, h3, h4⟩ := h
  have h4' : ∀ i, i < n + 1 → sp_bd (va_up I 13 (upd (I 13) 2 (nI n))) (15 + 5 * ((o + i) % 6)) (ps i) := fun i hi => sp_bd_c (fun p hp => va_up_ne _ _ (by unfold sp_in5 at hp; omega)) (h4 i hi)
  obtain ⟨I1, hM, hb1, hf⟩ := c_copyFrom (g := g) (I := va_up I 13 (upd (I 13) 2 (nI n))) (b := 1) (o := 15 + 5 * ((o + n) % 6)) (Or.inl rfl) (mm_B_i (by omega)) (fun p a c => by unfold sp_in5 at a c; omega) (h4' n (by omega))
  have e13 : I1 13 = upd (I 13) 2 (nI n) := by rw [hf 13 (fun z => by unfold sp_in5 at z; omega), va_up_self]
  refine w_MX ?_
  show mm_W 7 0 [.ref 13, .ref 1] [] _ _ _
  generalize hF : mm_EQ _ _ _ = F
  refine w_st rfl rfl rfl trivial ?_
  refine w_gi rfl (mm_foc rfl) ?_
  rw [h1]
  refine w_m_le (a := n + 1) rfl (by first | decide | omega) (by first | rfl | assumption | (simp only [← nI_add, ← nI_mul]; rfl)) (fun c => by exfalso; omega) (fun _ => ?_)
  refine w_st rfl rfl rfl trivial ?_
  refine w_st rfl rfl rfl trivial ?_
  refine w_gi rfl (mm_foc rfl) ?_
  refine w_st rfl rfl rfl trivial ?_
  refine w_isub rfl ?_
  refine w_hd (show I 13 2 - 1 = nI n from by rw [h1]; exact nI_pred n) ?_
  refine w_pi rfl (mm_foc rfl) ?_
  refine w_st rfl rfl rfl trivial ?_
  refine w_st rfl rfl rfl trivial ?_
  refine w_gr (j := 14) rfl (mm_foc rfl) rfl (by decide) ?_
  refine w_st rfl rfl rfl trivial ?_
  refine w_st rfl rfl rfl trivial ?_
  refine w_gi rfl (mm_foc rfl) ?_
  rw [show va_up I 13 (upd (I 13) 2 (nI n)) 13 2 = nI n from mm_uu]
  refine w_k21 (c_slot (I := va_up I 13 (upd (I 13) 2 (nI n))) (o := o) (by rw [mm_un (Or.inr (by decide))]; exact h3) ho (show n ≤ 6 by omega)) rfl ⟨rfl, by decide, by decide, by decide, Or.inl ⟨_, rfl⟩⟩ (Nat.le_of_ble_eq_true rfl) (mm_foc rfl) (Nat.le_of_ble_eq_true rfl) ?_  -- calls 8 cX1_slot
  refine w_ra (j := 15 + 5 * ((o + n) % 6)) ((o + n) % 6) rfl (Or.inr (mm_fac (n := 6) rfl)) (by first | rfl | assumption | (simp only [← nI_add, ← nI_mul]; rfl)) (by first | decide | omega) (mm_B_14 (by omega)) (by omega) ?_
  refine w_k20 (hM) rfl ⟨rfl, by decide, by decide, by decide, Or.inl ⟨_, rfl⟩⟩ (Nat.le_of_ble_eq_true rfl) (mm_foc rfl) (Nat.le_of_ble_eq_true rfl) ?_  -- calls 1 cX0_copyFrom
  refine w_retv rfl ?_
  subst hF
  refine ⟨rfl, rfl, ?_⟩
  refine ⟨⟨?_, by omega, o, ho, ?_, fun i hi => ?_⟩, hb1, fun p a c => ?_⟩
  · rw [e13]; show (if 2 = 2 then nI n else _) = _; rw [if_pos rfl]
  · rw [e13]; show (if 1 = 2 then nI n else _) = _; rw [if_neg (by decide)]; exact h3
  · exact sp_bd_c (fun p hp => hf p (fun z => by unfold sp_in5 at z hp; omega)) (h4' i (by omega))
  · rw [hf p c, va_up_ne _ _ a]
/-- a lamp burnt or mended -/
def sp_set (σ : sp_St) (f l : Nat) (q : Bool) : sp_St := bif q then upd σ (8 + f) (σ (8 + f) ||| sp_bit l) else upd (upd σ (8 + f) (σ (8 + f) &&& (sp_bit l ^^^ (-1)))) (12 + (15 * f + l)) 0
def sp_q (q : Bool) : Int32 := bif q then 1 else 0
theorem upd_n {f : Nat → Int32} {k j : Nat} {x : Int32} (h : ¬ j = k) : upd f k x j = f j := by show (if j = k then x else f j) = _; rw [if_neg h]
theorem upd_s {f : Nat → Int32} {k : Nat} {x : Int32} : upd f k x k = x := by show (if k = k then x else f k) = _; rw [if_pos rfl]
theorem sp_bd1 (h : (∀ f, f < 4 → I 2 f = σ (4 + f)) ∧ (∀ f, f < 4 → I 3 f = σ (8 + f)) ∧ (∀ j, j < 60 → I 4 j = σ (12 + j)) ∧ (∀ k, k < 2 → I 5 k = σ (1 + k)) ∧ I 1 4 = σ 0 ∧ I 1 5 = σ 3) : sp_bd I 1 σ := h
theorem sp_bd1' (h : sp_bd I 1 σ) : (∀ f, f < 4 → I 2 f = σ (4 + f)) ∧ (∀ f, f < 4 → I 3 f = σ (8 + f)) ∧ (∀ j, j < 60 → I 4 j = σ (12 + j)) ∧ (∀ k, k < 2 → I 5 k = σ (1 + k)) ∧ I 1 4 = σ 0 ∧ I 1 5 = σ 3 := h
theorem sp_bd_b1 (h : sp_bd I 1 σ) (hf : f < 4) : sp_bd (va_up I 3 (upd (I 3) f x)) 1 (upd σ (8 + f) x) := by
  obtain ⟨h1, h2, h3, h4, h5, h6⟩ := sp_bd1' h
  refine sp_bd1 ⟨fun j hj => ?_, fun j hj => ?_, fun j hj => ?_, fun j hj => ?_, ?_, ?_⟩
  · rw [mm_un (Or.inl (by decide)), upd_n (by omega)]; exact h1 j hj
  · by_cases c : j = f
    · subst c; rw [mm_uu, upd_s]
    · rw [mm_un (Or.inr c), upd_n (by omega)]; exact h2 j hj
  · rw [mm_un (Or.inl (by decide)), upd_n (by omega)]; exact h3 j hj
  · rw [mm_un (Or.inl (by decide)), upd_n (by omega)]; exact h4 j hj
  · rw [mm_un (Or.inl (by decide)), upd_n (by omega)]; exact h5
  · rw [mm_un (Or.inl (by decide)), upd_n (by omega)]; exact h6
theorem sp_bd_h1 (h : sp_bd I 1 σ) (hf : f < 60) : sp_bd (va_up I 4 (upd (I 4) f x)) 1 (upd σ (12 + f) x) := by
  obtain ⟨h1, h2, h3, h4, h5, h6⟩ := sp_bd1' h
  refine sp_bd1 ⟨fun j hj => ?_, fun j hj => ?_, fun j hj => ?_, fun j hj => ?_, ?_, ?_⟩
  · rw [mm_un (Or.inl (by decide)), upd_n (by omega)]; exact h1 j hj
  · rw [mm_un (Or.inl (by decide)), upd_n (by omega)]; exact h2 j hj
  · by_cases c : j = f
    · subst c; rw [mm_uu, upd_s]
    · rw [mm_un (Or.inr c), upd_n (by omega)]; exact h3 j hj
  · rw [mm_un (Or.inl (by decide)), upd_n (by omega)]; exact h4 j hj
  · rw [mm_un (Or.inl (by decide)), upd_n (by omega)]; exact h5
  · rw [mm_un (Or.inl (by decide)), upd_n (by omega)]; exact h6
theorem c_setLamp_t (h : sp_bd I 1 σ) (hf : f < 4) (hl : l < 15) : ∃ I', mm_M 2 4 [.ref 1, .int (nI f), .int (nI l), .int 1] g I none I' ∧ (sp_bd I' 1 (sp_set σ f l true) ∧ ∀ p, ¬ p = 3 → ¬ p = 4 → I' p = I p) := by
  refine w_MX ?_
  show mm_W 2 0 [.ref 1, .int (nI f), .int (nI l), .int 1] [] _ _ _
  generalize hF : mm_EQ _ _ _ = F
  refine w_st rfl rfl rfl trivial ?_
  refine w_z_eq rfl (fun z => by first | exact absurd z ((by decide : ¬ (1 : Int32) = 0)) | exact absurd ((by decide : ¬ (1 : Int32) = 0)) z) (fun _ => ?_)
  refine w_st rfl rfl rfl trivial ?_
  refine w_gr (j := 3) rfl (mm_foc rfl) rfl (by decide) ?_
  refine w_st rfl rfl rfl trivial ?_
  refine w_st rfl rfl rfl trivial ?_
  refine w_ia (f) rfl (mm_fac (n := 4) rfl) (by first | rfl | assumption | (simp only [← nI_add, ← nI_mul]; rfl)) (by first | decide | omega) ?_
  refine w_st rfl rfl rfl trivial ?_
  refine w_k11 (c_maskOf) rfl ⟨rfl, by decide, by decide, by decide, Or.inr (Or.inl ⟨_, rfl⟩)⟩ (Nat.le_of_ble_eq_true rfl) trivial (Nat.le_of_ble_eq_true rfl) ?_  -- calls 49 cX4_maskOf
  refine w_ior rfl ?_
  refine w_is (f) rfl (mm_fac (n := 4) rfl) (by first | rfl | assumption | (simp only [← nI_add, ← nI_mul]; rfl)) (by first | decide | omega) ?_
  refine w_st rfl rfl rfl trivial ?_
  refine w_retv rfl ?_
  subst hF
  refine ⟨rfl, rfl, ?_⟩
  refine ⟨?_, fun p a c => va_up_ne _ _ a⟩
  rw [show I 3 f = σ (8 + f) from h.2.1 f hf]
  exact sp_bd_b1 h hf
theorem c_setLamp_f (h : sp_bd I 1 σ) (hf : f < 4) (hl : l < 15) : ∃ I', mm_M 2 4 [.ref 1, .int (nI f), .int (nI l), .int 0] g I none I' ∧ (sp_bd I' 1 (sp_set σ f l false) ∧ ∀ p, ¬ p = 3 → ¬ p = 4 → I' p = I p) := by
  refine w_MX ?_
  show mm_W 2 0 [.ref 1, .int (nI f), .int (nI l), .int 0] [] _ _ _
  generalize hF : mm_EQ _ _ _ = F
  refine w_st rfl rfl rfl trivial ?_
  refine w_z_eq rfl (fun _ => ?_) (fun z => by first | exact absurd (rfl) z | exact absurd z (rfl))
  refine w_st rfl rfl rfl trivial ?_
  refine w_gr (j := 3) rfl (mm_foc rfl) rfl (by decide) ?_
  refine w_st rfl rfl rfl trivial ?_
  refine w_st rfl rfl rfl trivial ?_
  refine w_ia (f) rfl (mm_fac (n := 4) rfl) (by first | rfl | assumption | (simp only [← nI_add, ← nI_mul]; rfl)) (by first | decide | omega) ?_
  refine w_st rfl rfl rfl trivial ?_
  refine w_k11 (c_maskOf) rfl ⟨rfl, by decide, by decide, by decide, Or.inr (Or.inl ⟨_, rfl⟩)⟩ (Nat.le_of_ble_eq_true rfl) trivial (Nat.le_of_ble_eq_true rfl) ?_  -- calls 49 cX4_maskOf
  refine w_st rfl rfl rfl trivial ?_
  refine w_ixor rfl ?_
  refine w_iand rfl ?_
  refine w_is (f) rfl (mm_fac (n := 4) rfl) (by first | rfl | assumption | (simp only [← nI_add, ← nI_mul]; rfl)) (by first | decide | omega) ?_
  refine w_st rfl rfl rfl trivial ?_
  refine w_gr (j := 4) rfl (mm_foc rfl) rfl (by decide) ?_
  refine w_st rfl rfl rfl trivial ?_
  refine w_st rfl rfl rfl trivial ?_
  refine w_imul rfl ?_
  refine w_st rfl rfl rfl trivial ?_
  refine w_iadd rfl ?_
  refine w_st rfl rfl rfl trivial ?_
  refine w_is (15 * f + l) rfl (mm_fac (n := 60) rfl) (by first | rfl | assumption | (simp only [← nI_add, ← nI_mul]; rfl)) (by first | decide | omega) ?_
  refine w_retv rfl ?_
  subst hF
  refine ⟨rfl, rfl, ?_⟩
  refine ⟨?_, fun p a c => ?_⟩
  · rw [show I 3 f = σ (8 + f) from h.2.1 f hf]
    exact sp_bd_h1 (sp_bd_b1 h hf) (by omega)
  · rw [va_up_ne _ _ c, va_up_ne _ _ a]
end SM
end
section
/-! the reference's history and changes; the class's tables laid anew -/
section SM
variable {g : mm_Gg} {I : mm_Is} {x y z : Int32} {l d k t u f w n b o m : Nat} {σ τ : sp_St} {ps : Nat → sp_St} {tx : Nat → Int32}
/-- all but the four tables stands -/
def sp_ft (I I' : mm_Is) : Prop := ∀ p, ¬ (45 ≤ p ∧ p < 61) → I' p = I p
theorem sp_ft_3 {I' : mm_Is} (hf : f < 4) (h : sp_f3 (45 + 4 * f) I I') : sp_ft I I' := fun p hp => h p (by omega) (by omega) (by omega)
theorem c_chooseAll (h : sp_bd I 1 σ) : ∃ I', mm_M 54 2 [.ref 0] g I none I' ∧ (sp_D I' σ ∧ sp_ft I I') := by
  refine w_MX ?_
  show mm_W 54 0 [.ref 0, .null] [] _ _ _
  generalize hF : mm_EQ _ _ _ = F
  refine w_st rfl rfl rfl trivial ?_
  refine w_st rfl rfl rfl (Nat.le_of_ble_eq_true rfl) ?_
  have K : ∀ f, f ≤ 4 → ∀ I1, (sp_bd I1 1 σ ∧ (∀ e, e < f → sp_tt I1 (45 + 4 * e) (σ (8 + e)) (σ 1)) ∧ sp_ft I I1) → mm_W 54 2 [.ref 0, .int (nI f)] [] g I1 F := by
    refine mm_dn 4 ?_ ?_
    · intro I1 hI
      refine w_st rfl rfl rfl trivial ?_
      refine w_st rfl rfl rfl trivial ?_
      refine w_n_ge (a := 4) (b := 4) rfl (by first | decide | omega) (by first | decide | omega) (by first | rfl | assumption | (simp only [← nI_add, ← nI_mul]; rfl)) (by first | rfl | assumption | (simp only [← nI_add, ← nI_mul]; rfl)) (fun _ => ?_) (fun c => by exfalso; omega)
      refine w_retv rfl ?_
      exact hF ▸ ⟨rfl, rfl, ⟨⟨hI.1, hI.2.1⟩, hI.2.2⟩⟩
    · intro f hf ih I1 hI
      obtain ⟨I2, hM, h2, h3⟩ := c_chooseTable (g := g) hI.1 hf
      refine w_st rfl rfl rfl trivial ?_
      refine w_st rfl rfl rfl trivial ?_
      refine w_n_ge (a := f) (b := 4) rfl (by first | decide | omega) (by first | decide | omega) (by first | rfl | assumption | (simp only [← nI_add, ← nI_mul]; rfl)) (by first | rfl | assumption | (simp only [← nI_add, ← nI_mul]; rfl)) (fun c => by exfalso; omega) (fun _ => ?_)
      refine w_st rfl rfl rfl trivial ?_
      refine w_st rfl rfl rfl trivial ?_
      refine w_k20 (hM) rfl ⟨rfl, by decide, by decide, by decide, Or.inl ⟨_, rfl⟩⟩ (Nat.le_of_ble_eq_true rfl) (mm_foc rfl) (Nat.le_of_ble_eq_true rfl) ?_  -- calls 53 cX4_chooseTable
      refine w_inc rfl rfl rfl (Nat.le_of_ble_eq_true rfl) (nI_1 _) ?_
      refine w_st rfl rfl rfl trivial ?_
      refine ih I2 ⟨sp_bd_c (fun p hp => ?_) hI.1, fun e he => ?_, fun p hp => ?_⟩
      · exact sp_ft_3 hf h3 p (by unfold sp_in5 at hp; omega)
      · by_cases c : e = f
        · subst c; exact h2
        · intro d hd
          have := hI.2.1 e (by omega) d hd
          unfold sp_te at this ⊢
          rw [h3 (45 + 4 * e + 1 + 0) (by omega) (by omega) (by omega), h3 (45 + 4 * e + 1 + 1) (by omega) (by omega) (by omega), h3 (45 + 4 * e + 1 + 2) (by omega) (by omega) (by omega)]
          exact this
      · rw [sp_ft_3 hf h3 p hp]; exact hI.2.2 p hp
  exact K 0 (by decide) I ⟨h, fun e he => absurd he (Nat.not_lt_zero _), fun _ _ => rfl⟩
end SM
end
section
/-! the class's operations -/
theorem sp_D_c {I I' : mm_Is} {σ : sp_St} (h : ∀ p, (1 ≤ p ∧ p < 6) ∨ (46 ≤ p ∧ p < 61) → I' p = I p) (x : sp_D I σ) : sp_D I' σ := by
  refine ⟨sp_bd_c (fun p hp => h p (Or.inl (by unfold sp_in5 at hp; omega))) x.1, fun f hf d hd => ?_⟩
  have := x.2 f hf d hd
  unfold sp_te at this ⊢
  rw [h (45 + 4 * f + 1 + 0) (Or.inr (by omega)), h (45 + 4 * f + 1 + 1) (Or.inr (by omega)), h (45 + 4 * f + 1 + 2) (Or.inr (by omega))]
  exact this
theorem sp_H_c {I I' : mm_Is} {n : Nat} {ps : Nat → sp_St} (h : ∀ p, p = 13 ∨ (15 ≤ p ∧ p < 45) → I' p = I p) (x : sp_H I n ps) : sp_H I' n ps := by
  obtain ⟨h1, h2, o, ho, h3, h4⟩ := x
  refine ⟨by rw [h 13 (Or.inl rfl)]; exact h1, h2, o, ho, by rw [h 13 (Or.inl rfl)]; exact h3, fun i hi => sp_bd_c (fun p hp => h p (Or.inr (by unfold sp_in5 at hp; omega))) (h4 i hi)⟩
theorem sp_X_c {I I' : mm_Is} {m : Nat} {tx : Nat → Int32} (h : ∀ p, p = 11 ∨ p = 12 → I' p = I p) (x : sp_X I m tx) : sp_X I' m tx := by
  unfold sp_X at x ⊢
  rw [h 11 (Or.inl rfl), h 12 (Or.inr rfl)]
  exact x
/-- the class holds state, history and text -/
def sp_C (I : mm_Is) (σ : sp_St) (n : Nat) (ps : Nat → sp_St) (m : Nat) (tx : Nat → Int32) : Prop := sp_D I σ ∧ sp_H I n ps ∧ sp_X I m tx
def sp_cf (I I' : mm_Is) : Prop := ∀ p, 61 ≤ p → I' p = I p
theorem sp_C_c {I I' : mm_Is} {σ : sp_St} {n m : Nat} {ps : Nat → sp_St} {tx : Nat → Int32} (h : ∀ p, p < 61 → I' p = I p) (x : sp_C I σ n ps m tx) : sp_C I' σ n ps m tx :=
  ⟨sp_D_c (fun p hp => h p (by omega)) x.1, sp_H_c (fun p hp => h p (by omega)) x.2.1, sp_X_c (fun p hp => h p (by omega)) x.2.2⟩
/-- a look: only the trial table may have changed -/
theorem sp_C_f3 {I I' : mm_Is} {σ : sp_St} {n m : Nat} {ps : Nat → sp_St} {tx : Nat → Int32} (h : sp_f3 7 I I') (x : sp_C I σ n ps m tx) : sp_C I' σ n ps m tx ∧ sp_cf I I' :=
  ⟨⟨sp_D_c (fun p hp => h p (by omega) (by omega) (by omega)) x.1, sp_H_c (fun p hp => h p (by omega) (by omega) (by omega)) x.2.1, sp_X_c (fun p hp => h p (by omega) (by omega) (by omega)) x.2.2⟩, fun p hp => h p (by omega) (by omega) (by omega)⟩
section SM
variable {g : mm_Gg} {I : mm_Is} {x y z : Int32} {l d k t u f w n b o m : Nat} {σ τ : sp_St} {ps : Nat → sp_St} {tx : Nat → Int32}
theorem sp_bd_d1 (h : sp_bd I 1 σ) (hf : f < 4) : sp_bd (va_up I 2 (upd (I 2) f x)) 1 (upd σ (4 + f) x) := by
  obtain ⟨h1, h2, h3, h4, h5, h6⟩ := sp_bd1' h
  refine sp_bd1 ⟨fun j hj => ?_, fun j hj => ?_, fun j hj => ?_, fun j hj => ?_, ?_, ?_⟩
  · by_cases c : j = f
    · subst c; rw [mm_uu, upd_s]
    · rw [mm_un (Or.inr c), upd_n (by omega)]; exact h1 j hj
  · rw [mm_un (Or.inl (by decide)), upd_n (by omega)]; exact h2 j hj
  · rw [mm_un (Or.inl (by decide)), upd_n (by omega)]; exact h3 j hj
  · rw [mm_un (Or.inl (by decide)), upd_n (by omega)]; exact h4 j hj
  · rw [mm_un (Or.inl (by decide)), upd_n (by omega)]; exact h5
  · rw [mm_un (Or.inl (by decide)), upd_n (by omega)]; exact h6
theorem sp_bd_s1 (h : sp_bd I 1 σ) (hf : f < 2) : sp_bd (va_up I 5 (upd (I 5) f x)) 1 (upd σ (1 + f) x) := by
  obtain ⟨h1, h2, h3, h4, h5, h6⟩ := sp_bd1' h
  refine sp_bd1 ⟨fun j hj => ?_, fun j hj => ?_, fun j hj => ?_, fun j hj => ?_, ?_, ?_⟩
  · rw [mm_un (Or.inl (by decide)), upd_n (by omega)]; exact h1 j hj
  · rw [mm_un (Or.inl (by decide)), upd_n (by omega)]; exact h2 j hj
  · rw [mm_un (Or.inl (by decide)), upd_n (by omega)]; exact h3 j hj
  · by_cases c : j = f
    · subst c; rw [mm_uu, upd_s]
    · rw [mm_un (Or.inr c), upd_n (by omega)]; exact h4 j hj
  · rw [mm_un (Or.inl (by decide)), upd_n (by omega)]; exact h5
  · rw [mm_un (Or.inl (by decide)), upd_n (by omega)]; exact h6
theorem sp_D_save {I1 : mm_Is} (h : ∀ p, ¬ p = 13 → ¬ (15 ≤ p ∧ p < 45) → I1 p = I p) (x : sp_D I σ) : sp_D I1 σ := sp_D_c (fun p hp => h p (by omega) (by omega)) x
theorem sp_X_save {I1 : mm_Is} (h : ∀ p, ¬ p = 13 → ¬ (15 ≤ p ∧ p < 45) → I1 p = I p) (x : sp_X I m tx) : sp_X I1 m tx := sp_X_c (fun p hp => h p (by omega) (by omega)) x
-- show
theorem c_show_1 (h1 : ¬ sp_lt 4 x) : mm_TH 27 4 [.ref 0, .int x, .int y] g I 1 := by
  refine w_MT ?_
  show mm_W 27 0 [.ref 0, .int x, .int y, .null] [] _ _ _
  generalize hF : mm_TX _ _ _ = F
  refine w_st rfl rfl rfl trivial ?_
  refine w_k11 (c_isField) rfl ⟨rfl, by decide, by decide, by decide, Or.inr (Or.inl ⟨_, rfl⟩)⟩ (Nat.le_of_ble_eq_true rfl) trivial (Nat.le_of_ble_eq_true rfl) ?_  -- calls 44 cX4_isField
  refine w_b_ne rfl (fun z => absurd z (h1)) (fun _ => ?_)
  refine w_thr rfl (Nat.le_of_ble_eq_true rfl) ?_
  exact hF ▸ ⟨rfl, rfl, rfl⟩
theorem c_show_2 (h1 : sp_lt 4 x) (h2 : ¬ y = -1) (h3 : ¬ sp_lt 10 y) : mm_TH 27 4 [.ref 0, .int x, .int y] g I 2 := by
  refine w_MT ?_
  show mm_W 27 0 [.ref 0, .int x, .int y, .null] [] _ _ _
  generalize hF : mm_TX _ _ _ = F
  refine w_st rfl rfl rfl trivial ?_
  refine w_k11 (c_isField) rfl ⟨rfl, by decide, by decide, by decide, Or.inr (Or.inl ⟨_, rfl⟩)⟩ (Nat.le_of_ble_eq_true rfl) trivial (Nat.le_of_ble_eq_true rfl) ?_  -- calls 44 cX4_isField
  refine w_b_ne rfl (fun _ => ?_) (fun z => absurd (h1) z)
  refine w_st rfl rfl rfl trivial ?_
  refine w_st rfl rfl rfl trivial ?_
  refine w_v_eq rfl (fun z => by first | exact absurd z (h2) | exact absurd (h2) z) (fun _ => ?_)
  refine w_st rfl rfl rfl trivial ?_
  refine w_k11 (c_isDigit) rfl ⟨rfl, by decide, by decide, by decide, Or.inr (Or.inl ⟨_, rfl⟩)⟩ (Nat.le_of_ble_eq_true rfl) trivial (Nat.le_of_ble_eq_true rfl) ?_  -- calls 46 cX4_isDigit
  refine w_b_ne rfl (fun z => absurd z (h3)) (fun _ => ?_)
  refine w_thr rfl (Nat.le_of_ble_eq_true rfl) ?_
  exact hF ▸ ⟨rfl, rfl, rfl⟩
theorem c_show_3 (h : sp_D I σ) (hf : f < 4) (h2 : ¬ y = -1) (h3 : sp_lt 10 y) (h4 : ¬ sp_can (sp_R σ f) y) : mm_TH 27 4 [.ref 0, .int (nI f), .int y] g I 3 := by
  have hT : mm_T (45 + 4 * f) := mm_T_f hf
  refine w_MT ?_
  show mm_W 27 0 [.ref 0, .int (nI f), .int y, .null] [] _ _ _
  generalize hF : mm_TX _ _ _ = F
  refine w_st rfl rfl rfl trivial ?_
  refine w_k11 (c_isField) rfl ⟨rfl, by decide, by decide, by decide, Or.inr (Or.inl ⟨_, rfl⟩)⟩ (Nat.le_of_ble_eq_true rfl) trivial (Nat.le_of_ble_eq_true rfl) ?_  -- calls 44 cX4_isField
  refine w_b_ne rfl (fun _ => ?_) (fun z => absurd (⟨f, hf, rfl⟩) z)
  refine w_st rfl rfl rfl trivial ?_
  refine w_st rfl rfl rfl trivial ?_
  refine w_v_eq rfl (fun z => by first | exact absurd z (h2) | exact absurd (h2) z) (fun _ => ?_)
  refine w_st rfl rfl rfl trivial ?_
  refine w_k11 (c_isDigit) rfl ⟨rfl, by decide, by decide, by decide, Or.inr (Or.inl ⟨_, rfl⟩)⟩ (Nat.le_of_ble_eq_true rfl) trivial (Nat.le_of_ble_eq_true rfl) ?_  -- calls 46 cX4_isDigit
  refine w_b_ne rfl (fun _ => ?_) (fun z => absurd (h3) z)
  refine w_st rfl rfl rfl trivial ?_
  refine w_st rfl rfl rfl trivial ?_
  refine w_v_eq rfl (fun z => by first | exact absurd z (h2) | exact absurd (h2) z) (fun _ => ?_)
  refine w_st rfl rfl rfl trivial ?_
  refine w_gr (j := 6) rfl (mm_foc rfl) rfl (by decide) ?_
  refine w_st rfl rfl rfl trivial ?_
  refine w_ra (j := 45 + 4 * (f)) (f) rfl (Or.inl (mm_fac (n := 4) rfl)) (by first | rfl | assumption | (simp only [← nI_add, ← nI_mul]; rfl)) (by first | decide | omega) (mm_T_6 (by omega)) (by omega) ?_
  refine w_st rfl rfl rfl trivial ?_
  refine w_k21 (c_canShow hT (h.2 f hf)) rfl ⟨rfl, by decide, by decide, by decide, Or.inl ⟨_, rfl⟩⟩ (Nat.le_of_ble_eq_true rfl) (mm_T_o hT) (Nat.le_of_ble_eq_true rfl) ?_  -- calls 14 cX2_canShow
  refine w_b_ne rfl (fun z => absurd z (h4)) (fun _ => ?_)
  refine w_thr rfl (Nat.le_of_ble_eq_true rfl) ?_
  exact hF ▸ ⟨rfl, rfl, rfl⟩
theorem c_show (h : sp_C I σ n ps m tx) (hf : f < 4) (hy : y = -1 ∨ sp_can (sp_R σ f) y) : ∃ I', mm_M 27 4 [.ref 0, .int (nI f), .int y] g I (some (.int (σ (4 + f)))) I' ∧ (sp_C I' (upd σ (4 + f) y) (sp_sn n) (sp_sp n ps σ) m tx ∧ sp_cf I I') := by
  have hT : mm_T (45 + 4 * f) := mm_T_f hf
  obtain ⟨I1, hM, hH, hfr⟩ := c_save (g := g) h.1.1 h.2.1
  have hD1 := sp_D_save hfr h.1
  refine w_MX ?_
  show mm_W 27 0 [.ref 0, .int (nI f), .int y, .null] [] _ _ _
  generalize hF : mm_EQ _ _ _ = F
  refine w_st rfl rfl rfl trivial ?_
  refine w_k11 (c_isField) rfl ⟨rfl, by decide, by decide, by decide, Or.inr (Or.inl ⟨_, rfl⟩)⟩ (Nat.le_of_ble_eq_true rfl) trivial (Nat.le_of_ble_eq_true rfl) ?_  -- calls 44 cX4_isField
  refine w_b_ne rfl (fun _ => ?_) (fun z => absurd (⟨f, hf, rfl⟩) z)
  have K : mm_W 27 67 [.ref 0, .int (nI f), .int y, .null] [] g I F := by
    refine w_st rfl rfl rfl trivial ?_
    refine w_gr (j := 13) rfl (mm_foc rfl) rfl (by decide) ?_
    refine w_st rfl rfl rfl trivial ?_
    refine w_gr (j := 1) rfl (mm_foc rfl) rfl (by decide) ?_
    refine w_k20 (hM) rfl ⟨rfl, by decide, by decide, by decide, Or.inl ⟨_, rfl⟩⟩ (Nat.le_of_ble_eq_true rfl) (mm_foc rfl) (Nat.le_of_ble_eq_true rfl) ?_  -- calls 6 cX1_save
    refine w_st rfl rfl rfl trivial ?_
    refine w_gr (j := 1) rfl (mm_foc rfl) rfl (by decide) ?_
    refine w_gr (j := 2) rfl (mm_foc rfl) rfl (by decide) ?_
    refine w_st rfl rfl rfl trivial ?_
    refine w_ia (f) rfl (mm_fac (n := 4) rfl) (by first | rfl | assumption | (simp only [← nI_add, ← nI_mul]; rfl)) (by first | decide | omega) ?_
    rw [sp_Dd hD1 hf]
    refine w_st rfl rfl rfl (Nat.le_of_ble_eq_true rfl) ?_
    refine w_st rfl rfl rfl trivial ?_
    refine w_gr (j := 1) rfl (mm_foc rfl) rfl (by decide) ?_
    refine w_gr (j := 2) rfl (mm_foc rfl) rfl (by decide) ?_
    refine w_st rfl rfl rfl trivial ?_
    refine w_st rfl rfl rfl trivial ?_
    refine w_is (f) rfl (mm_fac (n := 4) rfl) (by first | rfl | assumption | (simp only [← nI_add, ← nI_mul]; rfl)) (by first | decide | omega) ?_
    refine w_st rfl rfl rfl trivial ?_
    refine w_reti rfl ?_
    subst hF
    refine ⟨rfl, rfl, ?_⟩
    refine ⟨⟨⟨sp_bd_d1 hD1.1 hf, fun e he d hd => ?_⟩, sp_H_c (fun p hp => va_up_ne _ _ (by omega)) hH, sp_X_c (fun p hp => va_up_ne _ _ (by omega)) (sp_X_save hfr h.2.2)⟩, fun p hp => ?_⟩
    · have := hD1.2 e he d hd
      rw [upd_n (by omega), upd_n (by omega)]
      unfold sp_te at this ⊢
      rw [va_up_ne _ _ (by omega), va_up_ne _ _ (by omega), va_up_ne _ _ (by omega)]
      exact this
    · rw [va_up_ne _ _ (by omega)]; exact hfr p (by omega) (by omega)
  rcases hy with rfl | hy
  · skip
    refine w_st rfl rfl rfl trivial ?_
    refine w_st rfl rfl rfl trivial ?_
    refine w_v_eq rfl (fun _ => ?_) (fun z => by first | exact absurd (rfl) z | exact absurd z (rfl))
    refine w_st rfl rfl rfl trivial ?_
    refine w_st rfl rfl rfl trivial ?_
    refine w_v_eq rfl (fun _ => ?_) (fun z => by first | exact absurd (rfl) z | exact absurd z (rfl))
    exact K
  · have h2 : ¬ y = -1 := by obtain ⟨d, hd, e, _⟩ := hy; rw [e]; exact nI_ne1 (by omega)
    have h3 : sp_lt 10 y := by obtain ⟨d, hd, e, _⟩ := hy; exact ⟨d, hd, e⟩
    refine w_st rfl rfl rfl trivial ?_
    refine w_st rfl rfl rfl trivial ?_
    refine w_v_eq rfl (fun z => by first | exact absurd z (h2) | exact absurd (h2) z) (fun _ => ?_)
    refine w_st rfl rfl rfl trivial ?_
    refine w_k11 (c_isDigit) rfl ⟨rfl, by decide, by decide, by decide, Or.inr (Or.inl ⟨_, rfl⟩)⟩ (Nat.le_of_ble_eq_true rfl) trivial (Nat.le_of_ble_eq_true rfl) ?_  -- calls 46 cX4_isDigit
    refine w_b_ne rfl (fun _ => ?_) (fun z => absurd (h3) z)
    refine w_st rfl rfl rfl trivial ?_
    refine w_st rfl rfl rfl trivial ?_
    refine w_v_eq rfl (fun z => by first | exact absurd z (h2) | exact absurd (h2) z) (fun _ => ?_)
    refine w_st rfl rfl rfl trivial ?_
    refine w_gr (j := 6) rfl (mm_foc rfl) rfl (by decide) ?_
    refine w_st rfl rfl rfl trivial ?_
    refine w_ra (j := 45 + 4 * (f)) (f) rfl (Or.inl (mm_fac (n := 4) rfl)) (by first | rfl | assumption | (simp only [← nI_add, ← nI_mul]; rfl)) (by first | decide | omega) (mm_T_6 (by omega)) (by omega) ?_
    refine w_st rfl rfl rfl trivial ?_
    refine w_k21 (c_canShow hT (h.1.2 f hf)) rfl ⟨rfl, by decide, by decide, by decide, Or.inl ⟨_, rfl⟩⟩ (Nat.le_of_ble_eq_true rfl) (mm_T_o hT) (Nat.le_of_ble_eq_true rfl) ?_  -- calls 14 cX2_canShow
    refine w_b_ne rfl (fun _ => ?_) (fun z => absurd (hy) z)
    exact K
-- set
theorem c_isValueOf (hk : k < 2) : mm_M 48 2 [.int (nI k), .int y] g I (some (.int (mm_bi ((k = 0 ∧ 1 ≤ y ∧ y ≤ 5) ∨ (k = 1 ∧ sp_lt 100 y))))) I := by
  refine w_M ?_
  show mm_W 48 0 [.int (nI k), .int y] [] _ _ _
  generalize hF : mm_EX _ _ _ = F
  refine w_st rfl rfl rfl trivial ?_
  refine w_m_ne (a := k) rfl (by first | decide | omega) (by first | rfl | assumption | (simp only [← nI_add, ← nI_mul]; rfl)) (fun c => ?_) (fun c => ?_)
  · skip
    refine w_st rfl rfl rfl trivial ?_
    refine w_z_lt rfl (fun c1 => ?_) (fun c1 => ?_)
    · skip
      refine w_st rfl rfl rfl trivial ?_
      refine w_retz rfl (by first | exact Or.inl rfl | exact Or.inr rfl | exact mm_bi_01 _ | assumption) ?_
      exact hF ▸ mm_EX_i ((mm_bi_f (fun z => z.elim (fun z => by omega) (fun z => sp_lt_n0 (by decide) c1 z.2))).symm)
    · skip
      refine w_st rfl rfl rfl trivial ?_
      refine w_st rfl rfl rfl trivial ?_
      refine w_v_gt rfl (fun c2 => ?_) (fun c2 => ?_)
      · skip
        refine w_st rfl rfl rfl trivial ?_
        refine w_retz rfl (by first | exact Or.inl rfl | exact Or.inr rfl | exact mm_bi_01 _ | assumption) ?_
        exact hF ▸ mm_EX_i ((mm_bi_f (fun z => z.elim (fun z => by omega) (fun z => absurd (sp_le_n (n := 99) (by decide) rfl z.2).2 (Int32.not_le.2 c2)))).symm)
      · skip
        refine w_st rfl rfl rfl trivial ?_
        refine w_st rfl rfl rfl trivial ?_
        refine w_retz rfl (by first | exact Or.inl rfl | exact Or.inr rfl | exact mm_bi_01 _ | assumption) ?_
        exact hF ▸ mm_EX_i ((mm_bi_t (Or.inr ⟨by omega, sp_le_i (n := 99) (by decide) rfl (Int32.not_lt.1 c1) (Int32.not_lt.1 c2)⟩)).symm)
  · skip
    refine w_st rfl rfl rfl trivial ?_
    refine w_st rfl rfl rfl trivial ?_
    refine w_v_lt rfl (fun c1 => ?_) (fun c1 => ?_)
    · skip
      refine w_st rfl rfl rfl trivial ?_
      refine w_retz rfl (by first | exact Or.inl rfl | exact Or.inr rfl | exact mm_bi_01 _ | assumption) ?_
      exact hF ▸ mm_EX_i ((mm_bi_f (fun z => z.elim (fun z => absurd z.2.1 (Int32.not_le.2 c1)) (fun z => by omega))).symm)
    · skip
      refine w_st rfl rfl rfl trivial ?_
      refine w_st rfl rfl rfl trivial ?_
      refine w_v_gt rfl (fun c2 => ?_) (fun c2 => ?_)
      · skip
        refine w_st rfl rfl rfl trivial ?_
        refine w_retz rfl (by first | exact Or.inl rfl | exact Or.inr rfl | exact mm_bi_01 _ | assumption) ?_
        exact hF ▸ mm_EX_i ((mm_bi_f (fun z => z.elim (fun z => absurd z.2.2 (Int32.not_le.2 c2)) (fun z => by omega))).symm)
      · skip
        refine w_st rfl rfl rfl trivial ?_
        refine w_st rfl rfl rfl trivial ?_
        refine w_retz rfl (by first | exact Or.inl rfl | exact Or.inr rfl | exact mm_bi_01 _ | assumption) ?_
        exact hF ▸ mm_EX_i ((mm_bi_t (Or.inl ⟨c, Int32.not_lt.1 c1, Int32.not_lt.1 c2⟩)).symm)
theorem c_set_1 (h1 : ¬ sp_lt 2 x) : mm_TH 32 4 [.ref 0, .int x, .int y] g I 1 := by
  refine w_MT ?_
  show mm_W 32 0 [.ref 0, .int x, .int y, .null] [] _ _ _
  generalize hF : mm_TX _ _ _ = F
  refine w_st rfl rfl rfl trivial ?_
  refine w_k11 (c_isSetting) rfl ⟨rfl, by decide, by decide, by decide, Or.inr (Or.inl ⟨_, rfl⟩)⟩ (Nat.le_of_ble_eq_true rfl) trivial (Nat.le_of_ble_eq_true rfl) ?_  -- calls 47 cX4_isSetting
  refine w_b_ne rfl (fun z => absurd z (h1)) (fun _ => ?_)
  refine w_thr rfl (Nat.le_of_ble_eq_true rfl) ?_
  exact hF ▸ ⟨rfl, rfl, rfl⟩
theorem c_set_2 (hk : k < 2) (h2 : ¬ ((k = 0 ∧ 1 ≤ y ∧ y ≤ 5) ∨ (k = 1 ∧ sp_lt 100 y))) : mm_TH 32 4 [.ref 0, .int (nI k), .int y] g I 2 := by
  refine w_MT ?_
  show mm_W 32 0 [.ref 0, .int (nI k), .int y, .null] [] _ _ _
  generalize hF : mm_TX _ _ _ = F
  refine w_st rfl rfl rfl trivial ?_
  refine w_k11 (c_isSetting) rfl ⟨rfl, by decide, by decide, by decide, Or.inr (Or.inl ⟨_, rfl⟩)⟩ (Nat.le_of_ble_eq_true rfl) trivial (Nat.le_of_ble_eq_true rfl) ?_  -- calls 47 cX4_isSetting
  refine w_b_ne rfl (fun _ => ?_) (fun z => absurd (⟨k, hk, rfl⟩) z)
  refine w_st rfl rfl rfl trivial ?_
  refine w_st rfl rfl rfl trivial ?_
  refine w_k21 (c_isValueOf hk) rfl ⟨rfl, by decide, by decide, by decide, Or.inr (Or.inl ⟨_, rfl⟩)⟩ (Nat.le_of_ble_eq_true rfl) trivial (Nat.le_of_ble_eq_true rfl) ?_  -- calls 48 cX4_isValueOf
  refine w_b_ne rfl (fun z => absurd z (h2)) (fun _ => ?_)
  refine w_thr rfl (Nat.le_of_ble_eq_true rfl) ?_
  exact hF ▸ ⟨rfl, rfl, rfl⟩
theorem c_set (h : sp_C I σ n ps m tx) (hk : k < 2) (h2 : (k = 0 ∧ 1 ≤ y ∧ y ≤ 5) ∨ (k = 1 ∧ sp_lt 100 y)) : ∃ I', mm_M 32 4 [.ref 0, .int (nI k), .int y] g I (some (.int (σ (1 + k)))) I' ∧ (sp_C I' (upd σ (1 + k) y) (sp_sn n) (sp_sp n ps σ) m tx ∧ sp_cf I I') := by
  obtain ⟨I1, hM, hH, hfr⟩ := c_save (g := g) h.1.1 h.2.1
  have hD1 := sp_D_save hfr h.1
  obtain ⟨I2, hM2, hD2, hfr2⟩ := c_chooseAll (g := g) (I := va_up I1 5 (upd (I1 5) k y)) (sp_bd_s1 hD1.1 hk)
  refine w_MX ?_
  show mm_W 32 0 [.ref 0, .int (nI k), .int y, .null] [] _ _ _
  generalize hF : mm_EQ _ _ _ = F
  refine w_st rfl rfl rfl trivial ?_
  refine w_k11 (c_isSetting) rfl ⟨rfl, by decide, by decide, by decide, Or.inr (Or.inl ⟨_, rfl⟩)⟩ (Nat.le_of_ble_eq_true rfl) trivial (Nat.le_of_ble_eq_true rfl) ?_  -- calls 47 cX4_isSetting
  refine w_b_ne rfl (fun _ => ?_) (fun z => absurd (⟨k, hk, rfl⟩) z)
  refine w_st rfl rfl rfl trivial ?_
  refine w_st rfl rfl rfl trivial ?_
  refine w_k21 (c_isValueOf hk) rfl ⟨rfl, by decide, by decide, by decide, Or.inr (Or.inl ⟨_, rfl⟩)⟩ (Nat.le_of_ble_eq_true rfl) trivial (Nat.le_of_ble_eq_true rfl) ?_  -- calls 48 cX4_isValueOf
  refine w_b_ne rfl (fun _ => ?_) (fun z => absurd (h2) z)
  refine w_st rfl rfl rfl trivial ?_
  refine w_gr (j := 13) rfl (mm_foc rfl) rfl (by decide) ?_
  refine w_st rfl rfl rfl trivial ?_
  refine w_gr (j := 1) rfl (mm_foc rfl) rfl (by decide) ?_
  refine w_k20 (hM) rfl ⟨rfl, by decide, by decide, by decide, Or.inl ⟨_, rfl⟩⟩ (Nat.le_of_ble_eq_true rfl) (mm_foc rfl) (Nat.le_of_ble_eq_true rfl) ?_  -- calls 6 cX1_save
  refine w_st rfl rfl rfl trivial ?_
  refine w_gr (j := 1) rfl (mm_foc rfl) rfl (by decide) ?_
  refine w_gr (j := 5) rfl (mm_foc rfl) rfl (by decide) ?_
  refine w_st rfl rfl rfl trivial ?_
  refine w_ia (k) rfl (mm_fac (n := 2) rfl) (by first | rfl | assumption | (simp only [← nI_add, ← nI_mul]; rfl)) (by first | decide | omega) ?_
  rw [sp_Ds hD1 hk]
  refine w_st rfl rfl rfl (Nat.le_of_ble_eq_true rfl) ?_
  refine w_st rfl rfl rfl trivial ?_
  refine w_gr (j := 1) rfl (mm_foc rfl) rfl (by decide) ?_
  refine w_gr (j := 5) rfl (mm_foc rfl) rfl (by decide) ?_
  refine w_st rfl rfl rfl trivial ?_
  refine w_st rfl rfl rfl trivial ?_
  refine w_is (k) rfl (mm_fac (n := 2) rfl) (by first | rfl | assumption | (simp only [← nI_add, ← nI_mul]; rfl)) (by first | decide | omega) ?_
  refine w_st rfl rfl rfl trivial ?_
  refine w_k10 (hM2) rfl ⟨rfl, by decide, by decide, by decide, Or.inl ⟨_, rfl⟩⟩ (Nat.le_of_ble_eq_true rfl) (mm_foc rfl) (Nat.le_of_ble_eq_true rfl) ?_  -- calls 54 cX4_chooseAllTables
  refine w_st rfl rfl rfl trivial ?_
  refine w_reti rfl ?_
  subst hF
  refine ⟨rfl, rfl, ?_⟩
  refine ⟨⟨hD2, sp_H_c (fun p hp => ?_) hH, sp_X_c (fun p hp => ?_) (sp_X_save hfr h.2.2)⟩, fun p hp => ?_⟩
  · rw [hfr2 p (by omega), va_up_ne _ _ (by omega)]
  · rw [hfr2 p (by omega), va_up_ne _ _ (by omega)]
  · rw [hfr2 p (by omega), va_up_ne _ _ (by omega)]; exact hfr p (by omega) (by omega)
-- undo
theorem c_undo_1 (h : I 13 2 = nI 0) : mm_TH 33 1 [.ref 0] g I 3 := by
  refine w_MT ?_
  show mm_W 33 0 [.ref 0] [] _ _ _
  generalize hF : mm_TX _ _ _ = F
  refine w_st rfl rfl rfl trivial ?_
  refine w_gr (j := 13) rfl (mm_foc rfl) rfl (by decide) ?_
  refine w_gi rfl (mm_foc rfl) ?_
  rw [h]
  refine w_m_ne (a := 0) rfl (by first | decide | omega) (by first | rfl | assumption | (simp only [← nI_add, ← nI_mul]; rfl)) (fun c => by exfalso; omega) (fun _ => ?_)
  refine w_thr rfl (Nat.le_of_ble_eq_true rfl) ?_
  exact hF ▸ ⟨rfl, rfl, rfl⟩
theorem c_undo (h : sp_C I σ (n + 1) ps m tx) : ∃ I', mm_M 33 1 [.ref 0] g I (some (.int (nI n))) I' ∧ (sp_C I' (ps n) n ps m tx ∧ sp_cf I I') := by
  obtain ⟨I1, hM, hH, hb, hfr⟩ := c_restore (g := g) h.2.1
  obtain ⟨I2, hM2, hD2, hfr2⟩ := c_chooseAll (g := g) (I := I1) hb
  have hH2 : sp_H I2 n ps := sp_H_c (fun p hp => hfr2 p (by omega)) hH
  have hn6 : n + 1 ≤ 6 := h.2.1.2.1
  refine w_MX ?_
  show mm_W 33 0 [.ref 0] [] _ _ _
  generalize hF : mm_EQ _ _ _ = F
  refine w_st rfl rfl rfl trivial ?_
  refine w_gr (j := 13) rfl (mm_foc rfl) rfl (by decide) ?_
  refine w_gi rfl (mm_foc rfl) ?_
  rw [h.2.1.1]
  refine w_m_ne (a := n + 1) rfl (by first | decide | omega) (by first | rfl | assumption | (simp only [← nI_add, ← nI_mul]; rfl)) (fun _ => ?_) (fun c => by exfalso; omega)
  refine w_st rfl rfl rfl trivial ?_
  refine w_gr (j := 13) rfl (mm_foc rfl) rfl (by decide) ?_
  refine w_st rfl rfl rfl trivial ?_
  refine w_gr (j := 1) rfl (mm_foc rfl) rfl (by decide) ?_
  refine w_k20 (hM) rfl ⟨rfl, by decide, by decide, by decide, Or.inl ⟨_, rfl⟩⟩ (Nat.le_of_ble_eq_true rfl) (mm_foc rfl) (Nat.le_of_ble_eq_true rfl) ?_  -- calls 7 cX1_restore
  refine w_st rfl rfl rfl trivial ?_
  refine w_k10 (hM2) rfl ⟨rfl, by decide, by decide, by decide, Or.inl ⟨_, rfl⟩⟩ (Nat.le_of_ble_eq_true rfl) (mm_foc rfl) (Nat.le_of_ble_eq_true rfl) ?_  -- calls 54 cX4_chooseAllTables
  refine w_st rfl rfl rfl trivial ?_
  refine w_gr (j := 13) rfl (mm_foc rfl) rfl (by decide) ?_
  refine w_gi rfl (mm_foc rfl) ?_
  rw [hH2.1]
  refine w_reti rfl ?_
  subst hF
  refine ⟨rfl, rfl, ?_⟩
  refine ⟨⟨hD2, hH2, sp_X_c (fun p hp => ?_) h.2.2⟩, fun p hp => ?_⟩
  · rw [hfr2 p (by omega), hfr p (by omega) (by unfold sp_in5; omega)]
  · rw [hfr2 p (by omega), hfr p (by omega) (by unfold sp_in5; omega)]
-- lamp
theorem c_lamp_1 (h1 : ¬ (sp_lt 4 x ∧ sp_lt 15 y)) : mm_TH 29 5 [.ref 0, .int x, .int y, .int z] g I 1 := by
  refine w_MT ?_
  show mm_W 29 0 [.ref 0, .int x, .int y, .int z, .null] [] _ _ _
  generalize hF : mm_TX _ _ _ = F
  refine w_st rfl rfl rfl trivial ?_
  refine w_k11 (c_isField) rfl ⟨rfl, by decide, by decide, by decide, Or.inr (Or.inl ⟨_, rfl⟩)⟩ (Nat.le_of_ble_eq_true rfl) trivial (Nat.le_of_ble_eq_true rfl) ?_  -- calls 44 cX4_isField
  refine w_b_eq rfl (fun c => ?_) (fun c => ?_)
  · skip
    refine w_thr rfl (Nat.le_of_ble_eq_true rfl) ?_
    exact hF ▸ ⟨rfl, rfl, rfl⟩
  · skip
    refine w_st rfl rfl rfl trivial ?_
    refine w_k11 (c_isLamp) rfl ⟨rfl, by decide, by decide, by decide, Or.inr (Or.inl ⟨_, rfl⟩)⟩ (Nat.le_of_ble_eq_true rfl) trivial (Nat.le_of_ble_eq_true rfl) ?_  -- calls 45 cX4_isLamp
    refine w_b_ne rfl (fun z => absurd z (fun z => h1 ⟨c, z⟩)) (fun _ => ?_)
    refine w_thr rfl (Nat.le_of_ble_eq_true rfl) ?_
    exact hF ▸ ⟨rfl, rfl, rfl⟩
theorem sp_set_o {q : Bool} {j : Nat} (hj : ¬ j = 8 + f) (h12 : j < 12) : sp_set σ f l q j = σ j := by
  cases q
  · show upd (upd σ (8 + f) _) (12 + (15 * f + l)) 0 j = _
    rw [upd_n (by omega), upd_n hj]
  · show upd σ (8 + f) _ j = _
    rw [upd_n hj]
theorem c_lamp (h : sp_C I σ n ps m tx) (hf : f < 4) (hl : l < 15) (q : Bool) : ∃ I', mm_M 29 5 [.ref 0, .int (nI f), .int (nI l), .int (sp_q q)] g I (some (.int (nI (sp_cg (sp_R (sp_set σ f l q) f) (sp_R σ f) 10)))) I' ∧ (sp_C I' (sp_set σ f l q) (sp_sn n) (sp_sp n ps σ) m tx ∧ sp_cf I I') := by
  have hT : mm_T (45 + 4 * f) := mm_T_f hf
  have hU : mm_T 7 := Or.inl rfl
  obtain ⟨I1, hM, hH, hfr⟩ := c_save (g := g) h.1.1 h.2.1
  have hD1 := sp_D_save hfr h.1
  obtain ⟨I2, hM2, hb2, hfr2⟩ : ∃ I', mm_M 2 4 [.ref 1, .int (nI f), .int (nI l), .int (sp_q q)] g I1 none I' ∧ (sp_bd I' 1 (sp_set σ f l q) ∧ ∀ p, ¬ p = 3 → ¬ p = 4 → I' p = I1 p) := by
    cases q
    · exact c_setLamp_f hD1.1 hf hl
    · exact c_setLamp_t hD1.1 hf hl
  obtain ⟨I3, hM3, ht3, hfr3⟩ := c_choose (g := g) (I := I2) (b := sp_set σ f l q (8 + f)) (s := sp_set σ f l q 1) hU
  have hb3 : sp_bd I3 1 (sp_set σ f l q) := sp_bd_c (fun p hp => hfr3 p (by unfold sp_in5 at hp; omega) (by unfold sp_in5 at hp; omega) (by unfold sp_in5 at hp; omega)) hb2
  have tt3 : ∀ e, e < 4 → sp_tt I3 (45 + 4 * e) (σ (8 + e)) (σ 1) := by
    intro e he d hd
    have := hD1.2 e he d hd
    unfold sp_te at this ⊢
    rw [hfr3 _ (by omega) (by omega) (by omega), hfr3 _ (by omega) (by omega) (by omega), hfr3 _ (by omega) (by omega) (by omega), hfr2 _ (by omega) (by omega), hfr2 _ (by omega) (by omega), hfr2 _ (by omega) (by omega)]
    exact this
  obtain ⟨I4, hM4, ht4, hfr4⟩ := c_chooseTable (g := g) hb3 hf
  refine w_MX ?_
  show mm_W 29 0 [.ref 0, .int (nI f), .int (nI l), .int (sp_q q), .null] [] _ _ _
  generalize hF : mm_EQ _ _ _ = F
  refine w_st rfl rfl rfl trivial ?_
  refine w_k11 (c_isField) rfl ⟨rfl, by decide, by decide, by decide, Or.inr (Or.inl ⟨_, rfl⟩)⟩ (Nat.le_of_ble_eq_true rfl) trivial (Nat.le_of_ble_eq_true rfl) ?_  -- calls 44 cX4_isField
  refine w_b_eq rfl (fun z => absurd (⟨f, hf, rfl⟩) z) (fun _ => ?_)
  refine w_st rfl rfl rfl trivial ?_
  refine w_k11 (c_isLamp) rfl ⟨rfl, by decide, by decide, by decide, Or.inr (Or.inl ⟨_, rfl⟩)⟩ (Nat.le_of_ble_eq_true rfl) trivial (Nat.le_of_ble_eq_true rfl) ?_  -- calls 45 cX4_isLamp
  refine w_b_ne rfl (fun _ => ?_) (fun z => absurd (⟨l, hl, rfl⟩) z)
  refine w_st rfl rfl rfl trivial ?_
  refine w_gr (j := 13) rfl (mm_foc rfl) rfl (by decide) ?_
  refine w_st rfl rfl rfl trivial ?_
  refine w_gr (j := 1) rfl (mm_foc rfl) rfl (by decide) ?_
  refine w_k20 (hM) rfl ⟨rfl, by decide, by decide, by decide, Or.inl ⟨_, rfl⟩⟩ (Nat.le_of_ble_eq_true rfl) (mm_foc rfl) (Nat.le_of_ble_eq_true rfl) ?_  -- calls 6 cX1_save
  refine w_st rfl rfl rfl trivial ?_
  refine w_gr (j := 1) rfl (mm_foc rfl) rfl (by decide) ?_
  refine w_st rfl rfl rfl trivial ?_
  refine w_st rfl rfl rfl trivial ?_
  refine w_st rfl rfl rfl trivial ?_
  refine w_k40 (hM2) rfl ⟨rfl, by decide, by decide, by decide, Or.inl ⟨_, rfl⟩⟩ (Nat.le_of_ble_eq_true rfl) (mm_foc rfl) (Nat.le_of_ble_eq_true rfl) ?_  -- calls 2 cX0_setLamp
  refine w_st rfl rfl rfl trivial ?_
  refine w_gr (j := 7) rfl (mm_foc rfl) rfl (by decide) ?_
  refine w_st rfl rfl rfl trivial ?_
  refine w_gr (j := 1) rfl (mm_foc rfl) rfl (by decide) ?_
  refine w_gr (j := 3) rfl (mm_foc rfl) rfl (by decide) ?_
  refine w_st rfl rfl rfl trivial ?_
  refine w_ia (f) rfl (mm_fac (n := 4) rfl) (by first | rfl | assumption | (simp only [← nI_add, ← nI_mul]; rfl)) (by first | decide | omega) ?_
  rw [show I2 3 f = sp_set σ f l q (8 + f) from hb2.2.1 f hf]
  refine w_st rfl rfl rfl trivial ?_
  refine w_gr (j := 1) rfl (mm_foc rfl) rfl (by decide) ?_
  refine w_gr (j := 5) rfl (mm_foc rfl) rfl (by decide) ?_
  refine w_st rfl rfl rfl trivial ?_
  refine w_ia (0) rfl (mm_fac (n := 2) rfl) (by first | rfl | assumption | (simp only [← nI_add, ← nI_mul]; rfl)) (by first | decide | omega) ?_
  rw [show I2 5 0 = sp_set σ f l q 1 from hb2.2.2.2.1 0 (by decide)]
  refine w_k30 (hM3) rfl ⟨rfl, by decide, by decide, by decide, Or.inl ⟨_, rfl⟩⟩ (Nat.le_of_ble_eq_true rfl) (mm_foc rfl) (Nat.le_of_ble_eq_true rfl) ?_  -- calls 10 cX2_choose
  refine w_st rfl rfl rfl trivial ?_
  refine w_gr (j := 7) rfl (mm_foc rfl) rfl (by decide) ?_
  refine w_st rfl rfl rfl trivial ?_
  refine w_gr (j := 6) rfl (mm_foc rfl) rfl (by decide) ?_
  refine w_st rfl rfl rfl trivial ?_
  refine w_ra (j := 45 + 4 * (f)) (f) rfl (Or.inl (mm_fac (n := 4) rfl)) (by first | rfl | assumption | (simp only [← nI_add, ← nI_mul]; rfl)) (by first | decide | omega) (mm_T_6 (by omega)) (by omega) ?_
  refine w_k21 (c_changesFrom hU hT ht3 (tt3 f hf)) rfl ⟨rfl, by decide, by decide, by decide, Or.inl ⟨_, rfl⟩⟩ (Nat.le_of_ble_eq_true rfl) (mm_foc rfl) (Nat.le_of_ble_eq_true rfl) ?_  -- calls 23 cX2_changesFrom
  refine w_st rfl rfl rfl (Nat.le_of_ble_eq_true rfl) ?_
  refine w_st rfl rfl rfl trivial ?_
  refine w_st rfl rfl rfl trivial ?_
  refine w_k20 (hM4) rfl ⟨rfl, by decide, by decide, by decide, Or.inl ⟨_, rfl⟩⟩ (Nat.le_of_ble_eq_true rfl) (mm_foc rfl) (Nat.le_of_ble_eq_true rfl) ?_  -- calls 53 cX4_chooseTable
  refine w_st rfl rfl rfl trivial ?_
  refine w_reti rfl ?_
  subst hF
  refine ⟨rfl, rfl, ?_⟩
  have fr : ∀ p, ¬ (8 ≤ p ∧ p < 11) → ¬ (45 ≤ p ∧ p < 61) → ¬ p = 3 → ¬ p = 4 → I4 p = I1 p := fun p a1 a2 a3 a4 => by
    rw [hfr4 p (by omega) (by omega) (by omega), hfr3 p (by omega) (by omega) (by omega), hfr2 p a3 a4]
  refine ⟨⟨⟨sp_bd_c (fun p hp => hfr4 p (by unfold sp_in5 at hp; omega) (by unfold sp_in5 at hp; omega) (by unfold sp_in5 at hp; omega)) hb3, fun e he => ?_⟩, sp_H_c (fun p hp => fr p (by omega) (by omega) (by omega) (by omega)) hH, sp_X_c (fun p hp => fr p (by omega) (by omega) (by omega) (by omega)) (sp_X_save hfr h.2.2)⟩, fun p hp => ?_⟩
  · by_cases c : e = f
    · subst c; exact ht4
    · intro d hd
      have := tt3 e he d hd
      rw [sp_set_o (by omega) (by omega), sp_set_o (by omega) (by omega)]
      unfold sp_te at this ⊢
      rw [hfr4 _ (by omega) (by omega) (by omega), hfr4 _ (by omega) (by omega) (by omega), hfr4 _ (by omega) (by omega) (by omega)]
      exact this
  · rw [fr p (by omega) (by omega) (by omega) (by omega)]; exact hfr p (by omega) (by omega)
-- mend
def sp_md (σ : sp_St) (f : Nat) : Nat → sp_St
  | 0 => σ
  | l + 1 => sp_set (sp_md σ f l) f l false
theorem sp_md_o {j : Nat} (hj : ¬ j = 8 + f) (h12 : j < 12) (k : Nat) : sp_md σ f k j = σ j := by
  induction k with
  | zero => rfl
  | succ k ih => show sp_set (sp_md σ f k) f k false j = _; rw [sp_set_o hj h12, ih]
theorem c_mend_1 (h1 : ¬ sp_lt 4 x) : mm_TH 30 4 [.ref 0, .int x] g I 1 := by
  refine w_MT ?_
  show mm_W 30 0 [.ref 0, .int x, .null, .null] [] _ _ _
  generalize hF : mm_TX _ _ _ = F
  refine w_st rfl rfl rfl trivial ?_
  refine w_k11 (c_isField) rfl ⟨rfl, by decide, by decide, by decide, Or.inr (Or.inl ⟨_, rfl⟩)⟩ (Nat.le_of_ble_eq_true rfl) trivial (Nat.le_of_ble_eq_true rfl) ?_  -- calls 44 cX4_isField
  refine w_b_ne rfl (fun z => absurd z (h1)) (fun _ => ?_)
  refine w_thr rfl (Nat.le_of_ble_eq_true rfl) ?_
  exact hF ▸ ⟨rfl, rfl, rfl⟩
theorem c_mend (h : sp_C I σ n ps m tx) (hf : f < 4) : ∃ I', mm_M 30 4 [.ref 0, .int (nI f)] g I (some (.int (sp_pop (σ (8 + f))))) I' ∧ (sp_C I' (sp_md σ f 15) (sp_sn n) (sp_sp n ps σ) m tx ∧ sp_cf I I') := by
  obtain ⟨I1, hM, hH, hfr⟩ := c_save (g := g) h.1.1 h.2.1
  have hD1 := sp_D_save hfr h.1
  refine w_MX ?_
  show mm_W 30 0 [.ref 0, .int (nI f), .null, .null] [] _ _ _
  generalize hF : mm_EQ _ _ _ = F
  refine w_st rfl rfl rfl trivial ?_
  refine w_k11 (c_isField) rfl ⟨rfl, by decide, by decide, by decide, Or.inr (Or.inl ⟨_, rfl⟩)⟩ (Nat.le_of_ble_eq_true rfl) trivial (Nat.le_of_ble_eq_true rfl) ?_  -- calls 44 cX4_isField
  refine w_b_ne rfl (fun _ => ?_) (fun z => absurd (⟨f, hf, rfl⟩) z)
  refine w_st rfl rfl rfl trivial ?_
  refine w_gr (j := 13) rfl (mm_foc rfl) rfl (by decide) ?_
  refine w_st rfl rfl rfl trivial ?_
  refine w_gr (j := 1) rfl (mm_foc rfl) rfl (by decide) ?_
  refine w_k20 (hM) rfl ⟨rfl, by decide, by decide, by decide, Or.inl ⟨_, rfl⟩⟩ (Nat.le_of_ble_eq_true rfl) (mm_foc rfl) (Nat.le_of_ble_eq_true rfl) ?_  -- calls 6 cX1_save
  refine w_st rfl rfl rfl trivial ?_
  refine w_gr (j := 1) rfl (mm_foc rfl) rfl (by decide) ?_
  refine w_gr (j := 3) rfl (mm_foc rfl) rfl (by decide) ?_
  refine w_st rfl rfl rfl trivial ?_
  refine w_ia (f) rfl (mm_fac (n := 4) rfl) (by first | rfl | assumption | (simp only [← nI_add, ← nI_mul]; rfl)) (by first | decide | omega) ?_
  rw [sp_Db hD1 hf]
  refine w_k11 (c_bitCount) rfl ⟨rfl, by decide, by decide, by decide, Or.inr (Or.inl ⟨_, rfl⟩)⟩ (Nat.le_of_ble_eq_true rfl) trivial (Nat.le_of_ble_eq_true rfl) ?_  -- calls 67 cJ6_bitCount_0f7a4
  refine w_st rfl rfl rfl (Nat.le_of_ble_eq_true rfl) ?_
  refine w_st rfl rfl rfl trivial ?_
  refine w_st rfl rfl rfl (Nat.le_of_ble_eq_true rfl) ?_
  have K : ∀ l, l ≤ 15 → ∀ I2, (sp_bd I2 1 (sp_md σ f l) ∧ ∀ p, ¬ p = 3 → ¬ p = 4 → I2 p = I1 p) → mm_W 30 43 [.ref 0, .int (nI f), .int (sp_pop (σ (8 + f))), .int (nI l)] [] g I2 F := by
    refine mm_dn 15 ?_ ?_
    · intro I2 hI
      obtain ⟨I4, hM4, ht4, hfr4⟩ := c_chooseTable (g := g) hI.1 hf
      refine w_st rfl rfl rfl trivial ?_
      refine w_st rfl rfl rfl trivial ?_
      refine w_n_ge (a := 15) (b := 15) rfl (by first | decide | omega) (by first | decide | omega) (by first | rfl | assumption | (simp only [← nI_add, ← nI_mul]; rfl)) (by first | rfl | assumption | (simp only [← nI_add, ← nI_mul]; rfl)) (fun _ => ?_) (fun c => by exfalso; omega)
      refine w_st rfl rfl rfl trivial ?_
      refine w_st rfl rfl rfl trivial ?_
      refine w_k20 (hM4) rfl ⟨rfl, by decide, by decide, by decide, Or.inl ⟨_, rfl⟩⟩ (Nat.le_of_ble_eq_true rfl) (mm_foc rfl) (Nat.le_of_ble_eq_true rfl) ?_  -- calls 53 cX4_chooseTable
      refine w_st rfl rfl rfl trivial ?_
      refine w_reti rfl ?_
      subst hF
      refine ⟨rfl, rfl, ?_⟩
      have fr : ∀ p, ¬ (45 ≤ p ∧ p < 61) → ¬ p = 3 → ¬ p = 4 → I4 p = I1 p := fun p a2 a3 a4 => by
        rw [hfr4 p (by omega) (by omega) (by omega), hI.2 p a3 a4]
      refine ⟨⟨⟨sp_bd_c (fun p hp => hfr4 p (by unfold sp_in5 at hp; omega) (by unfold sp_in5 at hp; omega) (by unfold sp_in5 at hp; omega)) hI.1, fun e he => ?_⟩, sp_H_c (fun p hp => fr p (by omega) (by omega) (by omega)) hH, sp_X_c (fun p hp => fr p (by omega) (by omega) (by omega)) (sp_X_save hfr h.2.2)⟩, fun p hp => ?_⟩
      · by_cases c : e = f
        · subst c; exact ht4
        · intro d hd
          have := hD1.2 e he d hd
          rw [sp_md_o (by omega) (by omega), sp_md_o (by omega) (by omega)]
          unfold sp_te at this ⊢
          rw [hfr4 _ (by omega) (by omega) (by omega), hfr4 _ (by omega) (by omega) (by omega), hfr4 _ (by omega) (by omega) (by omega), hI.2 _ (by omega) (by omega), hI.2 _ (by omega) (by omega), hI.2 _ (by omega) (by omega)]
          exact this
      · rw [fr p (by omega) (by omega) (by omega)]; exact hfr p (by omega) (by omega)
    · intro l hl ih I2 hI
      obtain ⟨I3, hM3, hb3, hfr3⟩ := c_setLamp_f (g := g) hI.1 hf hl
      refine w_st rfl rfl rfl trivial ?_
      refine w_st rfl rfl rfl trivial ?_
      refine w_n_ge (a := l) (b := 15) rfl (by first | decide | omega) (by first | decide | omega) (by first | rfl | assumption | (simp only [← nI_add, ← nI_mul]; rfl)) (by first | rfl | assumption | (simp only [← nI_add, ← nI_mul]; rfl)) (fun c => by exfalso; omega) (fun _ => ?_)
      refine w_st rfl rfl rfl trivial ?_
      refine w_gr (j := 1) rfl (mm_foc rfl) rfl (by decide) ?_
      refine w_st rfl rfl rfl trivial ?_
      refine w_st rfl rfl rfl trivial ?_
      refine w_st rfl rfl rfl trivial ?_
      refine w_k40 (hM3) rfl ⟨rfl, by decide, by decide, by decide, Or.inl ⟨_, rfl⟩⟩ (Nat.le_of_ble_eq_true rfl) (mm_foc rfl) (Nat.le_of_ble_eq_true rfl) ?_  -- calls 2 cX0_setLamp
      refine w_inc rfl rfl rfl (Nat.le_of_ble_eq_true rfl) (nI_1 _) ?_
      refine w_st rfl rfl rfl trivial ?_
      exact ih I3 ⟨hb3, fun p a c => by rw [hfr3 p a c]; exact hI.2 p a c⟩
  exact K 0 (by decide) I1 ⟨hD1.1, fun _ _ _ => rfl⟩
end SM
end
section
/-! number, on both sides -/
noncomputable def sp_da (N f : Nat) : Int32 := sp_if (0 < N / 10 ^ (3 - f) ∨ f = 3) (nI (N / 10 ^ (3 - f) % 10)) (-1)
theorem sp_da_k (N f : Nat) : sp_da N f = -1 ∨ ∃ d, d < 10 ∧ sp_da N f = nI d := by
  unfold sp_da
  by_cases c : 0 < N / 10 ^ (3 - f) ∨ f = 3
  · rw [sp_if_t c]; exact Or.inr ⟨_, Nat.mod_lt _ (by decide), rfl⟩
  · rw [sp_if_f c]; exact Or.inl rfl
def sp_nok (σ : sp_St) (N k : Nat) : Prop := ∀ f, f < k → sp_da N f = -1 ∨ sp_can (sp_R σ f) (sp_da N f)
noncomputable def sp_nu (σ : sp_St) (N : Nat) : Nat → sp_St
  | 0 => σ
  | k + 1 => upd (sp_nu σ N k) (4 + k) (sp_da N k)
theorem sp_nu_o {σ : sp_St} {N j : Nat} (k : Nat) (hj : j < 4 ∨ 4 + k ≤ j) : sp_nu σ N k j = σ j := by
  induction k with
  | zero => rfl
  | succ k ih => show upd (sp_nu σ N k) (4 + k) _ j = _; rw [upd_n (by omega), ih (by omega)]
theorem sp_nu_d {σ : sp_St} {N f : Nat} (k : Nat) (hf : f < k) : sp_nu σ N k (4 + f) = sp_da N f := by
  induction k with
  | zero => omega
  | succ k ih =>
    show upd (sp_nu σ N k) (4 + k) _ (4 + f) = _
    by_cases c : f = k
    · subst c; rw [upd_s]
    · rw [upd_n (by omega), ih (by omega)]
theorem sp_ok_nu {σ : sp_St} {N : Nat} (ok : sp_ok σ) : sp_ok (sp_nu σ N 4) := by
  obtain ⟨o1, o2, o3, o4, n, o5, o6, o7⟩ := ok
  refine ⟨fun e he => ?_, fun e he => ?_, ?_, ?_, n, o5, ?_, fun j hj => ?_⟩
  · rw [sp_nu_d 4 he]; exact sp_da_k N e
  · rw [sp_nu_o 4 (by omega)]; exact o2 e he
  · rw [sp_nu_o 4 (by omega)]; exact o3
  · rw [sp_nu_o 4 (by omega)]; exact o4
  · rw [sp_nu_o 4 (by omega)]; exact o6
  · rw [sp_nu_o 4 (by omega)]; exact o7 j hj
section SM
variable {g : mm_Gg} {I : mm_Is} {x y z : Int32} {l d k t u f w n b o m N : Nat} {σ τ : sp_St} {ps : Nat → sp_St} {tx : Nat → Int32}
theorem c_digitAt (hN : N < 10000) (hf : f < 4) : mm_M 51 4 [.int (nI N), .int (nI f)] g I (some (.int (sp_da N f))) I := by
  have hb : ∀ j, N / 10 ^ j < 10000 := fun j => Nat.lt_of_le_of_lt (Nat.div_le_self _ _) hN
  refine w_M ?_
  show mm_W 51 0 [.int (nI N), .int (nI f), .null, .null] [] _ _ _
  generalize hF : mm_EX _ _ _ = F
  refine w_st rfl rfl rfl trivial ?_
  refine w_st rfl rfl rfl (Nat.le_of_ble_eq_true rfl) ?_
  refine w_st rfl rfl rfl trivial ?_
  refine w_st rfl rfl rfl (Nat.le_of_ble_eq_true rfl) ?_
  have K : ∀ j, j ≤ 3 - f → mm_W 51 4 [.int (nI N), .int (nI f), .int (nI (N / 10 ^ j)), .int (nI (3 - j))] [] g I F := by
    refine mm_dn (3 - f) ?_ ?_
    · have hb' := hb (3 - f)
      unfold sp_da at hF
      generalize N / 10 ^ (3 - f) = X at *
      refine w_st rfl rfl rfl trivial ?_
      refine w_st rfl rfl rfl trivial ?_
      refine w_n_le (a := 3 - (3 - f)) (b := f) rfl (by first | decide | omega) (by first | decide | omega) (by first | rfl | assumption | (simp only [← nI_add, ← nI_mul]; rfl)) (by first | rfl | assumption | (simp only [← nI_add, ← nI_mul]; rfl)) (fun _ => ?_) (fun c => by exfalso; omega)
      refine w_st rfl rfl rfl trivial ?_
      refine w_m_gt (a := X) rfl (by first | decide | omega) (by first | rfl | assumption | (simp only [← nI_add, ← nI_mul]; rfl)) (fun c => ?_) (fun c => ?_)
      · rw [sp_if_t (Or.inl c)] at hF
        refine w_st rfl rfl rfl trivial ?_
        refine w_st rfl rfl rfl trivial ?_
        refine w_irem rfl (by decide) ?_
        refine w_hd ((nI_div10 hb').2) ?_
        refine w_st rfl rfl rfl trivial ?_
        refine w_reti rfl ?_
        exact hF ▸ mm_EX_i (rfl)
      · skip
        refine w_st rfl rfl rfl trivial ?_
        refine w_st rfl rfl rfl trivial ?_
        refine w_n_ne (a := f) (b := 3) rfl (by first | decide | omega) (by first | decide | omega) (by first | rfl | assumption | (simp only [← nI_add, ← nI_mul]; rfl)) (by first | rfl | assumption | (simp only [← nI_add, ← nI_mul]; rfl)) (fun c2 => ?_) (fun c2 => ?_)
        · rw [sp_if_f (by omega)] at hF
          refine w_st rfl rfl rfl trivial ?_
          refine w_reti rfl ?_
          exact hF ▸ mm_EX_i (rfl)
        · rw [sp_if_t (Or.inr c2)] at hF
          refine w_st rfl rfl rfl trivial ?_
          refine w_st rfl rfl rfl trivial ?_
          refine w_irem rfl (by decide) ?_
          refine w_hd ((nI_div10 hb').2) ?_
          refine w_st rfl rfl rfl trivial ?_
          refine w_reti rfl ?_
          exact hF ▸ mm_EX_i (rfl)
    · intro j hj ih
      have e1 : 3 - j = (2 - j) + 1 := by omega
      have e2 : 3 - (j + 1) = 2 - j := by omega
      have e3 : N / 10 ^ (j + 1) = N / 10 ^ j / 10 := by rw [Nat.pow_succ, Nat.div_div_eq_div_mul]
      rw [e2, e3] at ih
      rw [e1]
      refine w_st rfl rfl rfl trivial ?_
      refine w_st rfl rfl rfl trivial ?_
      refine w_n_le (a := (2 - j) + 1) (b := f) rfl (by first | decide | omega) (by first | decide | omega) (by first | rfl | assumption | (simp only [← nI_add, ← nI_mul]; rfl)) (by first | rfl | assumption | (simp only [← nI_add, ← nI_mul]; rfl)) (fun c => by exfalso; omega) (fun _ => ?_)
      refine w_st rfl rfl rfl trivial ?_
      refine w_st rfl rfl rfl trivial ?_
      refine w_idiv rfl (by decide) ?_
      refine w_hd ((nI_div10 (hb j)).1) ?_
      refine w_st rfl rfl rfl (Nat.le_of_ble_eq_true rfl) ?_
      refine w_inc rfl rfl rfl (Nat.le_of_ble_eq_true rfl) (nI_dec _) ?_
      refine w_st rfl rfl rfl trivial ?_
      exact ih
  have := K 0 (by omega)
  rw [Nat.pow_zero, Nat.div_one] at this
  exact this
theorem c_canShowNumber (h : sp_D I σ) (hN : N < 10000) : mm_M 52 4 [.ref 0, .int (nI N)] g I (some (.int (mm_bi (sp_nok σ N 4)))) I := by
  refine w_M ?_
  show mm_W 52 0 [.ref 0, .int (nI N), .null, .null] [] _ _ _
  generalize hF : mm_EX _ _ _ = F
  refine w_st rfl rfl rfl trivial ?_
  refine w_st rfl rfl rfl (Nat.le_of_ble_eq_true rfl) ?_
  have K : ∀ f, f ≤ 4 → ∀ v, sp_nok σ N f → mm_W 52 2 [.ref 0, .int (nI N), .int (nI f), v] [] g I F := by
    refine mm_dn 4 ?_ ?_
    · intro v hk
      refine w_st rfl rfl rfl trivial ?_
      refine w_st rfl rfl rfl trivial ?_
      refine w_n_ge (a := 4) (b := 4) rfl (by first | decide | omega) (by first | decide | omega) (by first | rfl | assumption | (simp only [← nI_add, ← nI_mul]; rfl)) (by first | rfl | assumption | (simp only [← nI_add, ← nI_mul]; rfl)) (fun _ => ?_) (fun c => by exfalso; omega)
      refine w_st rfl rfl rfl trivial ?_
      refine w_retz rfl (by first | exact Or.inl rfl | exact Or.inr rfl | exact mm_bi_01 _ | assumption) ?_
      exact hF ▸ mm_EX_i ((mm_bi_t hk).symm)
    · intro f hf ih v hk
      have hT : mm_T (45 + 4 * f) := mm_T_f hf
      refine w_st rfl rfl rfl trivial ?_
      refine w_st rfl rfl rfl trivial ?_
      refine w_n_ge (a := f) (b := 4) rfl (by first | decide | omega) (by first | decide | omega) (by first | rfl | assumption | (simp only [← nI_add, ← nI_mul]; rfl)) (by first | rfl | assumption | (simp only [← nI_add, ← nI_mul]; rfl)) (fun c => by exfalso; omega) (fun _ => ?_)
      refine w_st rfl rfl rfl trivial ?_
      refine w_st rfl rfl rfl trivial ?_
      refine w_k21 (c_digitAt hN hf) rfl ⟨rfl, by decide, by decide, by decide, Or.inr (Or.inl ⟨_, rfl⟩)⟩ (Nat.le_of_ble_eq_true rfl) trivial (Nat.le_of_ble_eq_true rfl) ?_  -- calls 51 cX4_digitAt
      refine w_st rfl rfl rfl (Nat.le_of_ble_eq_true rfl) ?_
      refine w_st rfl rfl rfl trivial ?_
      refine w_st rfl rfl rfl trivial ?_
      refine w_v_eq rfl (fun c1 => ?_) (fun c1 => ?_)
      · skip
        refine w_inc rfl rfl rfl (Nat.le_of_ble_eq_true rfl) (nI_1 _) ?_
        refine w_st rfl rfl rfl trivial ?_
        refine ih _ (fun e he => ?_)
        rcases Nat.lt_succ_iff_lt_or_eq.1 he with z | rfl
        · exact hk e z
        · exact Or.inl c1
      · skip
        refine w_st rfl rfl rfl trivial ?_
        refine w_gr (j := 6) rfl (mm_foc rfl) rfl (by decide) ?_
        refine w_st rfl rfl rfl trivial ?_
        refine w_ra (j := 45 + 4 * (f)) (f) rfl (Or.inl (mm_fac (n := 4) rfl)) (by first | rfl | assumption | (simp only [← nI_add, ← nI_mul]; rfl)) (by first | decide | omega) (mm_T_6 (by omega)) (by omega) ?_
        refine w_st rfl rfl rfl trivial ?_
        refine w_k21 (c_canShow hT (h.2 f hf)) rfl ⟨rfl, by decide, by decide, by decide, Or.inl ⟨_, rfl⟩⟩ (Nat.le_of_ble_eq_true rfl) (mm_T_o hT) (Nat.le_of_ble_eq_true rfl) ?_  -- calls 14 cX2_canShow
        refine w_b_ne rfl (fun c2 => ?_) (fun c2 => ?_)
        · skip
          refine w_inc rfl rfl rfl (Nat.le_of_ble_eq_true rfl) (nI_1 _) ?_
          refine w_st rfl rfl rfl trivial ?_
          refine ih _ (fun e he => ?_)
          rcases Nat.lt_succ_iff_lt_or_eq.1 he with z | rfl
          · exact hk e z
          · exact Or.inr c2
        · skip
          refine w_st rfl rfl rfl trivial ?_
          refine w_retz rfl (by first | exact Or.inl rfl | exact Or.inr rfl | exact mm_bi_01 _ | assumption) ?_
          exact hF ▸ mm_EX_i ((mm_bi_f (fun z => (z f hf).elim c1 c2)).symm)
  exact K 0 (by decide) .null (fun e he => absurd he (Nat.not_lt_zero _))
theorem c_number_1 (h1 : ¬ sp_lt 10000 x) : mm_TH 28 3 [.ref 0, .int x] g I 2 := by
  refine w_MT ?_
  show mm_W 28 0 [.ref 0, .int x, .null] [] _ _ _
  generalize hF : mm_TX _ _ _ = F
  refine w_st rfl rfl rfl trivial ?_
  refine w_z_lt rfl (fun c1 => ?_) (fun c1 => ?_)
  · skip
    refine w_thr rfl (Nat.le_of_ble_eq_true rfl) ?_
    exact hF ▸ ⟨rfl, rfl, rfl⟩
  · skip
    refine w_st rfl rfl rfl trivial ?_
    refine w_st rfl rfl rfl trivial ?_
    refine w_v_le rfl (fun z => by first | exact absurd z (fun c2 => h1 (sp_le_i (n := 9999) (by decide) rfl (Int32.not_lt.1 c1) c2)) | exact absurd (fun c2 => h1 (sp_le_i (n := 9999) (by decide) rfl (Int32.not_lt.1 c1) c2)) z) (fun _ => ?_)
    refine w_thr rfl (Nat.le_of_ble_eq_true rfl) ?_
    exact hF ▸ ⟨rfl, rfl, rfl⟩
theorem c_number_2 (h : sp_D I σ) (hN : N < 10000) (h2 : ¬ sp_nok σ N 4) : mm_TH 28 3 [.ref 0, .int (nI N)] g I 3 := by
  refine w_MT ?_
  show mm_W 28 0 [.ref 0, .int (nI N), .null] [] _ _ _
  generalize hF : mm_TX _ _ _ = F
  refine w_st rfl rfl rfl trivial ?_
  refine w_m_lt (a := N) rfl (by first | decide | omega) (by first | rfl | assumption | (simp only [← nI_add, ← nI_mul]; rfl)) ?_
  refine w_st rfl rfl rfl trivial ?_
  refine w_st rfl rfl rfl trivial ?_
  refine w_n_le (a := N) (b := 9999) rfl (by first | decide | omega) (by first | decide | omega) (by first | rfl | assumption | (simp only [← nI_add, ← nI_mul]; rfl)) (by first | rfl | assumption | (simp only [← nI_add, ← nI_mul]; rfl)) (fun _ => ?_) (fun c => by exfalso; omega)
  refine w_st rfl rfl rfl trivial ?_
  refine w_st rfl rfl rfl trivial ?_
  refine w_k21 (c_canShowNumber h hN) rfl ⟨rfl, by decide, by decide, by decide, Or.inl ⟨_, rfl⟩⟩ (Nat.le_of_ble_eq_true rfl) (mm_foc rfl) (Nat.le_of_ble_eq_true rfl) ?_  -- calls 52 cX4_canShowNumber
  refine w_b_ne rfl (fun z => absurd z (h2)) (fun _ => ?_)
  refine w_thr rfl (Nat.le_of_ble_eq_true rfl) ?_
  exact hF ▸ ⟨rfl, rfl, rfl⟩
theorem c_number (h : sp_C I σ n ps m tx) (hN : N < 10000) (h2 : sp_nok σ N 4) : ∃ I', mm_M 28 3 [.ref 0, .int (nI N)] g I (some (.int (nI (sp_wd (sp_nu σ N 4) 4)))) I' ∧ (sp_C I' (sp_nu σ N 4) (sp_sn n) (sp_sp n ps σ) m tx ∧ sp_cf I I') := by
  obtain ⟨I1, hM, hH, hfr⟩ := c_save (g := g) h.1.1 h.2.1
  have hD1 := sp_D_save hfr h.1
  refine w_MX ?_
  show mm_W 28 0 [.ref 0, .int (nI N), .null] [] _ _ _
  generalize hF : mm_EQ _ _ _ = F
  refine w_st rfl rfl rfl trivial ?_
  refine w_m_lt (a := N) rfl (by first | decide | omega) (by first | rfl | assumption | (simp only [← nI_add, ← nI_mul]; rfl)) ?_
  refine w_st rfl rfl rfl trivial ?_
  refine w_st rfl rfl rfl trivial ?_
  refine w_n_le (a := N) (b := 9999) rfl (by first | decide | omega) (by first | decide | omega) (by first | rfl | assumption | (simp only [← nI_add, ← nI_mul]; rfl)) (by first | rfl | assumption | (simp only [← nI_add, ← nI_mul]; rfl)) (fun _ => ?_) (fun c => by exfalso; omega)
  refine w_st rfl rfl rfl trivial ?_
  refine w_st rfl rfl rfl trivial ?_
  refine w_k21 (c_canShowNumber h.1 hN) rfl ⟨rfl, by decide, by decide, by decide, Or.inl ⟨_, rfl⟩⟩ (Nat.le_of_ble_eq_true rfl) (mm_foc rfl) (Nat.le_of_ble_eq_true rfl) ?_  -- calls 52 cX4_canShowNumber
  refine w_b_ne rfl (fun _ => ?_) (fun z => absurd (h2) z)
  refine w_st rfl rfl rfl trivial ?_
  refine w_gr (j := 13) rfl (mm_foc rfl) rfl (by decide) ?_
  refine w_st rfl rfl rfl trivial ?_
  refine w_gr (j := 1) rfl (mm_foc rfl) rfl (by decide) ?_
  refine w_k20 (hM) rfl ⟨rfl, by decide, by decide, by decide, Or.inl ⟨_, rfl⟩⟩ (Nat.le_of_ble_eq_true rfl) (mm_foc rfl) (Nat.le_of_ble_eq_true rfl) ?_  -- calls 6 cX1_save
  refine w_st rfl rfl rfl trivial ?_
  refine w_st rfl rfl rfl (Nat.le_of_ble_eq_true rfl) ?_
  have K : ∀ f, f ≤ 4 → ∀ I2, (sp_bd I2 1 (sp_nu σ N f) ∧ ∀ p, ¬ p = 2 → I2 p = I1 p) → mm_W 28 52 [.ref 0, .int (nI N), .int (nI f)] [] g I2 F := by
    refine mm_dn 4 ?_ ?_
    · intro I2 hI
      have hD : sp_D I2 (sp_nu σ N 4) := by
        refine ⟨hI.1, fun e he d hd => ?_⟩
        have := hD1.2 e he d hd
        rw [sp_nu_o 4 (by omega), sp_nu_o 4 (by omega)]
        unfold sp_te at this ⊢
        rw [hI.2 _ (by omega), hI.2 _ (by omega), hI.2 _ (by omega)]
        exact this
      refine w_st rfl rfl rfl trivial ?_
      refine w_st rfl rfl rfl trivial ?_
      refine w_n_ge (a := 4) (b := 4) rfl (by first | decide | omega) (by first | decide | omega) (by first | rfl | assumption | (simp only [← nI_add, ← nI_mul]; rfl)) (by first | rfl | assumption | (simp only [← nI_add, ← nI_mul]; rfl)) (fun _ => ?_) (fun c => by exfalso; omega)
      refine w_st rfl rfl rfl trivial ?_
      refine w_k11 (c_fieldsWithDigit hD) rfl ⟨rfl, by decide, by decide, by decide, Or.inl ⟨_, rfl⟩⟩ (Nat.le_of_ble_eq_true rfl) (mm_foc rfl) (Nat.le_of_ble_eq_true rfl) ?_  -- calls 64 cX4_fieldsWithDigit
      refine w_reti rfl ?_
      subst hF
      refine ⟨rfl, rfl, ?_⟩
      refine ⟨⟨hD, sp_H_c (fun p hp => hI.2 p (by omega)) hH, sp_X_c (fun p hp => hI.2 p (by omega)) (sp_X_save hfr h.2.2)⟩, fun p hp => ?_⟩
      rw [hI.2 p (by omega)]; exact hfr p (by omega) (by omega)
    · intro f hf ih I2 hI
      refine w_st rfl rfl rfl trivial ?_
      refine w_st rfl rfl rfl trivial ?_
      refine w_n_ge (a := f) (b := 4) rfl (by first | decide | omega) (by first | decide | omega) (by first | rfl | assumption | (simp only [← nI_add, ← nI_mul]; rfl)) (by first | rfl | assumption | (simp only [← nI_add, ← nI_mul]; rfl)) (fun c => by exfalso; omega) (fun _ => ?_)
      refine w_st rfl rfl rfl trivial ?_
      refine w_gr (j := 1) rfl (mm_foc rfl) rfl (by decide) ?_
      refine w_gr (j := 2) rfl (mm_foc rfl) rfl (by decide) ?_
      refine w_st rfl rfl rfl trivial ?_
      refine w_st rfl rfl rfl trivial ?_
      refine w_st rfl rfl rfl trivial ?_
      refine w_k21 (c_digitAt hN hf) rfl ⟨rfl, by decide, by decide, by decide, Or.inr (Or.inl ⟨_, rfl⟩)⟩ (Nat.le_of_ble_eq_true rfl) trivial (Nat.le_of_ble_eq_true rfl) ?_  -- calls 51 cX4_digitAt
      refine w_is (f) rfl (mm_fac (n := 4) rfl) (by first | rfl | assumption | (simp only [← nI_add, ← nI_mul]; rfl)) (by first | decide | omega) ?_
      refine w_inc rfl rfl rfl (Nat.le_of_ble_eq_true rfl) (nI_1 _) ?_
      refine w_st rfl rfl rfl trivial ?_
      exact ih _ ⟨sp_bd_d1 hI.1 hf, fun p hp => by rw [va_up_ne _ _ hp]; exact hI.2 p hp⟩
  exact K 0 (by decide) I1 ⟨hD1.1, fun _ _ => rfl⟩
end SM
end
section
/-! hours go by, on the class's side: the lit lamps -/
section SM
variable {g : mm_Gg} {I I1 : mm_Is} {x y z : Int32} {l d k t u f w n b o m N c s i a : Nat} {σ τ : sp_St} {ps : Nat → sp_St} {tx : Nat → Int32}
theorem c_addHours (h : sp_bd I 1 σ) (hf : f < 4) (hl : l < 15) : ∃ I', mm_M 4 4 [.ref 1, .int (nI f), .int (nI l), .int x] g I none I' ∧ (sp_bd I' 1 (upd σ (12 + (15 * f + l)) (σ (12 + (15 * f + l)) + x)) ∧ ∀ p, ¬ p = 4 → I' p = I p) := by
  refine w_MX ?_
  show mm_W 4 0 [.ref 1, .int (nI f), .int (nI l), .int x] [] _ _ _
  generalize hF : mm_EQ _ _ _ = F
  refine w_st rfl rfl rfl trivial ?_
  refine w_gr (j := 4) rfl (mm_foc rfl) rfl (by decide) ?_
  refine w_st rfl rfl rfl trivial ?_
  refine w_st rfl rfl rfl trivial ?_
  refine w_imul rfl ?_
  refine w_st rfl rfl rfl trivial ?_
  refine w_iadd rfl ?_
  refine w_st rfl rfl rfl trivial ?_
  refine w_ia (15 * f + l) rfl (mm_fac (n := 60) rfl) (by first | rfl | assumption | (simp only [← nI_add, ← nI_mul]; rfl)) (by first | decide | omega) ?_
  refine w_st rfl rfl rfl trivial ?_
  refine w_iadd rfl ?_
  refine w_is (15 * f + l) rfl (mm_fac (n := 60) rfl) (by first | rfl | assumption | (simp only [← nI_add, ← nI_mul]; rfl)) (by first | decide | omega) ?_
  refine w_retv rfl ?_
  subst hF
  refine ⟨rfl, rfl, ?_⟩
  rw [show I 4 (15 * f + l) = σ (12 + (15 * f + l)) from h.2.2.1 _ (by omega)]
  exact ⟨sp_bd_h1 h (by omega), fun p hp => va_up_ne _ _ hp⟩
/-- lit lamps of a field get x hours more, the first k lamps -/
noncomputable def sp_lf (σ : sp_St) (x : Int32) (f : Nat) : Nat → sp_St → sp_St
  | 0, τ => τ
  | l + 1, τ => sp_if (¬ sp_lit σ f &&& sp_bit l = 0) (upd (sp_lf σ x f l τ) (12 + (15 * f + l)) (sp_lf σ x f l τ (12 + (15 * f + l)) + x)) (sp_lf σ x f l τ)
noncomputable def sp_lg (σ : sp_St) (x : Int32) : Nat → sp_St
  | 0 => σ
  | f + 1 => sp_lf σ x f 15 (sp_lg σ x f)
theorem sp_lf_o {j : Nat} (hj : j < 12) (k : Nat) : sp_lf σ x f k τ j = τ j := by
  induction k with
  | zero => rfl
  | succ k ih =>
    have e : sp_lf σ x f (k + 1) τ = sp_if (¬ sp_lit σ f &&& sp_bit k = 0) (upd (sp_lf σ x f k τ) (12 + (15 * f + k)) (sp_lf σ x f k τ (12 + (15 * f + k)) + x)) (sp_lf σ x f k τ) := rfl
    rw [e]
    by_cases c : ¬ sp_lit σ f &&& sp_bit k = 0
    · rw [sp_if_t c, upd_n (by omega), ih]
    · rw [sp_if_f c, ih]
theorem sp_lg_o {j : Nat} (hj : j < 12) (k : Nat) : sp_lg σ x k j = σ j := by
  induction k with
  | zero => rfl
  | succ k ih => show sp_lf σ x k 15 (sp_lg σ x k) j = _; rw [sp_lf_o hj, ih]
/-- the class's board changed, its tables as they were laid for σ -/
theorem sp_D_h {I' : mm_Is} (hb : sp_bd I' 1 τ) (hD : sp_D I σ) (h8 : ∀ j, j < 12 → τ j = σ j) (hfr : ∀ p, 45 ≤ p → p < 61 → I' p = I p) : sp_D I' τ := by
  refine ⟨hb, fun e he d hd => ?_⟩
  have := hD.2 e he d hd
  rw [h8 _ (by omega), h8 _ (by omega)]
  unfold sp_te at this ⊢
  rw [hfr _ (by omega) (by omega), hfr _ (by omega) (by omega), hfr _ (by omega) (by omega)]
  exact this
theorem sp_lit_c8 (h8 : ∀ j, j < 12 → τ j = σ j) (hf : f < 4) : sp_lit τ f = sp_lit σ f := by
  unfold sp_lit sp_vis sp_R
  rw [h8 (4 + f) (by omega), h8 (8 + f) (by omega), h8 1 (by omega)]
theorem c_light (hD : sp_D I σ) : ∃ I', mm_M 56 5 [.ref 0, .int x] g I none I' ∧ (sp_D I' (sp_lg σ x 4) ∧ ∀ p, ¬ p = 4 → I' p = I p) := by
  refine w_MX ?_
  show mm_W 56 0 [.ref 0, .int x, .null, .null, .null] [] _ _ _
  generalize hF : mm_EQ _ _ _ = F
  refine w_st rfl rfl rfl trivial ?_
  refine w_st rfl rfl rfl (Nat.le_of_ble_eq_true rfl) ?_
  have K : ∀ f, f ≤ 4 → ∀ I1 v3 v4, mm_pre [v3, v4] 1 = false → sp_bd I1 1 (sp_lg σ x f) → (∀ p, ¬ p = 4 → I1 p = I p) → mm_W 56 2 [.ref 0, .int x, .int (nI f), v3, v4] [] g I1 F := by
    refine mm_dn 4 ?_ ?_
    · intro I1 v3 v4 _ hb hfr
      refine w_st rfl rfl rfl trivial ?_
      refine w_st rfl rfl rfl trivial ?_
      refine w_n_ge (a := 4) (b := 4) rfl (by first | decide | omega) (by first | decide | omega) (by first | rfl | assumption | (simp only [← nI_add, ← nI_mul]; rfl)) (by first | rfl | assumption | (simp only [← nI_add, ← nI_mul]; rfl)) (fun _ => ?_) (fun c => by exfalso; omega)
      refine w_retv rfl ?_
      exact hF ▸ ⟨rfl, rfl, ⟨sp_D_h hb hD (fun j hj => sp_lg_o hj 4) (fun p a b => hfr p (by omega)), hfr⟩⟩
    · intro f hf ih I1 v3 v4 _ hb hfr
      have hD1 := sp_D_h hb hD (fun j hj => sp_lg_o hj f) (fun p a b => hfr p (by omega))
      have hl1 := sp_lit_c8 (σ := σ) (τ := sp_lg σ x f) (fun j hj => sp_lg_o hj f) hf
      refine w_st rfl rfl rfl trivial ?_
      refine w_st rfl rfl rfl trivial ?_
      refine w_n_ge (a := f) (b := 4) rfl (by first | decide | omega) (by first | decide | omega) (by first | rfl | assumption | (simp only [← nI_add, ← nI_mul]; rfl)) (by first | rfl | assumption | (simp only [← nI_add, ← nI_mul]; rfl)) (fun c => by exfalso; omega) (fun _ => ?_)
      refine w_st rfl rfl rfl trivial ?_
      refine w_st rfl rfl rfl trivial ?_
      refine w_k21 (c_litOf hD1 hf) rfl ⟨rfl, by decide, by decide, by decide, Or.inl ⟨_, rfl⟩⟩ (Nat.le_of_ble_eq_true rfl) (mm_foc rfl) (Nat.le_of_ble_eq_true rfl) ?_  -- calls 61 cX4_litOf
      rw [hl1]
      refine w_st rfl rfl rfl (Nat.le_of_ble_eq_true rfl) ?_
      refine w_st rfl rfl rfl trivial ?_
      refine w_st rfl rfl rfl (Nat.le_of_ble_eq_true rfl) ?_
      have L : ∀ l, l ≤ 15 → ∀ I2, sp_bd I2 1 (sp_lf σ x f l (sp_lg σ x f)) → (∀ p, ¬ p = 4 → I2 p = I p) → mm_W 56 16 [.ref 0, .int x, .int (nI f), .int (sp_lit σ f), .int (nI l)] [] g I2 F := by
        refine mm_dn 15 ?_ ?_
        · intro I2 hb2 hf2
          refine w_st rfl rfl rfl trivial ?_
          refine w_st rfl rfl rfl trivial ?_
          refine w_n_ge (a := 15) (b := 15) rfl (by first | decide | omega) (by first | decide | omega) (by first | rfl | assumption | (simp only [← nI_add, ← nI_mul]; rfl)) (by first | rfl | assumption | (simp only [← nI_add, ← nI_mul]; rfl)) (fun _ => ?_) (fun c => by exfalso; omega)
          refine w_inc rfl rfl rfl (Nat.le_of_ble_eq_true rfl) (nI_1 _) ?_
          refine w_st rfl rfl rfl trivial ?_
          exact ih I2 _ _ rfl hb2 hf2
        · intro l hl ih2 I2 hb2 hf2
          have e : sp_lf σ x f (l + 1) (sp_lg σ x f) = sp_if (¬ sp_lit σ f &&& sp_bit l = 0) (upd (sp_lf σ x f l (sp_lg σ x f)) (12 + (15 * f + l)) (sp_lf σ x f l (sp_lg σ x f) (12 + (15 * f + l)) + x)) (sp_lf σ x f l (sp_lg σ x f)) := rfl
          refine w_st rfl rfl rfl trivial ?_
          refine w_st rfl rfl rfl trivial ?_
          refine w_n_ge (a := l) (b := 15) rfl (by first | decide | omega) (by first | decide | omega) (by first | rfl | assumption | (simp only [← nI_add, ← nI_mul]; rfl)) (by first | rfl | assumption | (simp only [← nI_add, ← nI_mul]; rfl)) (fun c => by exfalso; omega) (fun _ => ?_)
          refine w_st rfl rfl rfl trivial ?_
          refine w_st rfl rfl rfl trivial ?_
          refine w_k21 (c_has) rfl ⟨rfl, by decide, by decide, by decide, Or.inr (Or.inl ⟨_, rfl⟩)⟩ (Nat.le_of_ble_eq_true rfl) trivial (Nat.le_of_ble_eq_true rfl) ?_  -- calls 50 cX4_has
          refine w_b_eq rfl (fun c => ?_) (fun c => ?_)
          · rw [sp_if_f c] at e
            rw [e] at ih2
            refine w_inc rfl rfl rfl (Nat.le_of_ble_eq_true rfl) (nI_1 _) ?_
            refine w_st rfl rfl rfl trivial ?_
            exact ih2 I2 hb2 hf2
          · rw [sp_if_t c] at e
            rw [e] at ih2
            obtain ⟨I3, hM3, hb3, f3⟩ := c_addHours (g := g) (x := x) hb2 hf hl
            refine w_st rfl rfl rfl trivial ?_
            refine w_gr (j := 1) rfl (mm_foc rfl) rfl (by decide) ?_
            refine w_st rfl rfl rfl trivial ?_
            refine w_st rfl rfl rfl trivial ?_
            refine w_st rfl rfl rfl trivial ?_
            refine w_k40 (hM3) rfl ⟨rfl, by decide, by decide, by decide, Or.inl ⟨_, rfl⟩⟩ (Nat.le_of_ble_eq_true rfl) (mm_foc rfl) (Nat.le_of_ble_eq_true rfl) ?_  -- calls 4 cX0_addHours
            refine w_inc rfl rfl rfl (Nat.le_of_ble_eq_true rfl) (nI_1 _) ?_
            refine w_st rfl rfl rfl trivial ?_
            exact ih2 I3 hb3 (fun p hp => by rw [f3 p hp]; exact hf2 p hp)
      exact L 0 (by decide) I1 hb hfr
  exact K 0 (by decide) I .null .null rfl hD.1 (fun _ _ => rfl)
end SM
end
section
/-! hours go by, on the class's side: worn lamps burn -/
noncomputable def sp_bf (f : Nat) : Nat → sp_St × Nat → sp_St × Nat
  | 0, a => a
  | l + 1, a => sp_if ((sp_bf f l a).1 (8 + f) &&& sp_bit l = 0 ∧ sp_wn (sp_bf f l a).1 f l) (sp_set (sp_bf f l a).1 f l true, (sp_bf f l a).2 + 1) (sp_bf f l a)
noncomputable def sp_bw (σ : sp_St) : Nat → sp_St × Nat
  | 0 => (σ, 0)
  | f + 1 => sp_bf f 15 (sp_bw σ f)
section SM
variable {g : mm_Gg} {I I1 : mm_Is} {x y z : Int32} {l d k t u f w n b o m N c s i : Nat} {σ τ : sp_St} {ps : Nat → sp_St} {tx : Nat → Int32} {a : sp_St × Nat}
theorem sp_bf_e (f l : Nat) (a : sp_St × Nat) : sp_bf f (l + 1) a = sp_if ((sp_bf f l a).1 (8 + f) &&& sp_bit l = 0 ∧ sp_wn (sp_bf f l a).1 f l) (sp_set (sp_bf f l a).1 f l true, (sp_bf f l a).2 + 1) (sp_bf f l a) := rfl
theorem sp_bf_o {j : Nat} (hj : ¬ j = 8 + f) (h12 : j < 12) (k : Nat) : (sp_bf f k a).1 j = a.1 j := by
  induction k with
  | zero => rfl
  | succ k ih =>
    rw [sp_bf_e]
    by_cases c : (sp_bf f k a).1 (8 + f) &&& sp_bit k = 0 ∧ sp_wn (sp_bf f k a).1 f k
    · rw [sp_if_t c]; show sp_set (sp_bf f k a).1 f k true j = _; rw [sp_set_o hj h12, ih]
    · rw [sp_if_f c, ih]
theorem c_hoursOfB (h : sp_bd I 1 σ) (hf : f < 4) (hl : l < 15) : mm_M 3 3 [.ref 1, .int (nI f), .int (nI l)] g I (some (.int (σ (12 + (15 * f + l))))) I := by
  refine w_M ?_
  show mm_W 3 0 [.ref 1, .int (nI f), .int (nI l)] [] _ _ _
  generalize hF : mm_EX _ _ _ = F
  refine w_st rfl rfl rfl trivial ?_
  refine w_gr (j := 4) rfl (mm_foc rfl) rfl (by decide) ?_
  refine w_st rfl rfl rfl trivial ?_
  refine w_st rfl rfl rfl trivial ?_
  refine w_imul rfl ?_
  refine w_st rfl rfl rfl trivial ?_
  refine w_iadd rfl ?_
  refine w_ia (15 * f + l) rfl (mm_fac (n := 60) rfl) (by first | rfl | assumption | (simp only [← nI_add, ← nI_mul]; rfl)) (by first | decide | omega) ?_
  rw [show I 4 (15 * f + l) = σ (12 + (15 * f + l)) from h.2.2.1 _ (by omega)]
  refine w_reti rfl ?_
  exact hF ▸ mm_EX_i (rfl)
theorem c_isWornB (h : sp_bd I 1 σ) (hf : f < 4) (hl : l < 15) : mm_M 58 4 [.ref 0, .int (nI f), .int (nI l)] g I (some (.int (mm_bi (sp_wn σ f l)))) I := by
  refine w_M ?_
  show mm_W 58 0 [.ref 0, .int (nI f), .int (nI l), .null] [] _ _ _
  generalize hF : mm_EX _ _ _ = F
  refine w_st rfl rfl rfl trivial ?_
  refine w_st rfl rfl rfl trivial ?_
  refine w_gr (j := 1) rfl (mm_foc rfl) rfl (by decide) ?_
  refine w_gr (j := 5) rfl (mm_foc rfl) rfl (by decide) ?_
  refine w_st rfl rfl rfl trivial ?_
  refine w_ia (1) rfl (mm_fac (n := 2) rfl) (by first | rfl | assumption | (simp only [← nI_add, ← nI_mul]; rfl)) (by first | decide | omega) ?_
  rw [show I 5 1 = σ 2 from h.2.2.2.1 1 (by decide)]
  refine w_imul rfl ?_
  refine w_st rfl rfl rfl (Nat.le_of_ble_eq_true rfl) ?_
  refine w_st rfl rfl rfl trivial ?_
  refine w_z_le rfl (fun c1 => ?_) (fun c1 => ?_)
  · skip
    refine w_st rfl rfl rfl trivial ?_
    refine w_retz rfl (by first | exact Or.inl rfl | exact Or.inr rfl | exact mm_bi_01 _ | assumption) ?_
    exact hF ▸ mm_EX_i ((mm_bi_f (fun z => absurd z.1 (Int32.not_lt.2 c1))).symm)
  · skip
    refine w_st rfl rfl rfl trivial ?_
    refine w_gr (j := 1) rfl (mm_foc rfl) rfl (by decide) ?_
    refine w_st rfl rfl rfl trivial ?_
    refine w_st rfl rfl rfl trivial ?_
    refine w_k31 (c_hoursOfB h hf hl) rfl ⟨rfl, by decide, by decide, by decide, Or.inl ⟨_, rfl⟩⟩ (Nat.le_of_ble_eq_true rfl) (mm_foc rfl) (Nat.le_of_ble_eq_true rfl) ?_  -- calls 3 cX0_hoursOf
    refine w_st rfl rfl rfl trivial ?_
    refine w_v_lt rfl (fun c2 => ?_) (fun c2 => ?_)
    · skip
      refine w_st rfl rfl rfl trivial ?_
      refine w_retz rfl (by first | exact Or.inl rfl | exact Or.inr rfl | exact mm_bi_01 _ | assumption) ?_
      exact hF ▸ mm_EX_i ((mm_bi_f (fun z => absurd z.2 (Int32.not_le.2 c2))).symm)
    · skip
      refine w_st rfl rfl rfl trivial ?_
      refine w_st rfl rfl rfl trivial ?_
      refine w_retz rfl (by first | exact Or.inl rfl | exact Or.inr rfl | exact mm_bi_01 _ | assumption) ?_
      exact hF ▸ mm_EX_i ((mm_bi_t ⟨Int32.not_le.1 c1, Int32.not_lt.1 c2⟩).symm)
theorem c_burnWorn (hb : sp_bd I 1 σ) : ∃ I', mm_M 57 4 [.ref 0] g I (some (.int (nI (sp_bw σ 4).2))) I' ∧ (sp_D I' (sp_bw σ 4).1 ∧ ∀ p, ¬ p = 3 → ¬ p = 4 → ¬ (45 ≤ p ∧ p < 61) → I' p = I p) := by
  refine w_MX ?_
  show mm_W 57 0 [.ref 0, .null, .null, .null] [] _ _ _
  generalize hF : mm_EQ _ _ _ = F
  refine w_st rfl rfl rfl trivial ?_
  refine w_st rfl rfl rfl (Nat.le_of_ble_eq_true rfl) ?_
  refine w_st rfl rfl rfl trivial ?_
  refine w_st rfl rfl rfl (Nat.le_of_ble_eq_true rfl) ?_
  have K : ∀ f, f ≤ 4 → ∀ I1 v3, sp_bd I1 1 (sp_bw σ f).1 → (∀ e, e < f → sp_tt I1 (45 + 4 * e) ((sp_bw σ f).1 (8 + e)) ((sp_bw σ f).1 1)) → (∀ p, ¬ p = 3 → ¬ p = 4 → ¬ (45 ≤ p ∧ p < 61) → I1 p = I p) → mm_W 57 4 [.ref 0, .int (nI (sp_bw σ f).2), .int (nI f), v3] [] g I1 F := by
    refine mm_dn 4 ?_ ?_
    · intro I1 v3 hb1 ht1 hf1
      refine w_st rfl rfl rfl trivial ?_
      refine w_st rfl rfl rfl trivial ?_
      refine w_n_ge (a := 4) (b := 4) rfl (by first | decide | omega) (by first | decide | omega) (by first | rfl | assumption | (simp only [← nI_add, ← nI_mul]; rfl)) (by first | rfl | assumption | (simp only [← nI_add, ← nI_mul]; rfl)) (fun _ => ?_) (fun c => by exfalso; omega)
      refine w_st rfl rfl rfl trivial ?_
      refine w_reti rfl ?_
      exact hF ▸ ⟨rfl, rfl, ⟨⟨hb1, ht1⟩, hf1⟩⟩
    · intro f hf ih I1 v3 hb1 ht1 hf1
      have eb : sp_bw σ (f + 1) = sp_bf f 15 (sp_bw σ f) := rfl
      generalize sp_bw σ f = a at *
      refine w_st rfl rfl rfl trivial ?_
      refine w_st rfl rfl rfl trivial ?_
      refine w_n_ge (a := f) (b := 4) rfl (by first | decide | omega) (by first | decide | omega) (by first | rfl | assumption | (simp only [← nI_add, ← nI_mul]; rfl)) (by first | rfl | assumption | (simp only [← nI_add, ← nI_mul]; rfl)) (fun c => by exfalso; omega) (fun _ => ?_)
      refine w_st rfl rfl rfl trivial ?_
      refine w_st rfl rfl rfl (Nat.le_of_ble_eq_true rfl) ?_
      have L : ∀ l, l ≤ 15 → ∀ I2, sp_bd I2 1 (sp_bf f l a).1 → (∀ p, ¬ p = 3 → ¬ p = 4 → I2 p = I1 p) → mm_W 57 11 [.ref 0, .int (nI (sp_bf f l a).2), .int (nI f), .int (nI l)] [] g I2 F := by
        refine mm_dn 15 ?_ ?_
        · intro I2 hb2 hf2
          obtain ⟨I4, hM4, ht4, hf4⟩ := c_chooseTable (g := g) hb2 hf
          rw [eb] at ih
          refine w_st rfl rfl rfl trivial ?_
          refine w_st rfl rfl rfl trivial ?_
          refine w_n_ge (a := 15) (b := 15) rfl (by first | decide | omega) (by first | decide | omega) (by first | rfl | assumption | (simp only [← nI_add, ← nI_mul]; rfl)) (by first | rfl | assumption | (simp only [← nI_add, ← nI_mul]; rfl)) (fun _ => ?_) (fun c => by exfalso; omega)
          refine w_st rfl rfl rfl trivial ?_
          refine w_st rfl rfl rfl trivial ?_
          refine w_k20 (hM4) rfl ⟨rfl, by decide, by decide, by decide, Or.inl ⟨_, rfl⟩⟩ (Nat.le_of_ble_eq_true rfl) (mm_foc rfl) (Nat.le_of_ble_eq_true rfl) ?_  -- calls 53 cX4_chooseTable
          refine w_inc rfl rfl rfl (Nat.le_of_ble_eq_true rfl) (nI_1 _) ?_
          refine w_st rfl rfl rfl trivial ?_
          refine ih I4 _ (sp_bd_c (fun p hp => hf4 p (by unfold sp_in5 at hp; omega) (by unfold sp_in5 at hp; omega) (by unfold sp_in5 at hp; omega)) hb2) (fun e he => ?_) (fun p b c d => ?_)
          · by_cases ce : e = f
            · subst ce; exact ht4
            · intro d hd
              have := ht1 e (by omega) d hd
              rw [sp_bf_o (by omega) (by omega), sp_bf_o (by omega) (by omega)]
              unfold sp_te at this ⊢
              rw [hf4 _ (by omega) (by omega) (by omega), hf4 _ (by omega) (by omega) (by omega), hf4 _ (by omega) (by omega) (by omega), hf2 _ (by omega) (by omega), hf2 _ (by omega) (by omega), hf2 _ (by omega) (by omega)]
              exact this
          · rw [hf4 p (by omega) (by omega) (by omega), hf2 p b c]; exact hf1 p b c d
        · intro l hl ih2 I2 hb2 hf2
          have e := sp_bf_e f l a
          refine w_st rfl rfl rfl trivial ?_
          refine w_st rfl rfl rfl trivial ?_
          refine w_n_ge (a := l) (b := 15) rfl (by first | decide | omega) (by first | decide | omega) (by first | rfl | assumption | (simp only [← nI_add, ← nI_mul]; rfl)) (by first | rfl | assumption | (simp only [← nI_add, ← nI_mul]; rfl)) (fun c => by exfalso; omega) (fun _ => ?_)
          refine w_st rfl rfl rfl trivial ?_
          refine w_gr (j := 1) rfl (mm_foc rfl) rfl (by decide) ?_
          refine w_gr (j := 3) rfl (mm_foc rfl) rfl (by decide) ?_
          refine w_st rfl rfl rfl trivial ?_
          refine w_ia (f) rfl (mm_fac (n := 4) rfl) (by first | rfl | assumption | (simp only [← nI_add, ← nI_mul]; rfl)) (by first | decide | omega) ?_
          rw [show I2 3 f = (sp_bf f l a).1 (8 + f) from hb2.2.1 f hf]
          refine w_st rfl rfl rfl trivial ?_
          refine w_k21 (c_has) rfl ⟨rfl, by decide, by decide, by decide, Or.inr (Or.inl ⟨_, rfl⟩)⟩ (Nat.le_of_ble_eq_true rfl) trivial (Nat.le_of_ble_eq_true rfl) ?_  -- calls 50 cX4_has
          refine w_b_ne rfl (fun c => ?_) (fun c => ?_)
          · rw [sp_if_f (fun z => c z.1)] at e
            rw [e] at ih2
            refine w_inc rfl rfl rfl (Nat.le_of_ble_eq_true rfl) (nI_1 _) ?_
            refine w_st rfl rfl rfl trivial ?_
            exact ih2 I2 hb2 hf2
          · have c' := Classical.not_not.1 c
            refine w_st rfl rfl rfl trivial ?_
            refine w_st rfl rfl rfl trivial ?_
            refine w_st rfl rfl rfl trivial ?_
            refine w_k31 (c_isWornB hb2 hf hl) rfl ⟨rfl, by decide, by decide, by decide, Or.inl ⟨_, rfl⟩⟩ (Nat.le_of_ble_eq_true rfl) (mm_foc rfl) (Nat.le_of_ble_eq_true rfl) ?_  -- calls 58 cX4_isWorn
            refine w_b_eq rfl (fun c2 => ?_) (fun c2 => ?_)
            · rw [sp_if_f (fun z => c2 z.2)] at e
              rw [e] at ih2
              refine w_inc rfl rfl rfl (Nat.le_of_ble_eq_true rfl) (nI_1 _) ?_
              refine w_st rfl rfl rfl trivial ?_
              exact ih2 I2 hb2 hf2
            · rw [sp_if_t ⟨c', c2⟩] at e
              rw [e] at ih2
              obtain ⟨I3, hM3, hb3, f3⟩ := c_setLamp_t (g := g) hb2 hf hl
              refine w_st rfl rfl rfl trivial ?_
              refine w_gr (j := 1) rfl (mm_foc rfl) rfl (by decide) ?_
              refine w_st rfl rfl rfl trivial ?_
              refine w_st rfl rfl rfl trivial ?_
              refine w_st rfl rfl rfl trivial ?_
              refine w_k40 (hM3) rfl ⟨rfl, by decide, by decide, by decide, Or.inl ⟨_, rfl⟩⟩ (Nat.le_of_ble_eq_true rfl) (mm_foc rfl) (Nat.le_of_ble_eq_true rfl) ?_  -- calls 2 cX0_setLamp
              refine w_inc rfl rfl rfl (Nat.le_of_ble_eq_true rfl) (nI_1 _) ?_
              refine w_inc rfl rfl rfl (Nat.le_of_ble_eq_true rfl) (nI_1 _) ?_
              refine w_st rfl rfl rfl trivial ?_
              exact ih2 I3 hb3 (fun p b d => by rw [f3 p b d]; exact hf2 p b d)
      exact L 0 (by decide) I1 hb1 (fun _ _ _ => rfl)
  exact K 0 (by decide) I .null hb (fun e he => absurd he (Nat.not_lt_zero _)) (fun _ _ _ _ => rfl)
end SM
end
section
/-! pass, on the class's side: from burning to burning -/
noncomputable def sp_cst (τ : sp_St) (r : Int32) : Int32 := sp_if (sp_nb τ 4 = -1 ∨ r < sp_nb τ 4) r (sp_nb τ 4)
/-- at most j turns more -/
noncomputable def sp_cp : Nat → sp_St → Nat → Int32 → sp_St × Nat
  | 0, τ, B, _ => (τ, B)
  | j + 1, τ, B, r => sp_if (0 < r) (sp_cp j (sp_bw (sp_lg τ (sp_cst τ r) 4) 4).1 (B + (sp_bw (sp_lg τ (sp_cst τ r) 4) 4).2) (r - sp_cst τ r)) (τ, B)
section SM
variable {g : mm_Gg} {I I1 : mm_Is} {x y z : Int32} {n m H : Nat} {σ τ : sp_St} {ps : Nat → sp_St} {tx : Nat → Int32}
theorem sp_bd_41 (h : sp_bd I 1 σ) : sp_bd (va_up I 1 (upd (I 1) 4 x)) 1 (upd σ 0 x) := by
  obtain ⟨h1, h2, h3, h4, h5, h6⟩ := sp_bd1' h
  refine sp_bd1 ⟨fun j hj => ?_, fun j hj => ?_, fun j hj => ?_, fun j hj => ?_, ?_, ?_⟩
  · rw [mm_un (Or.inl (by decide)), upd_n (by omega)]; exact h1 j hj
  · rw [mm_un (Or.inl (by decide)), upd_n (by omega)]; exact h2 j hj
  · rw [mm_un (Or.inl (by decide)), upd_n (by omega)]; exact h3 j hj
  · rw [mm_un (Or.inl (by decide)), upd_n (by omega)]; exact h4 j hj
  · rw [mm_uu, upd_s]
  · rw [mm_un (Or.inr (by decide)), upd_n (by omega)]; exact h6
theorem sp_bd_51 (h : sp_bd I 1 σ) : sp_bd (va_up I 1 (upd (I 1) 5 x)) 1 (upd σ 3 x) := by
  obtain ⟨h1, h2, h3, h4, h5, h6⟩ := sp_bd1' h
  refine sp_bd1 ⟨fun j hj => ?_, fun j hj => ?_, fun j hj => ?_, fun j hj => ?_, ?_, ?_⟩
  · rw [mm_un (Or.inl (by decide)), upd_n (by omega)]; exact h1 j hj
  · rw [mm_un (Or.inl (by decide)), upd_n (by omega)]; exact h2 j hj
  · rw [mm_un (Or.inl (by decide)), upd_n (by omega)]; exact h3 j hj
  · rw [mm_un (Or.inl (by decide)), upd_n (by omega)]; exact h4 j hj
  · rw [mm_un (Or.inr (by decide)), upd_n (by omega)]; exact h5
  · rw [mm_uu, upd_s]
theorem c_pass_1 (h1 : ¬ (1 ≤ x ∧ x ≤ 500)) : mm_TH 31 7 [.ref 0, .int x] g I 2 := by
  refine w_MT ?_
  show mm_W 31 0 [.ref 0, .int x, .null, .null, .null, .null, .null] [] _ _ _
  generalize hF : mm_TX _ _ _ = F
  refine w_st rfl rfl rfl trivial ?_
  refine w_st rfl rfl rfl trivial ?_
  refine w_v_lt rfl (fun c1 => ?_) (fun c1 => ?_)
  · skip
    refine w_thr rfl (Nat.le_of_ble_eq_true rfl) ?_
    exact hF ▸ ⟨rfl, rfl, rfl⟩
  · skip
    refine w_st rfl rfl rfl trivial ?_
    refine w_st rfl rfl rfl trivial ?_
    refine w_v_le rfl (fun z => by first | exact absurd z (fun c2 => h1 ⟨Int32.not_lt.1 c1, c2⟩) | exact absurd (fun c2 => h1 ⟨Int32.not_lt.1 c1, c2⟩) z) (fun _ => ?_)
    refine w_thr rfl (Nat.le_of_ble_eq_true rfl) ?_
    exact hF ▸ ⟨rfl, rfl, rfl⟩
theorem c_pass_2 (h : sp_D I σ) (h1 : 1 ≤ x ∧ x ≤ 500) (h2 : ¬ σ 0 + x ≤ 99999) : mm_TH 31 7 [.ref 0, .int x] g I 3 := by
  refine w_MT ?_
  show mm_W 31 0 [.ref 0, .int x, .null, .null, .null, .null, .null] [] _ _ _
  generalize hF : mm_TX _ _ _ = F
  refine w_st rfl rfl rfl trivial ?_
  refine w_st rfl rfl rfl trivial ?_
  refine w_v_lt rfl (fun z => by first | exact absurd z (Int32.not_lt.2 h1.1) | exact absurd (Int32.not_lt.2 h1.1) z) (fun _ => ?_)
  refine w_st rfl rfl rfl trivial ?_
  refine w_st rfl rfl rfl trivial ?_
  refine w_v_le rfl (fun _ => ?_) (fun z => by first | exact absurd (h1.2) z | exact absurd z (h1.2))
  refine w_st rfl rfl rfl trivial ?_
  refine w_gr (j := 1) rfl (mm_foc rfl) rfl (by decide) ?_
  refine w_gi rfl (mm_foc rfl) ?_
  rw [show I 1 4 = σ 0 from h.1.2.2.2.2.1]
  refine w_st rfl rfl rfl trivial ?_
  refine w_iadd rfl ?_
  refine w_st rfl rfl rfl trivial ?_
  refine w_v_le rfl (fun z => by first | exact absurd z (h2) | exact absurd (h2) z) (fun _ => ?_)
  refine w_thr rfl (Nat.le_of_ble_eq_true rfl) ?_
  exact hF ▸ ⟨rfl, rfl, rfl⟩
end SM
end
section
/-! hours go by: the pure side -/
def sp_e3 (τ ρ : sp_St) : Prop := ∀ j, ¬ j = 0 → ¬ j = 3 → τ j = ρ j
noncomputable def sp_hA (τ : sp_St) (x : Int32) : sp_St := fun j => sp_if (12 ≤ j ∧ j < 72 ∧ ¬ sp_lit τ ((j - 12) / 15) &&& sp_bit ((j - 12) % 15) = 0) (τ j + x) (τ j)
noncomputable def sp_hq (σ : sp_St) : sp_St × Nat := sp_bw (sp_hA σ 1) 4
noncomputable def sp_ho (σ : sp_St) : sp_St := upd (upd (sp_hq σ).1 0 (σ 0 + 1)) 3 (σ 3 + nI (sp_hq σ).2)
/-- k hours, one by one -/
noncomputable def sp_hi (σ : sp_St) : Nat → sp_St × Nat
  | 0 => (σ, 0)
  | k + 1 => (sp_ho (sp_hi σ k).1, (sp_hi σ k).2 + (sp_hq (sp_hi σ k).1).2)
def sp_ge (s : Nat) (x : Int32) : Prop := x = -1 ∨ ∃ h, s ≤ h ∧ h < 2 ^ 31 ∧ x = nI h
theorem sp_if_c {α : Type} {p q : Prop} {x y : α} (h : p ↔ q) : sp_if p x y = sp_if q x y := by rw [propext h]
section SM
variable {x y z : Int32} {l d k f s n j : Nat} {σ τ ρ : sp_St} {a b : sp_St × Nat}
theorem sp_lf_at : ∀ k, k ≤ 15 → ∀ j, sp_lf σ x f k τ j = sp_if (12 + 15 * f ≤ j ∧ j < 12 + 15 * f + k ∧ ¬ sp_lit σ f &&& sp_bit (j - (12 + 15 * f)) = 0) (τ j + x) (τ j) := by
  intro k
  induction k with
  | zero => intro _ j; exact (sp_if_f (fun z => by omega) _ _).symm
  | succ k ih =>
    intro hk j
    have e : sp_lf σ x f (k + 1) τ = sp_if (¬ sp_lit σ f &&& sp_bit k = 0) (upd (sp_lf σ x f k τ) (12 + (15 * f + k)) (sp_lf σ x f k τ (12 + (15 * f + k)) + x)) (sp_lf σ x f k τ) := rfl
    rw [e]
    by_cases c : ¬ sp_lit σ f &&& sp_bit k = 0
    · rw [sp_if_t c]
      by_cases ej : j = 12 + (15 * f + k)
      · subst ej
        rw [upd_s, ih (by omega), sp_if_f (fun z => by omega), sp_if_t ⟨by omega, by omega, by rw [show 12 + (15 * f + k) - (12 + 15 * f) = k from by omega]; exact c⟩]
      · rw [upd_n ej, ih (by omega)]
        exact sp_if_c ⟨fun z => ⟨z.1, by omega, z.2.2⟩, fun z => ⟨z.1, by omega, z.2.2⟩⟩
    · rw [sp_if_f c, ih (by omega)]
      refine sp_if_c ⟨fun z => ⟨z.1, by omega, z.2.2⟩, fun z => ⟨z.1, ?_, z.2.2⟩⟩
      have : ¬ j = 12 + 15 * f + k := fun ej => by
        have z2 := z.2.2
        rw [ej, show 12 + 15 * f + k - (12 + 15 * f) = k from by omega] at z2
        exact c z2
      omega
theorem sp_lg_at : ∀ k, k ≤ 4 → ∀ j, sp_lg σ x k j = sp_if (12 ≤ j ∧ j < 12 + 15 * k ∧ ¬ sp_lit σ ((j - 12) / 15) &&& sp_bit ((j - 12) % 15) = 0) (σ j + x) (σ j) := by
  intro k
  induction k with
  | zero => intro _ j; exact (sp_if_f (fun z => by omega) _ _).symm
  | succ k ih =>
    intro hk j
    show sp_lf σ x k 15 (sp_lg σ x k) j = _
    rw [sp_lf_at 15 (Nat.le_refl _)]
    by_cases c : 12 + 15 * k ≤ j ∧ j < 12 + 15 * k + 15
    · rw [show sp_lg σ x k j = σ j from by rw [ih (by omega)]; exact sp_if_f (fun z => by omega) _ _]
      have e1 : (j - 12) / 15 = k := by omega
      have e2 : (j - 12) % 15 = j - (12 + 15 * k) := by omega
      rw [e1, e2]
      exact sp_if_c ⟨fun z => ⟨by omega, by omega, z.2.2⟩, fun z => ⟨by omega, by omega, z.2.2⟩⟩
    · rw [sp_if_f (fun z => c ⟨z.1, z.2.1⟩), ih (by omega)]
      exact sp_if_c ⟨fun z => ⟨z.1, by omega, z.2.2⟩, fun z => ⟨z.1, by omega, z.2.2⟩⟩
theorem sp_lg_A : sp_lg σ x 4 = sp_hA σ x := funext fun j => sp_lg_at 4 (Nat.le_refl _) j
theorem sp_hA_o (h : j < 12) : sp_hA τ x j = τ j := sp_if_f (fun z => by omega) _ _
theorem sp_hA_h (hf : f < 4) (hl : l < 15) : sp_hA τ x (12 + (15 * f + l)) = sp_if (¬ sp_lit τ f &&& sp_bit l = 0) (τ (12 + (15 * f + l)) + x) (τ (12 + (15 * f + l))) := by
  have e1 : (12 + (15 * f + l) - 12) / 15 = f := by omega
  have e2 : (12 + (15 * f + l) - 12) % 15 = l := by omega
  show sp_if (12 ≤ 12 + (15 * f + l) ∧ 12 + (15 * f + l) < 72 ∧ ¬ sp_lit τ ((12 + (15 * f + l) - 12) / 15) &&& sp_bit ((12 + (15 * f + l) - 12) % 15) = 0) _ _ = _
  rw [e1, e2]
  exact sp_if_c ⟨fun z => z.2.2, fun z => ⟨by omega, by omega, z⟩⟩
theorem sp_hA_lit (hf : f < 4) : sp_lit (sp_hA τ x) f = sp_lit τ f := sp_lit_c8 (fun _ hi => sp_hA_o hi) hf
theorem sp_hA_t (x y : Int32) : sp_hA (sp_hA τ x) y = sp_hA τ (x + y) := by
  funext j
  by_cases c : 12 ≤ j ∧ j < 72
  · show sp_if (12 ≤ j ∧ j < 72 ∧ ¬ sp_lit (sp_hA τ x) ((j - 12) / 15) &&& sp_bit ((j - 12) % 15) = 0) (sp_hA τ x j + y) (sp_hA τ x j) = sp_if (12 ≤ j ∧ j < 72 ∧ ¬ sp_lit τ ((j - 12) / 15) &&& sp_bit ((j - 12) % 15) = 0) (τ j + (x + y)) (τ j)
    rw [sp_hA_lit (by omega)]
    by_cases c2 : ¬ sp_lit τ ((j - 12) / 15) &&& sp_bit ((j - 12) % 15) = 0
    · rw [sp_if_t ⟨c.1, c.2, c2⟩, sp_if_t ⟨c.1, c.2, c2⟩, show sp_hA τ x j = τ j + x from sp_if_t ⟨c.1, c.2, c2⟩ _ _, Int32.add_assoc]
    · rw [sp_if_f (fun z => c2 z.2.2), sp_if_f (fun z => c2 z.2.2)]; exact sp_if_f (fun z => c2 z.2.2) _ _
  · have e : ∀ (ρ : sp_St) y, sp_hA ρ y j = ρ j := fun ρ y => sp_if_f (fun z => c ⟨z.1, z.2.1⟩) _ _
    rw [e, e, e]
theorem sp_hA_0 : sp_hA τ 0 = τ := by
  funext j
  show sp_if _ (τ j + 0) (τ j) = τ j
  rw [Int32.add_zero]
  by_cases c : 12 ≤ j ∧ j < 72 ∧ ¬ sp_lit τ ((j - 12) / 15) &&& sp_bit ((j - 12) % 15) = 0
  · exact sp_if_t c _ _
  · exact sp_if_f c _ _
-- places 0 and 3 apart
theorem sp_e3_t (h : sp_e3 σ τ) (h' : sp_e3 τ ρ) : sp_e3 σ ρ := fun j a b => (h j a b).trans (h' j a b)
theorem sp_lit_e3 (h : sp_e3 τ ρ) : sp_lit τ f = sp_lit ρ f := by
  unfold sp_lit sp_vis sp_R
  rw [h (4 + f) (by omega) (by omega), h (8 + f) (by omega) (by omega), h 1 (by decide) (by decide)]
theorem sp_hA_e3 (h : sp_e3 τ ρ) : sp_e3 (sp_hA τ x) (sp_hA ρ x) := by
  intro j a b
  show sp_if (12 ≤ j ∧ j < 72 ∧ ¬ sp_lit τ ((j - 12) / 15) &&& sp_bit ((j - 12) % 15) = 0) (τ j + x) (τ j) = sp_if (12 ≤ j ∧ j < 72 ∧ ¬ sp_lit ρ ((j - 12) / 15) &&& sp_bit ((j - 12) % 15) = 0) (ρ j + x) (ρ j)
  rw [h j a b, sp_lit_e3 h]
theorem sp_wn_e3 (h : sp_e3 τ ρ) : sp_wn τ f l = sp_wn ρ f l := by
  unfold sp_wn
  rw [h 2 (by decide) (by decide), h (12 + (15 * f + l)) (by omega) (by omega)]
theorem sp_bf_e3 (h : sp_e3 a.1 b.1 ∧ a.2 = b.2) (k : Nat) : sp_e3 (sp_bf f k a).1 (sp_bf f k b).1 ∧ (sp_bf f k a).2 = (sp_bf f k b).2 := by
  induction k with
  | zero => exact h
  | succ k ih =>
    rw [sp_bf_e, sp_bf_e]
    have e8 := ih.1 (8 + f) (by omega) (by omega)
    by_cases c : (sp_bf f k b).1 (8 + f) &&& sp_bit k = 0 ∧ sp_wn (sp_bf f k b).1 f k
    · rw [sp_if_t c, sp_if_t (by rw [e8, sp_wn_e3 ih.1]; exact c)]
      refine ⟨fun j p q => ?_, by show _ + 1 = _ + 1; rw [ih.2]⟩
      show upd (sp_bf f k a).1 (8 + f) ((sp_bf f k a).1 (8 + f) ||| sp_bit k) j = upd (sp_bf f k b).1 (8 + f) ((sp_bf f k b).1 (8 + f) ||| sp_bit k) j
      rw [e8]
      by_cases cj : j = 8 + f
      · subst cj; rw [upd_s, upd_s]
      · rw [upd_n cj, upd_n cj]; exact ih.1 j p q
    · rw [sp_if_f c, sp_if_f (by rw [e8, sp_wn_e3 ih.1]; exact c)]
      exact ih
theorem sp_bw_e3 (h : sp_e3 τ ρ) (k : Nat) : sp_e3 (sp_bw τ k).1 (sp_bw ρ k).1 ∧ (sp_bw τ k).2 = (sp_bw ρ k).2 := by
  induction k with
  | zero => exact ⟨h, rfl⟩
  | succ k ih => exact sp_bf_e3 ih 15
theorem sp_bf_o2 (hj : ¬ j = 8 + f) (k : Nat) : (sp_bf f k a).1 j = a.1 j := by
  induction k with
  | zero => rfl
  | succ k ih =>
    rw [sp_bf_e]
    by_cases c : (sp_bf f k a).1 (8 + f) &&& sp_bit k = 0 ∧ sp_wn (sp_bf f k a).1 f k
    · rw [sp_if_t c]
      show upd (sp_bf f k a).1 (8 + f) _ j = _
      rw [upd_n hj, ih]
    · rw [sp_if_f c, ih]
theorem sp_bw_o2 (k : Nat) (hj : ¬ (8 ≤ j ∧ j < 8 + k)) : (sp_bw σ k).1 j = σ j := by
  induction k with
  | zero => rfl
  | succ k ih =>
    show (sp_bf k 15 (sp_bw σ k)).1 j = _
    rw [sp_bf_o2 (by omega), ih (by omega)]
theorem sp_bf_no (k : Nat) (h : ∀ l, l < k → ¬ (a.1 (8 + f) &&& sp_bit l = 0 ∧ sp_wn a.1 f l)) : sp_bf f k a = a := by
  induction k with
  | zero => rfl
  | succ k ih =>
    rw [sp_bf_e, ih (fun l hl => h l (by omega))]
    exact sp_if_f (h k (by omega)) _ _
theorem sp_bw_no (k : Nat) (h : ∀ f, f < k → ∀ l, l < 15 → ¬ (σ (8 + f) &&& sp_bit l = 0 ∧ sp_wn σ f l)) : sp_bw σ k = (σ, 0) := by
  induction k with
  | zero => rfl
  | succ k ih =>
    show sp_bf k 15 (sp_bw σ k) = _
    rw [ih (fun f hf => h f (by omega))]
    exact sp_bf_no 15 (h k (by omega))
theorem sp_bf_b15 (k : Nat) (hk : k ≤ 15) (h : ∀ e, e < 4 → sp_b15 (a.1 (8 + e))) : ∀ e, e < 4 → sp_b15 ((sp_bf f k a).1 (8 + e)) := by
  induction k with
  | zero => exact h
  | succ k ih =>
    intro e he
    have i := ih (by omega) e he
    rw [sp_bf_e]
    by_cases c : (sp_bf f k a).1 (8 + f) &&& sp_bit k = 0 ∧ sp_wn (sp_bf f k a).1 f k
    · rw [sp_if_t c]
      show sp_b15 (upd (sp_bf f k a).1 (8 + f) ((sp_bf f k a).1 (8 + f) ||| sp_bit k) (8 + e))
      by_cases ce : e = f
      · subst ce; rw [upd_s]; exact sp_b15_or i (sp_b15_bit (by omega))
      · rw [upd_n (by omega)]; exact i
    · rw [sp_if_f c]; exact i
theorem sp_bw_b15 (k : Nat) (h : ∀ e, e < 4 → sp_b15 (σ (8 + e))) : ∀ e, e < 4 → sp_b15 ((sp_bw σ k).1 (8 + e)) := by
  induction k with
  | zero => exact h
  | succ k ih => exact sp_bf_b15 15 (Nat.le_refl _) ih
-- one hour
theorem sp_hq_o (hj : j < 8) : (sp_hq σ).1 j = σ j := by
  show (sp_bw (sp_hA σ 1) 4).1 j = _
  rw [sp_bw_o2 4 (by omega), sp_hA_o (by omega)]
theorem sp_ho_o (hj : j < 8) (h0 : ¬ j = 0) (h3 : ¬ j = 3) : sp_ho σ j = σ j := by
  show upd (upd (sp_hq σ).1 0 _) 3 _ j = _
  rw [upd_n h3, upd_n h0, sp_hq_o hj]
theorem sp_ho_e3 : sp_e3 (sp_ho σ) (sp_hq σ).1 := fun j a b => by
  show upd (upd (sp_hq σ).1 0 _) 3 _ j = _
  rw [upd_n b, upd_n a]
theorem sp_ho_0 : sp_ho σ 0 = σ 0 + 1 := by
  show upd (upd (sp_hq σ).1 0 _) 3 _ 0 = _
  rw [upd_n (by decide), upd_s]
theorem sp_ho_3 : sp_ho σ 3 = σ 3 + nI (sp_hq σ).2 := by
  show upd (upd (sp_hq σ).1 0 _) 3 _ 3 = _
  rw [upd_s]
theorem sp_ok_ho (ok : sp_ok σ) (h0 : σ 0 = nI n) (hn : n < 99999) : sp_ok (sp_ho σ) := by
  obtain ⟨o1, o2, o3, o4, N, o5, o6, o7⟩ := ok
  have eN : n = N := (nI_eq (by omega) (by omega)).1 (h0.symm.trans o6)
  subst eN
  refine ⟨fun f hf => ?_, fun f hf => ?_, ?_, ?_, n + 1, by omega, ?_, fun j hj => ?_⟩
  · rw [sp_ho_o (by omega) (by omega) (by omega)]; exact o1 f hf
  · rw [sp_ho_e3 _ (by omega) (by omega)]
    exact sp_bw_b15 4 (fun e he => by rw [sp_hA_o (by omega)]; exact o2 e he) f hf
  · rw [sp_ho_o (by decide) (by decide) (by decide)]; exact o3
  · rw [sp_ho_o (by decide) (by decide) (by decide)]; exact o4
  · rw [sp_ho_0, h0]; exact nI_1 n
  · rw [sp_ho_e3 _ (by omega) (by omega)]
    have e : (sp_hq σ).1 (12 + j) = sp_hA σ 1 (12 + j) := sp_bw_o2 4 (by omega)
    rw [e]
    obtain ⟨h, h1, h2⟩ := o7 j hj
    have e2 : sp_hA σ 1 (12 + j) = sp_if (12 ≤ 12 + j ∧ 12 + j < 72 ∧ ¬ sp_lit σ ((12 + j - 12) / 15) &&& sp_bit ((12 + j - 12) % 15) = 0) (σ (12 + j) + 1) (σ (12 + j)) := rfl
    rw [e2]
    by_cases c : 12 ≤ 12 + j ∧ 12 + j < 72 ∧ ¬ sp_lit σ ((12 + j - 12) / 15) &&& sp_bit ((12 + j - 12) % 15) = 0
    · rw [sp_if_t c, h2]; exact ⟨h + 1, by omega, nI_1 h⟩
    · rw [sp_if_f c]; exact ⟨h, by omega, h2⟩
-- hours
theorem sp_hi_add (a b : Nat) : sp_hi σ (a + b) = ((sp_hi (sp_hi σ a).1 b).1, (sp_hi σ a).2 + (sp_hi (sp_hi σ a).1 b).2) := by
  induction b with
  | zero => rfl
  | succ b ih =>
    show (sp_ho (sp_hi σ (a + b)).1, (sp_hi σ (a + b)).2 + (sp_hq (sp_hi σ (a + b)).1).2) = (sp_ho (sp_hi (sp_hi σ a).1 b).1, (sp_hi σ a).2 + ((sp_hi (sp_hi σ a).1 b).2 + (sp_hq (sp_hi (sp_hi σ a).1 b).1).2))
    rw [ih, Nat.add_assoc]
theorem sp_hi_0 (k : Nat) : (sp_hi σ k).1 0 = σ 0 + nI k := by
  induction k with
  | zero => exact (Int32.add_zero _).symm
  | succ k ih =>
    show sp_ho (sp_hi σ k).1 0 = _
    rw [sp_ho_0, ih, Int32.add_assoc]
    exact congrArg _ (nI_1 k)
theorem sp_hi_3 (k : Nat) : (sp_hi σ k).1 3 = σ 3 + nI (sp_hi σ k).2 := by
  induction k with
  | zero => exact (Int32.add_zero _).symm
  | succ k ih =>
    show sp_ho (sp_hi σ k).1 3 = σ 3 + nI ((sp_hi σ k).2 + _)
    rw [sp_ho_3, ih, Int32.add_assoc, nI_add]
theorem sp_ok_hi (ok : sp_ok σ) (h0 : σ 0 = nI n) (k : Nat) (hn : n + k ≤ 99999) : sp_ok (sp_hi σ k).1 := by
  induction k with
  | zero => exact ok
  | succ k ih =>
    refine sp_ok_ho (n := n + k) (ih (by omega)) ?_ (by omega)
    rw [sp_hi_0, h0, nI_add]
-- the least number of hours
theorem sp_n1_ge (ha : sp_ge 1 x) (hh : sp_ge 1 y) : sp_ge 1 (sp_n1 x y) ∧ ∀ s, sp_ge s (sp_n1 x y) → sp_ge s x ∧ sp_ge s y := by
  have e : sp_n1 x y = sp_if (¬ y = -1 ∧ (x = -1 ∨ y < x)) y x := rfl
  rw [e]
  by_cases c : ¬ y = -1 ∧ (x = -1 ∨ y < x)
  · rw [sp_if_t c]
    refine ⟨hh, fun s hs => ⟨?_, hs⟩⟩
    by_cases cx : x = -1
    · exact Or.inl cx
    · obtain ⟨p, p1, p2, p3⟩ := ha.resolve_left cx
      obtain ⟨q, q1, q2, q3⟩ := hs.resolve_left c.1
      have hlt := c.2.resolve_left cx
      rw [p3, q3] at hlt
      have := (nI_ltI q2 p2).1 hlt
      exact Or.inr ⟨p, by omega, p2, p3⟩
  · rw [sp_if_f c]
    refine ⟨ha, fun s hs => ⟨hs, ?_⟩⟩
    by_cases cy : y = -1
    · exact Or.inl cy
    · have cx : ¬ x = -1 := fun z => c ⟨cy, Or.inl z⟩
      obtain ⟨q, q1, q2, q3⟩ := hh.resolve_left cy
      obtain ⟨p, p1, p2, p3⟩ := hs.resolve_left cx
      have hlt : ¬ y < x := fun z => c ⟨cy, Or.inr z⟩
      rw [p3, q3] at hlt
      have : ¬ q < p := fun z => hlt ((nI_ltI q2 p2).2 z)
      exact Or.inr ⟨q, by omega, q2, q3⟩
theorem sp_n2_ge (ha : sp_ge 1 x) (hh : ∀ l, l < 15 → sp_ge 1 (sp_hu σ f l)) : ∀ k, k ≤ 15 → sp_ge 1 (sp_n2 σ f x k) ∧ ∀ s, sp_ge s (sp_n2 σ f x k) → sp_ge s x ∧ ∀ l, l < k → sp_ge s (sp_hu σ f l) := by
  intro k
  induction k with
  | zero => intro _; exact ⟨ha, fun s hs => ⟨hs, fun l hl => absurd hl (Nat.not_lt_zero _)⟩⟩
  | succ k ih =>
    intro hk
    obtain ⟨i1, i2⟩ := ih (by omega)
    obtain ⟨j1, j2⟩ := sp_n1_ge i1 (hh k (by omega))
    refine ⟨j1, fun s hs => ?_⟩
    obtain ⟨u, v⟩ := j2 s hs
    obtain ⟨w1, w2⟩ := i2 s u
    refine ⟨w1, fun l hl => ?_⟩
    by_cases c : l = k
    · subst c; exact v
    · exact w2 l (by omega)
theorem sp_nb_ge (hh : ∀ f, f < 4 → ∀ l, l < 15 → sp_ge 1 (sp_hu σ f l)) : ∀ k, k ≤ 4 → sp_ge 1 (sp_nb σ k) ∧ ∀ s, sp_ge s (sp_nb σ k) → ∀ f, f < k → ∀ l, l < 15 → sp_ge s (sp_hu σ f l) := by
  intro k
  induction k with
  | zero => intro _; exact ⟨Or.inl rfl, fun s _ f hf => absurd hf (Nat.not_lt_zero _)⟩
  | succ k ih =>
    intro hk
    obtain ⟨i1, i2⟩ := ih (by omega)
    obtain ⟨j1, j2⟩ := sp_n2_ge i1 (hh k (by omega)) 15 (Nat.le_refl _)
    refine ⟨j1, fun s hs f hf l hl => ?_⟩
    obtain ⟨u, v⟩ := j2 s hs
    by_cases c : f = k
    · subst c; exact v l hl
    · exact i2 s u f (by omega) l hl
theorem sp_hu_ge (ok : sp_ok σ) (hf : f < 4) (hl : l < 15) : sp_ge 1 (sp_hu σ f l) := by
  obtain ⟨o1, o2, o3, ⟨L, o4, o4'⟩, N, o5, o6, o7⟩ := ok
  obtain ⟨h, h1, h2⟩ := o7 (15 * f + l) (by omega)
  have e2 : sp_hu σ f l = sp_if (σ 2 = 0 ∨ ¬ σ (8 + f) &&& sp_bit l = 0) (-1) (sp_if (sp_wn σ f l) 1 (sp_if (¬ sp_lit σ f &&& sp_bit l = 0) (100 * σ 2 - σ (12 + (15 * f + l))) (-1))) := rfl
  rw [e2]
  by_cases c : σ 2 = 0 ∨ ¬ σ (8 + f) &&& sp_bit l = 0
  · rw [sp_if_t c]; exact Or.inl rfl
  · rw [sp_if_f c]
    by_cases c2 : sp_wn σ f l
    · rw [sp_if_t c2]; exact Or.inr ⟨1, by omega, by decide, rfl⟩
    · rw [sp_if_f c2]
      by_cases c3 : ¬ sp_lit σ f &&& sp_bit l = 0
      · rw [sp_if_t c3]
        unfold sp_wn at c2
        rw [o4', h2, show (100 : Int32) = nI 100 from rfl, nI_mul] at c2 ⊢
        have hL : 0 < L := Nat.pos_of_ne_zero (fun z => c (Or.inl (by rw [o4', z]; rfl)))
        have hlt : h < 100 * L := by
          apply Classical.byContradiction
          intro z
          exact c2 ⟨(nI_ltI (a := 0) (by omega) (by omega)).2 (by omega), (nI_leI (by omega) (by omega)).2 (by omega)⟩
        rw [nI_sub (by omega)]
        exact Or.inr ⟨100 * L - h, by omega, by omega, rfl⟩
      · rw [sp_if_f c3]; exact Or.inl rfl
theorem sp_noW (ok : sp_ok σ) (hf : f < 4) (hl : l < 15) (hs : sp_ge s (sp_hu σ f l)) (hk : 1 ≤ k) (hks : k < s) (hs5 : s ≤ 500) : ¬ (sp_hA σ (nI k) (8 + f) &&& sp_bit l = 0 ∧ sp_wn (sp_hA σ (nI k)) f l) := by
  rintro ⟨b, w⟩
  obtain ⟨o1, o2, o3, ⟨L, o4, o4'⟩, N, o5, o6, o7⟩ := ok
  obtain ⟨h, h1, h2⟩ := o7 (15 * f + l) (by omega)
  have e2 : sp_hu σ f l = sp_if (σ 2 = 0 ∨ ¬ σ (8 + f) &&& sp_bit l = 0) (-1) (sp_if (sp_wn σ f l) 1 (sp_if (¬ sp_lit σ f &&& sp_bit l = 0) (100 * σ 2 - σ (12 + (15 * f + l))) (-1))) := rfl
  unfold sp_wn at w
  rw [sp_hA_o (by omega)] at b
  rw [sp_hA_o (show 2 < 12 by decide), sp_hA_h hf hl] at w
  have c : ¬ (σ 2 = 0 ∨ ¬ σ (8 + f) &&& sp_bit l = 0) := by
    rintro (z | z)
    · have w1 := w.1
      rw [z] at w1
      exact absurd w1 (by decide)
    · exact z b
  rw [e2, sp_if_f c] at hs
  by_cases c2 : sp_wn σ f l
  · rw [sp_if_t c2] at hs
    rcases hs with z | ⟨q, q1, q2, q3⟩
    · exact absurd z (by decide)
    · have : 1 = q := (nI_eq (by decide) q2).1 q3
      omega
  · rw [sp_if_f c2] at hs
    by_cases c3 : ¬ sp_lit σ f &&& sp_bit l = 0
    · rw [sp_if_t c3] at hs w
      unfold sp_wn at c2
      rw [o4', h2, show (100 : Int32) = nI 100 from rfl, nI_mul] at c2 hs w
      have hlt : h < 100 * L := by
        apply Classical.byContradiction
        intro z
        exact c2 ⟨w.1, (nI_leI (by omega) (by omega)).2 (by omega)⟩
      rw [nI_sub (by omega)] at hs
      rw [nI_add] at w
      have w2 := (nI_leI (by omega) (by omega)).1 w.2
      rcases hs with z | ⟨q, q1, q2, q3⟩
      · exact absurd z (nI_ne1 (by omega))
      · have := (nI_eq (by omega) q2).1 q3
        omega
    · rw [sp_if_f c3] at w
      exact c2 w
/-- s hours with no burning before the last -/
theorem sp_run (ok : sp_ok σ) (hs : ∀ f, f < 4 → ∀ l, l < 15 → sp_ge s (sp_hu σ f l)) (hs5 : s ≤ 500) : ∀ k, k < s → sp_e3 (sp_hi σ k).1 (sp_hA σ (nI k)) ∧ (sp_hi σ k).2 = 0 := by
  intro k
  induction k with
  | zero => intro _; exact ⟨fun j _ _ => by rw [show sp_hA σ (nI 0) = σ from sp_hA_0]; rfl, rfl⟩
  | succ k ih =>
    intro hk
    obtain ⟨i1, i2⟩ := ih (by omega)
    have e : sp_hA (sp_hA σ (nI k)) 1 = sp_hA σ (nI (k + 1)) := by rw [sp_hA_t, nI_1]
    have hb := sp_bw_e3 (sp_hA_e3 (x := 1) i1) 4
    rw [e, sp_bw_no 4 (fun f hf l hl => sp_noW ok hf hl (hs f hf l hl) (by omega) hk hs5)] at hb
    refine ⟨sp_e3_t sp_ho_e3 hb.1, ?_⟩
    show (sp_hi σ k).2 + (sp_hq (sp_hi σ k).1).2 = 0
    rw [i2, show (sp_hq (sp_hi σ k).1).2 = 0 from hb.2]
theorem sp_run2 (ok : sp_ok σ) (hs : ∀ f, f < 4 → ∀ l, l < 15 → sp_ge s (sp_hu σ f l)) (hs1 : 1 ≤ s) (hs5 : s ≤ 500) : sp_e3 (sp_hi σ s).1 (sp_bw (sp_hA σ (nI s)) 4).1 ∧ (sp_hi σ s).2 = (sp_bw (sp_hA σ (nI s)) 4).2 := by
  obtain ⟨k, rfl⟩ : ∃ k, s = k + 1 := ⟨s - 1, by omega⟩
  obtain ⟨i1, i2⟩ := sp_run ok hs hs5 k (by omega)
  have e : sp_hA (sp_hA σ (nI k)) 1 = sp_hA σ (nI (k + 1)) := by rw [sp_hA_t, nI_1]
  have hb := sp_bw_e3 (sp_hA_e3 (x := 1) i1) 4
  rw [e] at hb
  refine ⟨sp_e3_t sp_ho_e3 hb.1, ?_⟩
  show (sp_hi σ k).2 + (sp_hq (sp_hi σ k).1).2 = _
  rw [i2, Nat.zero_add]
  exact hb.2
end SM
end
section
/-! pass, on the class's side: from burning to burning is hour by hour -/
section SM
variable {g : mm_Gg} {I I1 : mm_Is} {x y z : Int32} {l f n m H N : Nat} {σ τ ρ : sp_St} {ps : Nat → sp_St} {tx : Nat → Int32}
theorem sp_hu_e3 (h : sp_e3 τ ρ) : sp_hu τ f l = sp_hu ρ f l := by
  unfold sp_hu
  rw [sp_wn_e3 h, sp_lit_e3 h, h 2 (by decide) (by decide), h (8 + f) (by omega) (by omega), h (12 + (15 * f + l)) (by omega) (by omega)]
theorem sp_n2_e3 (h : sp_e3 τ ρ) (k : Nat) : sp_n2 τ f x k = sp_n2 ρ f x k := by
  induction k with
  | zero => rfl
  | succ k ih =>
    show sp_n1 (sp_n2 τ f x k) (sp_hu τ f k) = sp_n1 (sp_n2 ρ f x k) (sp_hu ρ f k)
    rw [ih, sp_hu_e3 h]
theorem sp_nb_e3 (h : sp_e3 τ ρ) (k : Nat) : sp_nb τ k = sp_nb ρ k := by
  induction k with
  | zero => rfl
  | succ k ih =>
    show sp_n2 τ k (sp_nb τ k) 15 = sp_n2 ρ k (sp_nb ρ k) 15
    rw [ih, sp_n2_e3 h]
theorem c_pass (h : sp_C I σ n ps m tx) (ok : sp_ok σ) (h1 : 1 ≤ H) (h5 : H ≤ 500) (hN : σ 0 = nI N) (h2 : N + H ≤ 99999) : ∃ I', mm_M 31 7 [.ref 0, .int (nI H)] g I (some (.int (nI (sp_hi σ H).2))) I' ∧ (sp_C I' (sp_hi σ H).1 (sp_sn n) (sp_sp n ps σ) m tx ∧ sp_cf I I') := by
  obtain ⟨I1, hM1, hH1, f1⟩ := c_save (g := g) h.1.1 h.2.1
  have hD1 := sp_D_save f1 h.1
  have hX1 := sp_X_save f1 h.2.2
  have hs : σ 0 + nI H ≤ (99999 : Int32) := by
    rw [hN, nI_add, show (99999 : Int32) = nI 99999 from rfl]
    exact nI_le h2 (by decide)
  refine w_MX ?_
  show mm_W 31 0 [.ref 0, .int (nI H), .null, .null, .null, .null, .null] [] _ _ _
  generalize hF : mm_EQ _ _ _ = F
  refine w_st rfl rfl rfl trivial ?_
  refine w_st rfl rfl rfl trivial ?_
  refine w_n_lt (a := H) (b := 1) rfl (by first | decide | omega) (by first | decide | omega) (by first | rfl | assumption | (simp only [← nI_add, ← nI_mul]; rfl)) (by first | rfl | assumption | (simp only [← nI_add, ← nI_mul]; rfl)) (fun c => by exfalso; omega) (fun _ => ?_)
  refine w_st rfl rfl rfl trivial ?_
  refine w_st rfl rfl rfl trivial ?_
  refine w_n_le (a := H) (b := 500) rfl (by first | decide | omega) (by first | decide | omega) (by first | rfl | assumption | (simp only [← nI_add, ← nI_mul]; rfl)) (by first | rfl | assumption | (simp only [← nI_add, ← nI_mul]; rfl)) (fun _ => ?_) (fun c => by exfalso; omega)
  refine w_st rfl rfl rfl trivial ?_
  refine w_gr (j := 1) rfl (mm_foc rfl) rfl (by decide) ?_
  refine w_gi rfl (mm_foc rfl) ?_
  rw [show I 1 4 = σ 0 from h.1.1.2.2.2.2.1]
  refine w_st rfl rfl rfl trivial ?_
  refine w_iadd rfl ?_
  refine w_st rfl rfl rfl trivial ?_
  refine w_v_le rfl (fun _ => ?_) (fun z => by first | exact absurd (hs) z | exact absurd z (hs))
  refine w_st rfl rfl rfl trivial ?_
  refine w_gr (j := 13) rfl (mm_foc rfl) rfl (by decide) ?_
  refine w_st rfl rfl rfl trivial ?_
  refine w_gr (j := 1) rfl (mm_foc rfl) rfl (by decide) ?_
  refine w_k20 (hM1) rfl ⟨rfl, by decide, by decide, by decide, Or.inl ⟨_, rfl⟩⟩ (Nat.le_of_ble_eq_true rfl) (mm_foc rfl) (Nat.le_of_ble_eq_true rfl) ?_  -- calls 6 cX1_save
  refine w_st rfl rfl rfl trivial ?_
  refine w_st rfl rfl rfl (Nat.le_of_ble_eq_true rfl) ?_
  refine w_st rfl rfl rfl trivial ?_
  refine w_st rfl rfl rfl (Nat.le_of_ble_eq_true rfl) ?_
  refine w_st rfl rfl rfl trivial ?_
  refine w_st rfl rfl rfl (Nat.le_of_ble_eq_true rfl) ?_
  have X : ∀ I2 (v3 v4 : Int32) v5 v6 τ, sp_D I2 τ → sp_e3 (sp_hi σ H).1 τ → τ 0 = σ 0 → τ 3 = σ 3 → (∀ p, ¬ p = 3 → ¬ p = 4 → ¬ (45 ≤ p ∧ p < 61) → I2 p = I1 p) → mm_W 31 124 [.ref 0, .int (nI H), .int (nI (sp_hi σ H).2), .int v3, .int v4, v5, v6] [] g I2 F := by
    intro I2 v3 v4 v5 v6 τ hD2 he e0 e3 f2
    have eq : upd (upd τ 0 (σ 0 + nI H)) 3 (σ 3 + nI (sp_hi σ H).2) = (sp_hi σ H).1 := by
      funext j
      by_cases c3 : j = 3
      · subst c3; rw [upd_s, sp_hi_3]
      · rw [upd_n c3]
        by_cases c0 : j = 0
        · subst c0; rw [upd_s, sp_hi_0]
        · rw [upd_n c0]; exact (he j c0 c3).symm
    refine w_st rfl rfl rfl trivial ?_
    refine w_gr (j := 1) rfl (mm_foc rfl) rfl (by decide) ?_
    refine w_st rfl rfl rfl trivial ?_
    refine w_gi rfl (mm_foc rfl) ?_
    refine w_st rfl rfl rfl trivial ?_
    rw [show I2 1 4 = τ 0 from hD2.1.2.2.2.2.1, e0]
    have hb3 := sp_bd_41 (x := σ 0 + nI H) hD2.1
    refine w_iadd rfl ?_
    refine w_pi rfl (mm_foc rfl) ?_
    refine w_st rfl rfl rfl trivial ?_
    refine w_gr (j := 1) rfl (mm_foc rfl) rfl (by decide) ?_
    refine w_st rfl rfl rfl trivial ?_
    refine w_gi rfl (mm_foc rfl) ?_
    refine w_st rfl rfl rfl trivial ?_
    rw [show va_up I2 1 (upd (I2 1) 4 (σ 0 + nI H)) 1 5 = upd τ 0 (σ 0 + nI H) 3 from hb3.2.2.2.2.2, upd_n (by decide), e3]
    have hb4 := sp_bd_51 (x := σ 3 + nI (sp_hi σ H).2) hb3
    refine w_iadd rfl ?_
    refine w_pi rfl (mm_foc rfl) ?_
    refine w_st rfl rfl rfl trivial ?_
    refine w_reti rfl ?_
    subst hF
    refine ⟨rfl, rfl, ?_⟩
    rw [eq] at hb4
    refine ⟨⟨⟨hb4, fun e he4 d hd => ?_⟩, sp_H_c (fun p hp => ?_) hH1, sp_X_c (fun p hp => ?_) hX1⟩, fun p hp => ?_⟩
    · have := hD2.2 e he4 d hd
      rw [he (8 + e) (by omega) (by omega), he 1 (by decide) (by decide)]
      unfold sp_te at this ⊢
      rw [va_up_ne _ _ (by omega), va_up_ne _ _ (by omega), va_up_ne _ _ (by omega), va_up_ne _ _ (by omega), va_up_ne _ _ (by omega), va_up_ne _ _ (by omega)]
      exact this
    · rw [va_up_ne _ _ (by omega), va_up_ne _ _ (by omega)]; exact f2 p (by omega) (by omega) (by omega)
    · rw [va_up_ne _ _ (by omega), va_up_ne _ _ (by omega)]; exact f2 p (by omega) (by omega) (by omega)
    · rw [va_up_ne _ _ (by omega), va_up_ne _ _ (by omega), f2 p (by omega) (by omega) (by omega)]; exact f1 p (by omega) (by omega)
  have K : ∀ t, t ≤ H → ∀ I2 r τ v5 v6, r ≤ H - t → sp_D I2 τ → sp_e3 (sp_hi σ (H - r)).1 τ → τ 0 = σ 0 → τ 3 = σ 3 → (∀ p, ¬ p = 3 → ¬ p = 4 → ¬ (45 ≤ p ∧ p < 61) → I2 p = I1 p) → mm_W 31 64 [.ref 0, .int (nI H), .int (nI (sp_hi σ (H - r)).2), .int (nI r), .int (nI t), v5, v6] [] g I2 F := by
    refine mm_dn H ?_ ?_
    · intro I2 r τ v5 v6 hr hD2 he e0 e3 f2
      have r0 : r = 0 := by omega
      subst r0
      refine w_st rfl rfl rfl trivial ?_
      refine w_st rfl rfl rfl trivial ?_
      refine w_n_ge (a := H) (b := H) rfl (by first | decide | omega) (by first | decide | omega) (by first | rfl | assumption | (simp only [← nI_add, ← nI_mul]; rfl)) (by first | rfl | assumption | (simp only [← nI_add, ← nI_mul]; rfl)) (fun _ => ?_) (fun c => by exfalso; omega)
      exact X I2 _ _ v5 v6 τ hD2 he e0 e3 f2
    · intro t ht ih I2 r τ v5 v6 hr hD2 he e0 e3 f2
      refine w_st rfl rfl rfl trivial ?_
      refine w_st rfl rfl rfl trivial ?_
      refine w_n_ge (a := t) (b := H) rfl (by first | decide | omega) (by first | decide | omega) (by first | rfl | assumption | (simp only [← nI_add, ← nI_mul]; rfl)) (by first | rfl | assumption | (simp only [← nI_add, ← nI_mul]; rfl)) (fun c => by exfalso; omega) (fun _ => ?_)
      refine w_st rfl rfl rfl trivial ?_
      refine w_m_le (a := r) rfl (by first | decide | omega) (by first | rfl | assumption | (simp only [← nI_add, ← nI_mul]; rfl)) (fun c => ?_) (fun c => ?_)
      · subst c
        exact X I2 _ _ v5 v6 τ hD2 he e0 e3 f2
      · have okr := sp_ok_hi ok hN (H - r) (by omega)
        have hadd := sp_hi_add (σ := σ) (H - r)
        generalize hρ : (sp_hi σ (H - r)).1 = ρ at he okr hadd
        generalize hB : (sp_hi σ (H - r)).2 = B at hadd ⊢
        obtain ⟨g1, g2⟩ := sp_nb_ge (fun f hf l hl => sp_hu_ge okr hf hl) 4 (Nat.le_refl _)
        refine w_st rfl rfl rfl trivial ?_
        refine w_k11 (c_nextBurn hD2) rfl ⟨rfl, by decide, by decide, by decide, Or.inl ⟨_, rfl⟩⟩ (Nat.le_of_ble_eq_true rfl) (mm_foc rfl) (Nat.le_of_ble_eq_true rfl) ?_  -- calls 42 cX4_nextBurn
        rw [← sp_nb_e3 he]
        have Y : ∀ s (v5 : Int32) v6, 1 ≤ s → s ≤ r → sp_ge s (sp_nb ρ 4) → mm_W 31 98 [.ref 0, .int (nI H), .int (nI B), .int (nI r), .int (nI t), .int v5, v6] [.int (nI s)] g I2 F := by
          intro s v5 v6 hs1 hsr hge
          obtain ⟨R1, R2⟩ := sp_run2 okr (g2 s hge) hs1 (by omega)
          obtain ⟨Q1, Q2⟩ := sp_bw_e3 (sp_hA_e3 (x := nI s) he) 4
          have ea := hadd s
          rw [R2, Q2] at ea
          have es : H - r + s = H - (r - s) := by omega
          rw [es] at ea
          have e2 : (sp_hi σ (H - (r - s))).2 = B + (sp_bw (sp_hA τ (nI s)) 4).2 := by rw [ea]
          have e1 : sp_e3 (sp_hi σ (H - (r - s))).1 (sp_bw (sp_hA τ (nI s)) 4).1 := by rw [ea]; exact sp_e3_t R1 Q1
          obtain ⟨I3, hM3, hD3, f3⟩ := c_light (g := g) (x := nI s) hD2
          rw [sp_lg_A] at hD3
          obtain ⟨I4, hM4, hD4, f4⟩ := c_burnWorn (g := g) hD3.1
          have z0 : (sp_bw (sp_hA τ (nI s)) 4).1 0 = σ 0 := by rw [sp_bw_o2 4 (by omega), sp_hA_o (by decide), e0]
          have z3 : (sp_bw (sp_hA τ (nI s)) 4).1 3 = σ 3 := by rw [sp_bw_o2 4 (by omega), sp_hA_o (by decide), e3]
          have I' := ih I4 (r - s) _ (.int v5) (.int (nI s)) (by omega) hD4 e1 z0 z3 (fun p a b c => by rw [f4 p a b c, f3 p b]; exact f2 p a b c)
          refine w_st rfl rfl rfl (Nat.le_of_ble_eq_true rfl) ?_
          refine w_st rfl rfl rfl trivial ?_
          refine w_st rfl rfl rfl trivial ?_
          refine w_k20 (hM3) rfl ⟨rfl, by decide, by decide, by decide, Or.inl ⟨_, rfl⟩⟩ (Nat.le_of_ble_eq_true rfl) (mm_foc rfl) (Nat.le_of_ble_eq_true rfl) ?_  -- calls 56 cX4_light
          refine w_st rfl rfl rfl trivial ?_
          refine w_st rfl rfl rfl trivial ?_
          refine w_k11 (hM4) rfl ⟨rfl, by decide, by decide, by decide, Or.inl ⟨_, rfl⟩⟩ (Nat.le_of_ble_eq_true rfl) (mm_foc rfl) (Nat.le_of_ble_eq_true rfl) ?_  -- calls 57 cX4_burnWorn
          refine w_iadd rfl ?_
          refine w_hd (show nI B + nI (sp_bw (sp_hA τ (nI s)) 4).2 = nI (sp_hi σ (H - (r - s))).2 from by rw [nI_add, e2]) ?_
          refine w_st rfl rfl rfl (Nat.le_of_ble_eq_true rfl) ?_
          refine w_st rfl rfl rfl trivial ?_
          refine w_st rfl rfl rfl trivial ?_
          refine w_isub rfl ?_
          refine w_hd (nI_sub hsr) ?_
          refine w_st rfl rfl rfl (Nat.le_of_ble_eq_true rfl) ?_
          refine w_inc rfl rfl rfl (Nat.le_of_ble_eq_true rfl) (nI_1 _) ?_
          refine w_st rfl rfl rfl trivial ?_
          exact I'
        refine w_st rfl rfl rfl (Nat.le_of_ble_eq_true rfl) ?_
        refine w_st rfl rfl rfl trivial ?_
        refine w_st rfl rfl rfl trivial ?_
        refine w_v_eq rfl (fun c1 => ?_) (fun c1 => ?_)
        · skip
          refine w_st rfl rfl rfl trivial ?_
          refine w_st rfl rfl rfl trivial ?_
          exact Y r _ _ c (Nat.le_refl _) (Or.inl c1)
        · obtain ⟨b, b1, b2, b3⟩ := g1.resolve_left c1
          rw [b3]
          refine w_st rfl rfl rfl trivial ?_
          refine w_st rfl rfl rfl trivial ?_
          refine w_n_le (a := b) (b := r) rfl (by first | decide | omega) (by first | decide | omega) (by first | rfl | assumption | (simp only [← nI_add, ← nI_mul]; rfl)) (by first | rfl | assumption | (simp only [← nI_add, ← nI_mul]; rfl)) (fun c2 => ?_) (fun c2 => ?_)
          · skip
            refine w_st rfl rfl rfl trivial ?_
            exact Y b _ _ b1 c2 (by rw [b3]; exact Or.inr ⟨b, Nat.le_refl _, b2, rfl⟩)
          · skip
            refine w_st rfl rfl rfl trivial ?_
            refine w_st rfl rfl rfl trivial ?_
            exact Y r _ _ c (Nat.le_refl _) (by rw [b3]; exact Or.inr ⟨b, by omega, b2, rfl⟩)
  have e0 : sp_hi σ (H - H) = (σ, 0) := by rw [Nat.sub_self]; rfl
  have Z := K 0 (Nat.zero_le _) I1 H σ .null .null (by omega) hD1 (by rw [e0]; exact fun _ _ _ => rfl) rfl rfl (fun _ _ _ _ => rfl)
  rw [e0] at Z
  exact Z
end SM
end
section
/-! lamps one by one: counting by bits -/
def p_bs (p : Nat → Bool) : Nat → Nat
  | 0 => 0
  | k + 1 => p_bs p k + (bif p k then 1 else 0)
theorem p_bs_f (p : Nat → Bool) (k : Nat) : p_bs p (k + 1) = (bif p 0 then 1 else 0) + p_bs (fun i => p (i + 1)) k := by
  induction k with
  | zero => exact Nat.add_comm _ _
  | succ k ih =>
    show p_bs p (k + 1) + (bif p (k + 1) then 1 else 0) = _ + (p_bs (fun i => p (i + 1)) k + (bif p (k + 1) then 1 else 0))
    rw [ih, Nat.add_assoc]
theorem p_bs_c {p q : Nat → Bool} (k : Nat) (h : ∀ i, i < k → p i = q i) : p_bs p k = p_bs q k := by
  induction k with
  | zero => rfl
  | succ k ih =>
    show p_bs p k + (bif p k then 1 else 0) = p_bs q k + (bif q k then 1 else 0)
    rw [ih (fun i hi => h i (by omega)), h k (by omega)]
theorem p_bs_le (p : Nat → Bool) (k : Nat) : p_bs p k ≤ k := by
  induction k with
  | zero => exact Nat.le_refl _
  | succ k ih =>
    show p_bs p k + (bif p k then 1 else 0) ≤ k + 1
    cases p k
    · exact Nat.le_trans ih (Nat.le_succ k)
    · exact Nat.succ_le_succ ih
theorem p_bs_mono {p q : Nat → Bool} (k : Nat) (h : ∀ i, i < k → p i = true → q i = true) : p_bs p k ≤ p_bs q k := by
  induction k with
  | zero => exact Nat.le_refl _
  | succ k ih =>
    have i1 := ih (fun i hi => h i (by omega))
    have i2 := h k (by omega)
    show p_bs p k + (bif p k then 1 else 0) ≤ p_bs q k + (bif q k then 1 else 0)
    cases hp : p k
    · exact Nat.le_trans i1 (Nat.le_add_right _ _)
    · rw [i2 hp]; exact Nat.succ_le_succ i1
theorem p_bs_one {p q : Nat → Bool} {i : Nat} (hp : p i = false) (hq : q i = true) (ho : ∀ j, ¬ j = i → q j = p j) : ∀ k, i < k → p_bs q k = p_bs p k + 1 := by
  intro k
  induction k with
  | zero => intro h; omega
  | succ k ih =>
    intro h
    show p_bs q k + (bif q k then 1 else 0) = p_bs p k + (bif p k then 1 else 0) + 1
    by_cases c : k = i
    · subst c
      rw [hp, hq, p_bs_c k (fun j hj => ho j (by omega))]
      rfl
    · rw [ih (by omega), ho k c, Nat.add_right_comm]
def p_hc (m : Nat) : Bool := Nat.beq (sp_qq m) (sp_qq (m / 2) + m % 2)
theorem p_hc_0 : sp_al p_hc 12 0 = true := by decide +kernel
theorem p_hc_1 : sp_al p_hc 12 4096 = true := by decide +kernel
theorem p_hc_2 : sp_al p_hc 12 8192 = true := by decide +kernel
theorem p_hc_3 : sp_al p_hc 12 12288 = true := by decide +kernel
theorem p_hc_4 : sp_al p_hc 12 16384 = true := by decide +kernel
theorem p_hc_5 : sp_al p_hc 12 20480 = true := by decide +kernel
theorem p_hc_6 : sp_al p_hc 12 24576 = true := by decide +kernel
theorem p_hc_7 : sp_al p_hc 12 28672 = true := by decide +kernel
theorem p_hc_all {m : Nat} (h : m < 32768) : p_hc m = true := by
  have key : ∀ i, i < 8 → m / 4096 = i → p_hc m = true := by
    intro i hi h1
    have h2 : 4096 * i ≤ m ∧ m < 4096 * i + 2 ^ 12 := by omega
    match i, hi with
    | 0, _ => exact sp_al_of 12 _ p_hc_0 m h2.1 h2.2
    | 1, _ => exact sp_al_of 12 _ p_hc_1 m h2.1 h2.2
    | 2, _ => exact sp_al_of 12 _ p_hc_2 m h2.1 h2.2
    | 3, _ => exact sp_al_of 12 _ p_hc_3 m h2.1 h2.2
    | 4, _ => exact sp_al_of 12 _ p_hc_4 m h2.1 h2.2
    | 5, _ => exact sp_al_of 12 _ p_hc_5 m h2.1 h2.2
    | 6, _ => exact sp_al_of 12 _ p_hc_6 m h2.1 h2.2
    | 7, _ => exact sp_al_of 12 _ p_hc_7 m h2.1 h2.2
  exact key (m / 4096) (by omega) rfl
theorem p_qq_bs : ∀ k, k ≤ 15 → ∀ m, m < 2 ^ k → sp_qq m = p_bs (fun i => m.testBit i) k := by
  intro k
  induction k with
  | zero =>
    intro _ m hm
    have e : m = 0 := by simp at hm; exact hm
    subst e
    show sp_qq 0 = 0
    decide +kernel
  | succ k ih =>
    intro hk m hm
    have h2 : 2 ^ (k + 1) = 2 ^ k + 2 ^ k := by rw [Nat.pow_succ]; omega
    have h32 : m < 32768 := Nat.lt_of_lt_of_le hm (Nat.pow_le_pow_right (n := 2) (by decide) hk)
    have e := Nat.eq_of_beq_eq_true (p_hc_all h32)
    rw [e, ih (by omega) (m / 2) (by omega), p_bs_f]
    have e2 : (fun i => m.testBit (i + 1)) = fun i => (m / 2).testBit i := funext fun i => Nat.testBit_succ m i
    have e3 : (bif m.testBit 0 then 1 else 0) = m % 2 := by
      rw [Nat.testBit_zero]
      rcases Nat.mod_two_eq_zero_or_one m with h | h <;> rw [h] <;> rfl
    rw [e3, Nat.add_comm]
    show _ = m % 2 + p_bs (fun i => m.testBit (i + 1)) k
    rw [e2]
/-- the bit i of a set -/
def p_b (x : Int32) (i : Nat) : Bool := x.toBitVec.getLsbD i
theorem p_pop {x : Int32} (h : sp_b15 x) : sp_pop x = nI (p_bs (p_b x) 15) := by
  obtain ⟨n, hn, rfl⟩ := h
  rw [sp_pop_n hn, p_qq_bs 15 (Nat.le_refl _) n hn]
  congr 1
  refine p_bs_c 15 fun i hi => ?_
  show n.testBit i = (BitVec.ofNat 32 n).getLsbD i
  rw [BitVec.getLsbD_ofNat, decide_eq_true (show i < 32 by omega), Bool.true_and]
section SM
variable {x y z : Int32} {l d k t f j n m s : Nat}
theorem p_b_or : p_b (x ||| y) j = (p_b x j || p_b y j) := by unfold p_b; rw [Int32.toBitVec_or, BitVec.getLsbD_or]
theorem p_b_and : p_b (x &&& y) j = (p_b x j && p_b y j) := by unfold p_b; rw [Int32.toBitVec_and, BitVec.getLsbD_and]
theorem p_b_0 : p_b 0 j = false := by
  unfold p_b
  rw [show (0 : Int32).toBitVec = 0#32 from rfl]
  exact BitVec.getLsbD_zero
theorem p_b_bit (hl : l < 15) : p_b (sp_bit l) j = decide (j = 14 - l) := by
  unfold p_b
  rw [sp_bit_tw hl, BitVec.getLsbD_twoPow, decide_eq_true (show 14 - l < 32 by omega), Bool.true_and]
  exact decide_eq_decide.2 ⟨Eq.symm, Eq.symm⟩
theorem p_b_hi (h : sp_b15 x) (hj : 15 ≤ j) : p_b x j = false := by
  have h1 := sp_b15_iff.1 h
  show x.toBitVec.toNat.testBit j = false
  exact Nat.testBit_lt_two_pow (Nat.lt_of_lt_of_le h1 (Nat.pow_le_pow_right (n := 2) (by decide) hj))
theorem p_ext (h : ∀ j, p_b x j = p_b y j) : x = y := Int32.toBitVec_inj.1 (BitVec.eq_of_getLsbD_eq fun i _ => h i)
theorem p_on (hl : l < 15) : x &&& sp_bit l = 0 ↔ p_b x (14 - l) = false := sp_and_bit hl
theorem p_off (hl : l < 15) : ¬ x &&& sp_bit l = 0 ↔ p_b x (14 - l) = true := by
  rw [p_on hl]
  cases p_b x (14 - l) <;> simp
theorem p_pop_and (hx : sp_b15 x) (hy : sp_b15 y) : ∃ a b, a ≤ b ∧ b < 16 ∧ sp_pop (x &&& y) = nI a ∧ sp_pop y = nI b := by
  refine ⟨p_bs (p_b (x &&& y)) 15, p_bs (p_b y) 15, p_bs_mono 15 (fun i _ h => ?_), Nat.lt_succ_of_le (p_bs_le _ 15), p_pop (sp_b15_and hx y), p_pop hy⟩
  rw [p_b_and, Bool.and_eq_true] at h
  exact h.2
theorem p_pop_or (hl : l < 15) (hx : sp_b15 x) (h : x &&& sp_bit l = 0) : sp_pop (x ||| sp_bit l) = sp_pop x + 1 := by
  rw [p_pop (sp_b15_or hx (sp_b15_bit hl)), p_pop hx, nI_1]
  congr 1
  refine p_bs_one (i := 14 - l) ((p_on hl).1 h) ?_ (fun j hj => ?_) 15 (by omega)
  · rw [p_b_or, p_b_bit hl, decide_eq_true rfl, Bool.or_true]
  · rw [p_b_or, p_b_bit hl, decide_eq_false hj, Bool.or_false]
theorem p_pop_0 (hx : sp_b15 x) (h : sp_pop x = 0) : x = 0 := by
  obtain ⟨n, hn, rfl⟩ := hx
  rcases Nat.eq_zero_or_pos n with rfl | h0
  · rfl
  · exfalso
    obtain ⟨-, -, h3, k, hk, h4⟩ := sp_ck_of hn h0
    obtain ⟨k2, hk2, h5⟩ := sp_pop_k (x := nI (Nat.land n (n - 1))) ⟨_, Nat.lt_of_le_of_lt (sp_land_le1 _ _) hn, rfl⟩
    rw [h3, h5, nI_1] at h
    exact absurd ((nI_eq (b := 0) (by omega) (by decide)).1 h) (by omega)
/-- a set gathered from its lamps, the first k -/
noncomputable def p_ac (x : Int32) : Nat → Int32
  | 0 => 0
  | k + 1 => p_ac x k ||| (mm_bi (¬ x &&& sp_bit k = 0) <<< ((14 - nI k) &&& 31))
theorem p_bi_sh (x : Int32) (k : Nat) : mm_bi (¬ x &&& sp_bit k = 0) <<< ((14 - nI k) &&& 31) = sp_if (x &&& sp_bit k = 0) 0 (sp_bit k) := by
  by_cases c : x &&& sp_bit k = 0
  · rw [mm_bi_f (fun z => z c), sp_if_t c]; exact Int32.zero_shiftLeft
  · rw [mm_bi_t c, sp_if_f c]; rfl
theorem p_ac_b : ∀ k, k ≤ 15 → ∀ j, p_b (p_ac x k) j = (decide (j < 15 ∧ 14 - j < k) && p_b x j) := by
  intro k
  induction k with
  | zero => intro _ j; show p_b 0 j = _; rw [p_b_0, decide_eq_false (by omega), Bool.false_and]
  | succ k ih =>
    intro hk j
    have ih1 := ih (by omega) j
    show p_b (p_ac x k ||| _) j = _
    rw [p_bi_sh, p_b_or, ih1]
    by_cases cj : j = 14 - k
    · subst cj
      rw [decide_eq_false (show ¬ (14 - k < 15 ∧ 14 - (14 - k) < k) by omega), Bool.false_and, Bool.false_or, decide_eq_true (show 14 - k < 15 ∧ 14 - (14 - k) < k + 1 by omega), Bool.true_and]
      by_cases c : x &&& sp_bit k = 0
      · rw [sp_if_t c, p_b_0]; exact ((p_on (by omega)).1 c).symm
      · rw [sp_if_f c, p_b_bit (by omega), decide_eq_true rfl]; exact ((p_off (by omega)).1 c).symm
    · have e2 : p_b (sp_if (x &&& sp_bit k = 0) 0 (sp_bit k)) j = false := by
        by_cases c : x &&& sp_bit k = 0
        · rw [sp_if_t c, p_b_0]
        · rw [sp_if_f c, p_b_bit (by omega), decide_eq_false cj]
      rw [e2, Bool.or_false]
      congr 1
      exact decide_eq_decide.2 ⟨fun z => ⟨z.1, by have := z.1; have := z.2; omega⟩, fun z => ⟨z.1, by have := z.1; have := z.2; omega⟩⟩
theorem p_ac_15 (h : sp_b15 x) : p_ac x 15 = x := by
  refine p_ext fun j => ?_
  rw [p_ac_b 15 (Nat.le_refl _)]
  by_cases c : j < 15
  · rw [decide_eq_true (show j < 15 ∧ 14 - j < 15 by omega), Bool.true_and]
  · rw [p_b_hi h (by omega), Bool.and_false]
theorem p_ac_c {y : Int32} (k : Nat) (h : ∀ l, l < k → (x &&& sp_bit l = 0 ↔ y &&& sp_bit l = 0)) : p_ac x k = p_ac y k := by
  induction k with
  | zero => rfl
  | succ k ih =>
    show p_ac x k ||| (mm_bi (¬ x &&& sp_bit k = 0) <<< _) = p_ac y k ||| (mm_bi (¬ y &&& sp_bit k = 0) <<< _)
    rw [ih (fun l hl => h l (by omega)), mm_bi_c (not_congr (h k (by omega)))]
/-- all lamps, or one that is not in it -/
theorem p_all (h : sp_b15 x) : x = nI 32767 ↔ ∀ l, l < 15 → ¬ x &&& sp_bit l = 0 := by
  constructor
  · intro e l hl
    subst e
    revert l
    decide +kernel
  · intro a
    have e := p_ac_c (x := x) (y := nI 32767) 15 (fun l hl => ⟨fun z => absurd z (a l hl), fun z => absurd z ((by decide +kernel : ∀ l, l < 15 → ¬ nI 32767 &&& sp_bit l = 0) l hl)⟩)
    rw [p_ac_15 h, p_ac_15 ⟨32767, by decide, rfl⟩] at e
    exact e
end SM
end
