/-! the shape of the heap once the two objects are made -/
def mm_K0 : Nat → Nat × Nat := fun i => (bif Nat.ble i 34 then (bif Nat.ble i 16 then (bif Nat.ble i 7 then (bif Nat.ble i 3 then (bif Nat.ble i 1 then (bif Nat.ble i 0 then (bif Nat.beq i 0 then (4, 5) else (0, 0)) else (bif Nat.beq i 1 then (0, 6) else (0, 0))) else (bif Nat.ble i 2 then (bif Nat.beq i 2 then (10, 4) else (0, 0)) else (bif Nat.beq i 3 then (10, 4) else (0, 0)))) else (bif Nat.ble i 5 then (bif Nat.ble i 4 then (bif Nat.beq i 4 then (10, 60) else (0, 0)) else (bif Nat.beq i 5 then (10, 2) else (0, 0))) else (bif Nat.ble i 6 then (bif Nat.beq i 6 then (13, 4) else (0, 0)) else (bif Nat.beq i 7 then (2, 3) else (0, 0))))) else (bif Nat.ble i 11 then (bif Nat.ble i 9 then (bif Nat.ble i 8 then (bif Nat.beq i 8 then (10, 10) else (0, 0)) else (bif Nat.beq i 9 then (10, 10) else (0, 0))) else (bif Nat.ble i 10 then (bif Nat.beq i 10 then (10, 10) else (0, 0)) else (bif Nat.beq i 11 then (3, 2) else (0, 0)))) else (bif Nat.ble i 13 then (bif Nat.ble i 12 then (bif Nat.beq i 12 then (11, 60) else (0, 0)) else (bif Nat.beq i 13 then (1, 3) else (0, 0))) else (bif Nat.ble i 14 then (bif Nat.beq i 14 then (14, 6) else (0, 0)) else (bif Nat.ble i 15 then (bif Nat.beq i 15 then (0, 6) else (0, 0)) else (bif Nat.beq i 16 then (10, 4) else (0, 0))))))) else (bif Nat.ble i 25 then (bif Nat.ble i 20 then (bif Nat.ble i 18 then (bif Nat.ble i 17 then (bif Nat.beq i 17 then (10, 4) else (0, 0)) else (bif Nat.beq i 18 then (10, 60) else (0, 0))) else (bif Nat.ble i 19 then (bif Nat.beq i 19 then (10, 2) else (0, 0)) else (bif Nat.beq i 20 then (0, 6) else (0, 0)))) else (bif Nat.ble i 22 then (bif Nat.ble i 21 then (bif Nat.beq i 21 then (10, 4) else (0, 0)) else (bif Nat.beq i 22 then (10, 4) else (0, 0))) else (bif Nat.ble i 23 then (bif Nat.beq i 23 then (10, 60) else (0, 0)) else (bif Nat.ble i 24 then (bif Nat.beq i 24 then (10, 2) else (0, 0)) else (bif Nat.beq i 25 then (0, 6) else (0, 0)))))) else (bif Nat.ble i 29 then (bif Nat.ble i 27 then (bif Nat.ble i 26 then (bif Nat.beq i 26 then (10, 4) else (0, 0)) else (bif Nat.beq i 27 then (10, 4) else (0, 0))) else (bif Nat.ble i 28 then (bif Nat.beq i 28 then (10, 60) else (0, 0)) else (bif Nat.beq i 29 then (10, 2) else (0, 0)))) else (bif Nat.ble i 31 then (bif Nat.ble i 30 then (bif Nat.beq i 30 then (0, 6) else (0, 0)) else (bif Nat.beq i 31 then (10, 4) else (0, 0))) else (bif Nat.ble i 32 then (bif Nat.beq i 32 then (10, 4) else (0, 0)) else (bif Nat.ble i 33 then (bif Nat.beq i 33 then (10, 60) else (0, 0)) else (bif Nat.beq i 34 then (10, 2) else (0, 0)))))))) else (bif Nat.ble i 52 then (bif Nat.ble i 43 then (bif Nat.ble i 38 then (bif Nat.ble i 36 then (bif Nat.ble i 35 then (bif Nat.beq i 35 then (0, 6) else (0, 0)) else (bif Nat.beq i 36 then (10, 4) else (0, 0))) else (bif Nat.ble i 37 then (bif Nat.beq i 37 then (10, 4) else (0, 0)) else (bif Nat.beq i 38 then (10, 60) else (0, 0)))) else (bif Nat.ble i 40 then (bif Nat.ble i 39 then (bif Nat.beq i 39 then (10, 2) else (0, 0)) else (bif Nat.beq i 40 then (0, 6) else (0, 0))) else (bif Nat.ble i 41 then (bif Nat.beq i 41 then (10, 4) else (0, 0)) else (bif Nat.ble i 42 then (bif Nat.beq i 42 then (10, 4) else (0, 0)) else (bif Nat.beq i 43 then (10, 60) else (0, 0)))))) else (bif Nat.ble i 47 then (bif Nat.ble i 45 then (bif Nat.ble i 44 then (bif Nat.beq i 44 then (10, 2) else (0, 0)) else (bif Nat.beq i 45 then (2, 3) else (0, 0))) else (bif Nat.ble i 46 then (bif Nat.beq i 46 then (10, 10) else (0, 0)) else (bif Nat.beq i 47 then (10, 10) else (0, 0)))) else (bif Nat.ble i 49 then (bif Nat.ble i 48 then (bif Nat.beq i 48 then (10, 10) else (0, 0)) else (bif Nat.beq i 49 then (2, 3) else (0, 0))) else (bif Nat.ble i 50 then (bif Nat.beq i 50 then (10, 10) else (0, 0)) else (bif Nat.ble i 51 then (bif Nat.beq i 51 then (10, 10) else (0, 0)) else (bif Nat.beq i 52 then (10, 10) else (0, 0))))))) else (bif Nat.ble i 61 then (bif Nat.ble i 56 then (bif Nat.ble i 54 then (bif Nat.ble i 53 then (bif Nat.beq i 53 then (2, 3) else (0, 0)) else (bif Nat.beq i 54 then (10, 10) else (0, 0))) else (bif Nat.ble i 55 then (bif Nat.beq i 55 then (10, 10) else (0, 0)) else (bif Nat.beq i 56 then (10, 10) else (0, 0)))) else (bif Nat.ble i 58 then (bif Nat.ble i 57 then (bif Nat.beq i 57 then (2, 3) else (0, 0)) else (bif Nat.beq i 58 then (10, 10) else (0, 0))) else (bif Nat.ble i 59 then (bif Nat.beq i 59 then (10, 10) else (0, 0)) else (bif Nat.ble i 60 then (bif Nat.beq i 60 then (10, 10) else (0, 0)) else (bif Nat.beq i 61 then (5, 14) else (0, 0)))))) else (bif Nat.ble i 65 then (bif Nat.ble i 63 then (bif Nat.ble i 62 then (bif Nat.beq i 62 then (10, 30) else (0, 0)) else (bif Nat.beq i 63 then (10, 72) else (0, 0))) else (bif Nat.ble i 64 then (bif Nat.beq i 64 then (10, 432) else (0, 0)) else (bif Nat.beq i 65 then (10, 60) else (0, 0)))) else (bif Nat.ble i 67 then (bif Nat.ble i 66 then (bif Nat.beq i 66 then (10, 180) else (0, 0)) else (bif Nat.beq i 67 then (10, 10) else (0, 0))) else (bif Nat.ble i 68 then (bif Nat.beq i 68 then (10, 10) else (0, 0)) else (bif Nat.ble i 69 then (bif Nat.beq i 69 then (10, 4) else (0, 0)) else (bif Nat.beq i 70 then (12, 1) else (0, 0)))))))))
def mm_R0 : Nat → Nat → Nat := fun i k => (bif Nat.ble i 20 then (bif Nat.ble i 7 then (bif Nat.ble i 1 then (bif Nat.ble i 0 then (bif Nat.beq i 0 then ([1, 6, 7, 11, 13] : List Nat).getD k 0 else 0) else (bif Nat.beq i 1 then ([2, 3, 4, 5] : List Nat).getD k 0 else 0)) else (bif Nat.ble i 6 then (bif Nat.beq i 6 then ([45, 49, 53, 57] : List Nat).getD k 0 else 0) else (bif Nat.beq i 7 then ([8, 9, 10] : List Nat).getD k 0 else 0))) else (bif Nat.ble i 13 then (bif Nat.ble i 11 then (bif Nat.beq i 11 then ([12] : List Nat).getD k 0 else 0) else (bif Nat.beq i 13 then ([14] : List Nat).getD k 0 else 0)) else (bif Nat.ble i 14 then (bif Nat.beq i 14 then ([15, 20, 25, 30, 35, 40] : List Nat).getD k 0 else 0) else (bif Nat.ble i 15 then (bif Nat.beq i 15 then ([16, 17, 18, 19] : List Nat).getD k 0 else 0) else (bif Nat.beq i 20 then ([21, 22, 23, 24] : List Nat).getD k 0 else 0))))) else (bif Nat.ble i 40 then (bif Nat.ble i 30 then (bif Nat.ble i 25 then (bif Nat.beq i 25 then ([26, 27, 28, 29] : List Nat).getD k 0 else 0) else (bif Nat.beq i 30 then ([31, 32, 33, 34] : List Nat).getD k 0 else 0)) else (bif Nat.ble i 35 then (bif Nat.beq i 35 then ([36, 37, 38, 39] : List Nat).getD k 0 else 0) else (bif Nat.beq i 40 then ([41, 42, 43, 44] : List Nat).getD k 0 else 0))) else (bif Nat.ble i 49 then (bif Nat.ble i 45 then (bif Nat.beq i 45 then ([46, 47, 48] : List Nat).getD k 0 else 0) else (bif Nat.beq i 49 then ([50, 51, 52] : List Nat).getD k 0 else 0)) else (bif Nat.ble i 53 then (bif Nat.beq i 53 then ([54, 55, 56] : List Nat).getD k 0 else 0) else (bif Nat.ble i 57 then (bif Nat.beq i 57 then ([58, 59, 60] : List Nat).getD k 0 else 0) else (bif Nat.beq i 61 then ([62, 63, 64, 0, 65, 0, 0, 0, 0, 66, 0, 67, 68, 69] : List Nat).getD k 0 else 0))))))
abbrev mm_Gg : Type := Nat × Nat × (Nat → Nat → Int64) × Nat × (Nat → Int32)
/-- the heap: counters, longs and script g, ints I -/
def mm_hp (g : mm_Gg) (I : Nat → Nat → Int32) : mm_Hp := ((71, g.1, g.2.1), mm_K0, mm_R0, I, g.2.2.1, g.2.2.2)
abbrev mm_Is : Type := Nat → Nat → Int32
/-- i is an object of class ci / an array of kind k, n long -/
def mm_fo (i ci : Nat) : Prop := i < 71 ∧ (mm_K0 i).1 = ci
def mm_fa (i k n : Nat) : Prop := i < 71 ∧ mm_K0 i = (k, n) ∧ n < 1000
def mm_fr (i ci k : Nat) : Prop := mm_fo i ci ∧ mm_R0 i k ≠ 0
/-- a method, said over this heap: answer v, ints I' -/
abbrev mm_M (mj L : Nat) (av : List Value) (g : mm_Gg) (I : mm_Is) (v : Option Value) (I' : mm_Is) : Prop := mm_Me mj L av (mm_hp g I) ((0, v), mm_hp g I')
section SX
variable {mi pc np : Nat} {ls st : List Value} {g : mm_Gg} {I : mm_Is} {r : mm_Res}
theorem sx_gr {w i ci k : Nat} {v : Value} {tl : List Nat} (he : mm_code mi pc = some (.getfield w, np, v, ci :: k :: 1 :: tl)) (hf : mm_fr i ci k) (K : mm_Ru mi np ls (.ref (mm_R0 i k) :: st) (mm_hp g I) r) : mm_Ru mi pc ls (.ref i :: st) (mm_hp g I) r :=
  mm_step he rfl rfl hf K
theorem sx_gi {w i ci k : Nat} {v : Value} {tl : List Nat} (he : mm_code mi pc = some (.getfield w, np, v, ci :: k :: 0 :: tl)) (hf : mm_fo i ci) (K : mm_Ru mi np ls (.int (I i k) :: st) (mm_hp g I) r) : mm_Ru mi pc ls (.ref i :: st) (mm_hp g I) r :=
  mm_step he rfl rfl hf K
theorem sx_gb {w i ci k : Nat} {v : Value} {tl : List Nat} (he : mm_code mi pc = some (.getfield w, np, v, ci :: k :: 2 :: tl)) (hf : mm_fo i ci) (K : mm_Ru mi np ls (.int (I i k) :: st) (mm_hp g I) r) : mm_Ru mi pc ls (.ref i :: st) (mm_hp g I) r :=
  mm_step he rfl rfl hf K
theorem sx_pi {w i ci k : Nat} {x : Int32} {v : Value} {tl : List Nat} (he : mm_code mi pc = some (.putfield w, np, v, ci :: k :: 0 :: tl)) (hf : mm_fo i ci) (K : mm_Ru mi np ls st (mm_hp g (va_up I i (upd (I i) k x))) r) : mm_Ru mi pc ls (.int x :: .ref i :: st) (mm_hp g I) r :=
  mm_step he rfl rfl hf K
theorem sx_pb {w i ci k : Nat} {x : Int32} {v : Value} {tl : List Nat} (he : mm_code mi pc = some (.putfield w, np, v, ci :: k :: 2 :: tl)) (hf : mm_fo i ci) (hx : x = 0 ∨ x = 1) (K : mm_Ru mi np ls st (mm_hp g (va_up I i (upd (I i) k x))) r) : mm_Ru mi pc ls (.int x :: .ref i :: st) (mm_hp g I) r :=
  mm_step he rfl rfl ⟨hf, hx⟩ K
theorem mm_fa_ar {i k n j : Nat} (ha : mm_fa i k n) (hj : j < n) : mm_ar (mm_hp g I) i k (nI j) := by
  obtain ⟨h1, h2, h3⟩ := ha
  refine ⟨h1, ?_, ?_⟩
  · show (mm_K0 i).1 = k
    rw [h2]
  · show vp_in (nI j) (mm_K0 i).2
    rw [h2]
    exact vp_in_nI hj (by omega)
theorem sx_ia {i n k : Nat} {v : Value} (he : mm_code mi pc = some (.iaload, np, v, [0])) (ha : mm_fa i 10 n) (hk : k < n) (K : mm_Ru mi np ls (.int (I i k) :: st) (mm_hp g I) r) : mm_Ru mi pc ls (.int (nI k) :: .ref i :: st) (mm_hp g I) r := by
  have hc : (nI k).toNatClampNeg = k := nI_clamp (by have := ha.2.2; omega)
  refine mm_step he rfl rfl (mm_fa_ar ha hk) ?_
  show mm_Ru mi np ls (.int (I i (nI k).toNatClampNeg) :: st) (mm_hp g I) r
  rw [hc]; exact K
theorem sx_ca {i n k : Nat} {v : Value} {a : List Nat} (he : mm_code mi pc = some (.caload, np, v, a)) (ha : mm_fa i 11 n) (hk : k < n) (K : mm_Ru mi np ls (.int (I i k) :: st) (mm_hp g I) r) : mm_Ru mi pc ls (.int (nI k) :: .ref i :: st) (mm_hp g I) r := by
  have hc : (nI k).toNatClampNeg = k := nI_clamp (by have := ha.2.2; omega)
  refine mm_step he rfl rfl (mm_fa_ar ha hk) ?_
  show mm_Ru mi np ls (.int (I i (nI k).toNatClampNeg) :: st) (mm_hp g I) r
  rw [hc]; exact K
theorem sx_is {i n k : Nat} {x : Int32} {v : Value} {a : List Nat} (he : mm_code mi pc = some (.iastore, np, v, a)) (ha : mm_fa i 10 n) (hk : k < n) (K : mm_Ru mi np ls st (mm_hp g (va_up I i (upd (I i) k x))) r) : mm_Ru mi pc ls (.int x :: .int (nI k) :: .ref i :: st) (mm_hp g I) r := by
  have hc : (nI k).toNatClampNeg = k := nI_clamp (by have := ha.2.2; omega)
  refine mm_step he rfl rfl (mm_fa_ar ha hk) ?_
  show mm_Ru mi np ls st (mm_hp g (va_up I i (upd (I i) (nI k).toNatClampNeg x))) r
  rw [hc]; exact K
theorem sx_cs {i n k : Nat} {x : Int32} {v : Value} {a : List Nat} (he : mm_code mi pc = some (.castore, np, v, a)) (ha : mm_fa i 11 n) (hk : k < n) (hx : vp_nar .char x = x) (K : mm_Ru mi np ls st (mm_hp g (va_up I i (upd (I i) k x))) r) : mm_Ru mi pc ls (.int x :: .int (nI k) :: .ref i :: st) (mm_hp g I) r := by
  have hc : (nI k).toNatClampNeg = k := nI_clamp (by have := ha.2.2; omega)
  refine mm_step he rfl rfl ⟨mm_fa_ar ha hk, hx⟩ ?_
  show mm_Ru mi np ls st (mm_hp g (va_up I i (upd (I i) (nI k).toNatClampNeg x))) r
  rw [hc]; exact K
theorem sx_ra {i n k kd : Nat} {v : Value} {a : List Nat} (he : mm_code mi pc = some (.aaload, np, v, a)) (ha : mm_fa i kd n) (h2 : kd = 13 ∨ kd = 14) (hk : k < n) (h0 : mm_R0 i k ≠ 0) (K : mm_Ru mi np ls (.ref (mm_R0 i k) :: st) (mm_hp g I) r) : mm_Ru mi pc ls (.int (nI k) :: .ref i :: st) (mm_hp g I) r := by
  have hc : (nI k).toNatClampNeg = k := nI_clamp (by have := ha.2.2; omega)
  have h0' : mm_R0 i (nI k).toNatClampNeg ≠ 0 := by rw [hc]; exact h0
  have hP : (mm_ar (mm_hp g I) i 13 (nI k) ∨ mm_ar (mm_hp g I) i 14 (nI k)) ∧ mm_R (mm_hp g I) i (nI k).toNatClampNeg ≠ 0 := by
    refine ⟨?_, h0'⟩
    rcases h2 with rfl | rfl
    · exact Or.inl (mm_fa_ar ha hk)
    · exact Or.inr (mm_fa_ar ha hk)
  refine mm_step he rfl rfl hP ?_
  show mm_Ru mi np ls (.ref (mm_R0 i (nI k).toNatClampNeg) :: st) (mm_hp g I) r
  rw [hc]; exact K
theorem sx_inc {i k d : Nat} {n : Int} {x : Int32} (he : mm_code mi pc = some (.iinc i n, np, .int x, [i])) (hl : mm_lget ls i = .int (nI k)) (hp : mm_pre ls i = false) (hi : i < ls.length) (hd : x = nI d) (K : mm_Ru mi np (mm_lset ls i (.int (nI (k + d)))) st (mm_hp g I) r) : mm_Ru mi pc ls st (mm_hp g I) r := by
  subst hd
  refine mm_step he (z := _) rfl ?_ hi ?_
  rotate_left 1
  · show mm_stp _ _ _ _ = some (np, mm_lset ls i (.int (nI k + nI d)), st, mm_hp g I, i < ls.length)
    simp only [mm_stp, mm_inc, hl, hp, cond_false]
  · rw [nI_add]; exact K
end SX
