/-! the constructors: they run on lists, and what the lists say holds of the mini machine -/
abbrev ev_C : Type := (Nat × Nat) × List Nat × List Int32
abbrev ev_S : Type := Nat × List Value × List Value × List ev_C × Nat
def ev_g (d : List ev_C) (k : Nat) : ev_C := d.getD k ((0, 0), [], [])
/-- the heap: what was there below n0, then the list -/
def ev_hp (n0 c0 s0 : Nat) (K : Nat → Nat × Nat) (R : Nat → Nat → Nat) (I : Nat → Nat → Int32) (L : Nat) (xs : Nat → Int32) (d : List ev_C) (w : Nat) : mm_Hp :=
  ((n0 + d.length, c0 + d.length, s0 + w), fun i => bif Nat.ble n0 i then (ev_g d (i - n0)).1 else K i, fun i => bif Nat.ble n0 i then (fun k => (ev_g d (i - n0)).2.1.getD k 0) else R i, fun i => bif Nat.ble n0 i then (fun k => (ev_g d (i - n0)).2.2.getD k 0) else I i, fun _ _ => 0, L, xs)
def ev_fr (n : Nat) (d : List ev_C) (vs : List Value) : Bool :=
  Nat.blt n 1000 && vs.all (fun v => match v with | .ref j => !(Nat.beq j n) | _ => true) && d.all (fun c => c.2.1.all (fun r => !(Nat.beq r n)))
def ev_is (n0 : Nat) (d : List ev_C) (i ci : Nat) : Bool := Nat.ble n0 i && Nat.blt (i - n0) d.length && Nat.beq (ev_g d (i - n0)).1.1 ci
def ev_step (n0 : Nat) (e : mm_En) (ls st : List Value) (d : List ev_C) (w : Nat) : Option ev_S := match e with
  | (ins, np, v, aux) => match ins with
    | .iconst _ => some (np, ls, v :: st, d, w)
    | .bipush _ => some (np, ls, v :: st, d, w)
    | .sipush _ => some (np, ls, v :: st, d, w)
    | .iload_n _ => (match aux with | [i] => (match mm_lget ls i with | .int x => some (np, ls, .int x :: st, d, w) | _ => none) | _ => none)
    | .aload_n _ => (match aux with | [i] => (match mm_lget ls i with | .ref x => some (np, ls, .ref x :: st, d, w) | _ => none) | _ => none)
    | .istore_n _ => (match aux, st with | [i], .int x :: r => (bif !(mm_pre ls i) && Nat.blt i ls.length then some (np, mm_lset ls i (.int x), r, d, w) else none) | _, _ => none)
    | .istore _ => (match aux, st with | [i], .int x :: r => (bif !(mm_pre ls i) && Nat.blt i ls.length then some (np, mm_lset ls i (.int x), r, d, w) else none) | _, _ => none)
    | .astore_n _ => (match aux, st with | [i], .ref x :: r => (bif !(mm_pre ls i) && Nat.blt i ls.length then some (np, mm_lset ls i (.ref x), r, d, w) else none) | _, _ => none)
    | .iinc _ _ => (match aux, v with | [i], .int k => (match mm_lget ls i with | .int x => (bif !(mm_pre ls i) && Nat.blt i ls.length then some (np, mm_lset ls i (.int (x + k)), st, d, w) else none) | _ => none) | _, _ => none)
    | .goto _ => (match aux with | [t] => some (t, ls, st, d, w) | _ => none)
    | .iadd => (match st with | .int y :: .int x :: r => some (np, ls, .int (x + y) :: r, d, w) | _ => none)
    | .dup => (match st with | v :: r => (bif !(mm_two v) then some (np, ls, v :: v :: r, d, w) else none) | _ => none)
    | .new _ => (match aux with | 0 :: ci :: N :: _ => (bif ev_fr (n0 + d.length) d (ls ++ st) then some (np, ls, .ref (n0 + d.length) :: st, d ++ [((ci, N), List.replicate N 0, List.replicate N 0)], w + N) else none) | _ => none)
    | .newarray _ => (match aux, st with | k :: _, .int x :: r => (bif ev_fr (n0 + d.length) d (ls ++ r) && decide (¬ x < 0) && Nat.ble x.toNatClampNeg 1000 then some (np, ls, .ref (n0 + d.length) :: r, d ++ [((k, x.toNatClampNeg), [], List.replicate x.toNatClampNeg 0)], w + x.toNatClampNeg) else none) | _, _ => none)
    | .anewarray _ => (match aux, st with | k :: _, .int x :: r => (bif ev_fr (n0 + d.length) d (ls ++ r) && decide (¬ x < 0) && Nat.ble x.toNatClampNeg 1000 then some (np, ls, .ref (n0 + d.length) :: r, d ++ [((k, x.toNatClampNeg), List.replicate x.toNatClampNeg 0, [])], w + x.toNatClampNeg) else none) | _, _ => none)
    | .getfield _ => (match aux, st with | ci :: k :: 1 :: _, .ref i :: r => (bif ev_is n0 d i ci && !(Nat.beq ((ev_g d (i - n0)).2.1.getD k 0) 0) then some (np, ls, .ref ((ev_g d (i - n0)).2.1.getD k 0) :: r, d, w) else none) | _, _ => none)
    | .putfield _ => (match aux, st with
      | ci :: k :: 1 :: _, .ref j :: .ref i :: r => (bif ev_is n0 d i ci && !(Nat.beq j 0) && Nat.blt k (ev_g d (i - n0)).2.1.length then some (np, ls, r, d.set (i - n0) ((ev_g d (i - n0)).1, (ev_g d (i - n0)).2.1.set k j, (ev_g d (i - n0)).2.2), w) else none)
      | ci :: k :: 0 :: _, .int x :: .ref i :: r => (bif ev_is n0 d i ci && Nat.blt k (ev_g d (i - n0)).2.2.length then some (np, ls, r, d.set (i - n0) ((ev_g d (i - n0)).1, (ev_g d (i - n0)).2.1, (ev_g d (i - n0)).2.2.set k x), w) else none)
      | _, _ => none)
    | .iastore => (match st with
      | .int x :: .int j :: .ref i :: r => (bif ev_is n0 d i 10 && decide (¬ j < 0) && Nat.blt j.toNatClampNeg (ev_g d (i - n0)).1.2 && Nat.blt j.toNatClampNeg (ev_g d (i - n0)).2.2.length then some (np, ls, r, d.set (i - n0) ((ev_g d (i - n0)).1, (ev_g d (i - n0)).2.1, (ev_g d (i - n0)).2.2.set j.toNatClampNeg x), w) else none)
      | _ => none)
    | .aastore => (match st with
      | .ref q :: .int j :: .ref i :: r => (bif (ev_is n0 d i 13 && ev_is n0 d q 2 || ev_is n0 d i 14 && ev_is n0 d q 0) && !(Nat.beq q 0) && decide (¬ j < 0) && Nat.blt j.toNatClampNeg (ev_g d (i - n0)).1.2 && Nat.blt j.toNatClampNeg (ev_g d (i - n0)).2.1.length then some (np, ls, r, d.set (i - n0) ((ev_g d (i - n0)).1, (ev_g d (i - n0)).2.1.set j.toNatClampNeg q, (ev_g d (i - n0)).2.2), w) else none)
      | _ => none)
    | .invokespecial _ => (match aux, st with | 0 :: _ :: _ :: _ :: _, .ref _ :: r => (bif Nat.ble (r.map Value.category).sum 8 then some (np, ls, r, d, w) else none) | _, _ => none)
    | _ => none
theorem ev_g_app {d : List ev_C} {c : ev_C} (k : Nat) : ev_g (d ++ [c]) k = if k = d.length then c else ev_g d k := by
  unfold ev_g
  rw [List.getD_eq_getElem?_getD, List.getD_eq_getElem?_getD, List.getElem?_append]
  by_cases h : k < d.length
  · rw [if_pos h, if_neg (by omega)]
  · rw [if_neg h]
    by_cases h2 : k = d.length
    · rw [if_pos h2, h2, Nat.sub_self]; rfl
    · rw [if_neg h2, List.getElem?_eq_none (by show 1 ≤ k - d.length; omega), List.getElem?_eq_none (by omega)]
theorem ev_g_set {d : List ev_C} {c : ev_C} {i : Nat} (h : i < d.length) (k : Nat) : ev_g (d.set i c) k = if k = i then c else ev_g d k := by
  unfold ev_g
  rw [List.getD_eq_getElem?_getD, List.getD_eq_getElem?_getD, List.getElem?_set]
  by_cases h2 : k = i
  · subst h2
    rw [if_pos rfl, if_pos h, if_pos rfl]; rfl
  · rw [if_neg (fun z => h2 z.symm), if_neg h2]
theorem ev_l_set {α : Type} {l : List α} {a x : α} {i : Nat} (h : i < l.length) (k : Nat) : (l.set i x).getD k a = if k = i then x else l.getD k a := by
  rw [List.getD_eq_getElem?_getD, List.getD_eq_getElem?_getD, List.getElem?_set]
  by_cases h2 : k = i
  · subst h2
    rw [if_pos rfl, if_pos h, if_pos rfl]; rfl
  · rw [if_neg (fun z => h2 z.symm), if_neg h2]
theorem ev_rep {α : Type} (a : α) (n k : Nat) : (List.replicate n a).getD k a = a := by
  rw [List.getD_eq_getElem?_getD, List.getElem?_replicate]
  by_cases h : k < n
  · rw [if_pos h]; rfl
  · rw [if_neg h]; rfl
section EV
variable {n0 c0 s0 L w : Nat} {K : Nat → Nat × Nat} {R : Nat → Nat → Nat} {I : Nat → Nat → Int32} {xs : Nat → Int32} {d : List ev_C}
theorem ev_lo {i n0 : Nat} (h : i < n0) : Nat.ble n0 i = false := by
  rw [Bool.eq_false_iff]; intro z; have := Nat.le_of_ble_eq_true z; omega
theorem ev_hi {i n0 : Nat} (h : n0 ≤ i) : Nat.ble n0 i = true := Nat.ble_eq_true_of_le h
theorem ev_al {k len : Nat} {rs : List Nat} {is : List Int32} (sl : Nat) (hr : ∀ j, rs.getD j 0 = 0) (hi : ∀ j, is.getD j 0 = 0) : mm_al (ev_hp n0 c0 s0 K R I L xs d w) k len sl = ev_hp n0 c0 s0 K R I L xs (d ++ [((k, len), rs, is)]) (w + sl) := by
  have hl : (d ++ [((k, len), rs, is)]).length = d.length + 1 := by rw [List.length_append]; rfl
  unfold ev_hp
  rw [hl]
  unfold mm_al mm_n mm_c mm_s mm_K mm_R mm_I mm_J mm_L mm_X
  dsimp only
  congr 1
  · rw [Nat.add_assoc s0]
    rfl
  congr 1
  · funext i
    by_cases h : i < n0
    · rw [va_up_ne _ _ (by omega), ev_lo h]; rfl
    · rw [ev_hi (by omega), cond_true, ev_g_app]
      by_cases h2 : i = n0 + d.length
      · subst h2; rw [va_up_self, if_pos (by omega)]
      · rw [va_up_ne _ _ h2, if_neg (by omega), ev_hi (by omega)]; rfl
  congr 1
  · funext i
    by_cases h : i < n0
    · rw [va_up_ne _ _ (by omega), ev_lo h]; rfl
    · rw [ev_hi (by omega), cond_true, ev_g_app]
      by_cases h2 : i = n0 + d.length
      · subst h2; rw [va_up_self, if_pos (by omega)]; funext j; exact (hr j).symm
      · rw [va_up_ne _ _ h2, if_neg (by omega), ev_hi (by omega)]; rfl
  congr 1
  · funext i
    by_cases h : i < n0
    · rw [va_up_ne _ _ (by omega), ev_lo h]; rfl
    · rw [ev_hi (by omega), cond_true, ev_g_app]
      by_cases h2 : i = n0 + d.length
      · subst h2; rw [va_up_self, if_pos (by omega)]; funext j; exact (hi j).symm
      · rw [va_up_ne _ _ h2, if_neg (by omega), ev_hi (by omega)]; rfl
  congr 1
  funext i
  by_cases h2 : i = n0 + d.length
  · subst h2; rw [va_up_self]
  · rw [va_up_ne _ _ h2]
theorem ev_sR {i k j : Nat} (hi : n0 ≤ i) (hd : i - n0 < d.length) (hk : k < (ev_g d (i - n0)).2.1.length) : mm_sR (ev_hp n0 c0 s0 K R I L xs d w) (va_up (mm_R (ev_hp n0 c0 s0 K R I L xs d w)) i (va_up (mm_R (ev_hp n0 c0 s0 K R I L xs d w) i) k j)) = ev_hp n0 c0 s0 K R I L xs (d.set (i - n0) ((ev_g d (i - n0)).1, (ev_g d (i - n0)).2.1.set k j, (ev_g d (i - n0)).2.2)) w := by
  unfold ev_hp
  rw [List.length_set]
  unfold mm_sR mm_R
  dsimp only
  congr 1
  congr 1
  · funext q
    by_cases h : q < n0
    · rw [ev_lo h]; rfl
    · rw [ev_hi (by omega), cond_true, cond_true, ev_g_set hd]
      by_cases h2 : q = i
      · subst h2; rw [if_pos rfl]
      · rw [if_neg (by omega)]
  congr 1
  · funext q
    by_cases h : q < n0
    · rw [va_up_ne _ _ (by omega), ev_lo h]; rfl
    · rw [ev_hi (show n0 ≤ q by omega), cond_true, ev_g_set hd]
      by_cases h2 : q = i
      · subst h2
        rw [va_up_self, if_pos rfl, ev_hi hi]
        funext p
        show _ = ((ev_g d (q - n0)).2.1.set k j).getD p 0
        rw [ev_l_set hk]
        by_cases h3 : p = k
        · subst h3; rw [va_up_self, if_pos rfl]
        · rw [va_up_ne _ _ h3, if_neg h3]; rfl
      · rw [va_up_ne _ _ h2, if_neg (by omega), ev_hi (show n0 ≤ q by omega)]; rfl
  congr 1
  funext q
  by_cases h : q < n0
  · rw [ev_lo h]; rfl
  · rw [ev_hi (by omega), cond_true, cond_true, ev_g_set hd]
    by_cases h2 : q = i
    · subst h2; rw [if_pos rfl]
    · rw [if_neg (by omega)]
theorem ev_sI {i k : Nat} {x : Int32} (hi : n0 ≤ i) (hd : i - n0 < d.length) (hk : k < (ev_g d (i - n0)).2.2.length) : mm_sI (ev_hp n0 c0 s0 K R I L xs d w) (va_up (mm_I (ev_hp n0 c0 s0 K R I L xs d w)) i (upd (mm_I (ev_hp n0 c0 s0 K R I L xs d w) i) k x)) = ev_hp n0 c0 s0 K R I L xs (d.set (i - n0) ((ev_g d (i - n0)).1, (ev_g d (i - n0)).2.1, (ev_g d (i - n0)).2.2.set k x)) w := by
  unfold ev_hp
  rw [List.length_set]
  unfold mm_sI mm_I
  dsimp only
  congr 1
  congr 1
  · funext q
    by_cases h : q < n0
    · rw [ev_lo h]; rfl
    · rw [ev_hi (by omega), cond_true, cond_true, ev_g_set hd]
      by_cases h2 : q = i
      · subst h2; rw [if_pos rfl]
      · rw [if_neg (by omega)]
  congr 1
  · funext q
    by_cases h : q < n0
    · rw [ev_lo h]; rfl
    · rw [ev_hi (by omega), cond_true, cond_true, ev_g_set hd]
      by_cases h2 : q = i
      · subst h2; rw [if_pos rfl]
      · rw [if_neg (by omega)]
  congr 1
  funext q
  by_cases h : q < n0
  · rw [va_up_ne _ _ (by omega), ev_lo h]; rfl
  · rw [ev_hi (show n0 ≤ q by omega), cond_true, ev_g_set hd]
    by_cases h2 : q = i
    · subst h2
      rw [va_up_self, if_pos rfl, ev_hi hi]
      funext p
      show upd _ k x p = ((ev_g d (q - n0)).2.2.set k x).getD p 0
      rw [ev_l_set hk]
      by_cases h3 : p = k
      · subst h3; rw [if_pos rfl]; exact if_pos rfl
      · rw [if_neg h3]; exact if_neg h3
    · rw [va_up_ne _ _ h2, if_neg (by omega), ev_hi (show n0 ≤ q by omega)]; rfl
theorem ev_fr_of {ls st : List Value} (hR : n0 = 0 ∨ ∀ i, i < n0 → ∀ k, R i k < n0) (h : ev_fr (n0 + d.length) d (ls ++ st) = true) : mm_fresh ls st (ev_hp n0 c0 s0 K R I L xs d w) := by
  unfold ev_fr at h
  rw [Bool.and_eq_true, Bool.and_eq_true] at h
  obtain ⟨⟨h1, h2⟩, h3⟩ := h
  refine ⟨Nat.lt_of_succ_le (Nat.le_of_ble_eq_true h1), fun v hv j hj hz => ?_, fun i hi k hz => ?_⟩
  · have := List.all_eq_true.1 h2 v hv
    subst hj
    have e : j = n0 + d.length := hz
    rw [e] at this
    simp at this
  · have hi' : i < n0 + d.length := hi
    have hz' : (bif Nat.ble n0 i then (fun k => (ev_g d (i - n0)).2.1.getD k 0) else R i) k = n0 + d.length := hz
    by_cases c : i < n0
    · rw [ev_lo c, cond_false] at hz'
      rcases hR with r | r
      · omega
      · have := r i c k; omega
    · rw [ev_hi (by omega), cond_true] at hz'
      have hmem : ev_g d (i - n0) ∈ d := by
        unfold ev_g
        rw [List.getD_eq_getElem?_getD, List.getElem?_eq_getElem (by omega)]
        exact List.getElem_mem _
      have ha := List.all_eq_true.1 h3 _ hmem
      by_cases ck : k < (ev_g d (i - n0)).2.1.length
      · have hm : (ev_g d (i - n0)).2.1.getD k 0 ∈ (ev_g d (i - n0)).2.1 := by
          rw [List.getD_eq_getElem?_getD, List.getElem?_eq_getElem ck]
          exact List.getElem_mem _
        have := List.all_eq_true.1 ha _ hm
        rw [show (ev_g d (i - n0)).2.1.getD k 0 = n0 + d.length from hz'] at this
        simp at this
      · have : (ev_g d (i - n0)).2.1.getD k 0 = 0 := by
          rw [List.getD_eq_getElem?_getD, List.getElem?_eq_none (by omega)]; rfl
        have hz2 : (ev_g d (i - n0)).2.1.getD k 0 = n0 + d.length := hz'
        omega
theorem ev_is_of {i ci : Nat} (h : ev_is n0 d i ci = true) : n0 ≤ i ∧ i - n0 < d.length ∧ mm_ob (ev_hp n0 c0 s0 K R I L xs d w) i ci := by
  unfold ev_is at h
  rw [Bool.and_eq_true, Bool.and_eq_true] at h
  obtain ⟨⟨h1, h2⟩, h3⟩ := h
  have a1 := Nat.le_of_ble_eq_true h1
  have a2 : i - n0 < d.length := Nat.lt_of_succ_le (Nat.le_of_ble_eq_true h2)
  refine ⟨a1, a2, show i < n0 + d.length by omega, ?_⟩
  show (bif Nat.ble n0 i then (ev_g d (i - n0)).1 else K i).1 = ci
  rw [h1]
  exact Nat.eq_of_beq_eq_true h3
theorem ev_in_of {i : Nat} {j : Int32} (hi : n0 ≤ i) (h1 : decide (¬ j < 0) = true) (h2 : Nat.blt j.toNatClampNeg (ev_g d (i - n0)).1.2 = true) : vp_in j (mm_K (ev_hp n0 c0 s0 K R I L xs d w) i).2 := by
  show ¬ (j < 0 ∨ (bif Nat.ble n0 i then (ev_g d (i - n0)).1 else K i).2 ≤ j.toNatClampNeg)
  rw [ev_hi hi, cond_true]
  have a := of_decide_eq_true h1
  have b : j.toNatClampNeg < (ev_g d (i - n0)).1.2 := Nat.lt_of_succ_le (Nat.le_of_ble_eq_true h2)
  rintro (z | z)
  · exact a z
  · omega
end EV
