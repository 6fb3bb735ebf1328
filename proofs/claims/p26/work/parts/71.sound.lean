/-! the constructors on lists: soundness -/
theorem ev_if {α : Type} {b : Bool} {x y : α} (h : (bif b then some x else none) = some y) : b = true ∧ x = y := by
  cases b
  · cases h
  · exact ⟨rfl, Option.some.inj h⟩
theorem ev_blt {a b : Nat} (h : Nat.blt a b = true) : a < b := Nat.lt_of_succ_le (Nat.le_of_ble_eq_true h)
section EV
variable {n0 c0 s0 L w : Nat} {K : Nat → Nat × Nat} {R : Nat → Nat → Nat} {I : Nat → Nat → Int32} {xs : Nat → Int32} {d : List ev_C} {np i : Nat} {v : Value} {ls st r tl' : List Value} {tl : List Nat}
theorem s_new {ci N : Nat} {q : Nat} : mm_stp (.new q, np, v, 0 :: ci :: N :: tl) ls st (ev_hp n0 c0 s0 K R I L xs d w) = some (np, ls, .ref (n0 + d.length) :: st, ev_hp n0 c0 s0 K R I L xs (d ++ [((ci, N), List.replicate N 0, List.replicate N 0)]) (w + N), mm_fresh ls st (ev_hp n0 c0 s0 K R I L xs d w)) := by
  rw [← ev_al N (ev_rep 0 N) (ev_rep 0 N)]
  rfl
theorem s_nar {k : Nat} {x : Int32} {rs : List Nat} {is : List Int32} (hr : ∀ j, rs.getD j 0 = 0) (hi : ∀ j, is.getD j 0 = 0) : mm_nar np (k :: tl) ls (.int x :: r) (ev_hp n0 c0 s0 K R I L xs d w) = some (np, ls, .ref (n0 + d.length) :: r, ev_hp n0 c0 s0 K R I L xs (d ++ [((k, x.toNatClampNeg), rs, is)]) (w + x.toNatClampNeg), ¬ x < 0 ∧ x.toNatClampNeg ≤ 1000 ∧ mm_fresh ls r (ev_hp n0 c0 s0 K R I L xs d w)) := by
  rw [← ev_al x.toNatClampNeg hr hi]
  rfl
theorem s_gf {q ci k i : Nat} (hi : n0 ≤ i) : mm_stp (.getfield q, np, v, ci :: k :: 1 :: tl) ls (.ref i :: r) (ev_hp n0 c0 s0 K R I L xs d w) = some (np, ls, .ref ((ev_g d (i - n0)).2.1.getD k 0) :: r, ev_hp n0 c0 s0 K R I L xs d w, mm_ob (ev_hp n0 c0 s0 K R I L xs d w) i ci ∧ (ev_g d (i - n0)).2.1.getD k 0 ≠ 0) := by
  have e : mm_R (ev_hp n0 c0 s0 K R I L xs d w) i k = (ev_g d (i - n0)).2.1.getD k 0 := by
    show (bif Nat.ble n0 i then (fun k => (ev_g d (i - n0)).2.1.getD k 0) else R i) k = _
    rw [ev_hi hi]; rfl
  rw [← e]
  rfl
theorem s_pr {q ci k i j : Nat} (hi : n0 ≤ i) (hd : i - n0 < d.length) (hk : k < (ev_g d (i - n0)).2.1.length) : mm_stp (.putfield q, np, v, ci :: k :: 1 :: tl) ls (.ref j :: .ref i :: r) (ev_hp n0 c0 s0 K R I L xs d w) = some (np, ls, r, ev_hp n0 c0 s0 K R I L xs (d.set (i - n0) ((ev_g d (i - n0)).1, (ev_g d (i - n0)).2.1.set k j, (ev_g d (i - n0)).2.2)) w, mm_ob (ev_hp n0 c0 s0 K R I L xs d w) i ci ∧ j ≠ 0) := by
  rw [← ev_sR hi hd hk]
  rfl
theorem s_pi {q ci k i : Nat} {x : Int32} (hi : n0 ≤ i) (hd : i - n0 < d.length) (hk : k < (ev_g d (i - n0)).2.2.length) : mm_stp (.putfield q, np, v, ci :: k :: 0 :: tl) ls (.int x :: .ref i :: r) (ev_hp n0 c0 s0 K R I L xs d w) = some (np, ls, r, ev_hp n0 c0 s0 K R I L xs (d.set (i - n0) ((ev_g d (i - n0)).1, (ev_g d (i - n0)).2.1, (ev_g d (i - n0)).2.2.set k x)) w, mm_ob (ev_hp n0 c0 s0 K R I L xs d w) i ci) := by
  rw [← ev_sI hi hd hk]
  rfl
theorem s_ias {i : Nat} {x j : Int32} (hi : n0 ≤ i) (hd : i - n0 < d.length) (hk : j.toNatClampNeg < (ev_g d (i - n0)).2.2.length) : mm_ias np ls (.int x :: .int j :: .ref i :: r) (ev_hp n0 c0 s0 K R I L xs d w) = some (np, ls, r, ev_hp n0 c0 s0 K R I L xs (d.set (i - n0) ((ev_g d (i - n0)).1, (ev_g d (i - n0)).2.1, (ev_g d (i - n0)).2.2.set j.toNatClampNeg x)) w, mm_ar (ev_hp n0 c0 s0 K R I L xs d w) i 10 j) := by
  rw [← ev_sI hi hd hk]
  rfl
theorem s_aas {i q : Nat} {j : Int32} (hi : n0 ≤ i) (hd : i - n0 < d.length) (hk : j.toNatClampNeg < (ev_g d (i - n0)).2.1.length) : mm_aas np ls (.ref q :: .int j :: .ref i :: r) (ev_hp n0 c0 s0 K R I L xs d w) = some (np, ls, r, ev_hp n0 c0 s0 K R I L xs (d.set (i - n0) ((ev_g d (i - n0)).1, (ev_g d (i - n0)).2.1.set j.toNatClampNeg q, (ev_g d (i - n0)).2.2)) w, (mm_ar (ev_hp n0 c0 s0 K R I L xs d w) i 13 j ∧ mm_ob (ev_hp n0 c0 s0 K R I L xs d w) q 2 ∨ mm_ar (ev_hp n0 c0 s0 K R I L xs d w) i 14 j ∧ mm_ob (ev_hp n0 c0 s0 K R I L xs d w) q 0) ∧ q ≠ 0) := by
  rw [← ev_sR hi hd hk]
  rfl
theorem ev_ar_of {i k : Nat} {j : Int32} (h : ev_is n0 d i k = true) (h1 : decide (¬ j < 0) = true) (h2 : Nat.blt j.toNatClampNeg (ev_g d (i - n0)).1.2 = true) : mm_ar (ev_hp n0 c0 s0 K R I L xs d w) i k j := by
  have a := ev_is_of (c0 := c0) (s0 := s0) (L := L) (w := w) (K := K) (R := R) (I := I) (xs := xs) h
  exact ⟨a.2.2.1, a.2.2.2, ev_in_of a.1 h1 h2⟩
set_option maxHeartbeats 4000000 in
theorem ev_sound {e : mm_En} {o : ev_S} (hR : n0 = 0 ∨ ∀ i, i < n0 → ∀ k, R i k < n0) (h : ev_step n0 e ls st d w = some o) : ∃ P, mm_stp e ls st (ev_hp n0 c0 s0 K R I L xs d w) = some (o.1, o.2.1, o.2.2.1, ev_hp n0 c0 s0 K R I L xs o.2.2.2.1 o.2.2.2.2, P) ∧ P ∧ mm_pl e = true := by
  obtain ⟨ins, np, v, aux⟩ := e
  unfold ev_step at h
  dsimp only at h
  split at h
  · cases h; exact ⟨_, rfl, trivial, rfl⟩
  · cases h; exact ⟨_, rfl, trivial, rfl⟩
  · cases h; exact ⟨_, rfl, trivial, rfl⟩
  · split at h
    · split at h
      · cases h; refine ⟨True, ?_, trivial, rfl⟩; simp only [mm_stp, mm_ldI, *]
      · cases h
    · cases h
  · split at h
    · split at h
      · cases h; refine ⟨True, ?_, trivial, rfl⟩; simp only [mm_stp, mm_ldA, *]
      · cases h
    · cases h
  · split at h
    · obtain ⟨hb, he⟩ := ev_if h
      cases he
      rw [Bool.and_eq_true, Bool.not_eq_true'] at hb
      refine ⟨_, ?_, ev_blt hb.2, rfl⟩
      simp only [mm_stp, mm_stI, hb.1, cond_false]
    · cases h
  · split at h
    · obtain ⟨hb, he⟩ := ev_if h
      cases he
      rw [Bool.and_eq_true, Bool.not_eq_true'] at hb
      refine ⟨_, ?_, ev_blt hb.2, rfl⟩
      simp only [mm_stp, mm_stI, hb.1, cond_false]
    · cases h
  · split at h
    · obtain ⟨hb, he⟩ := ev_if h
      cases he
      rw [Bool.and_eq_true, Bool.not_eq_true'] at hb
      refine ⟨_, ?_, ev_blt hb.2, rfl⟩
      simp only [mm_stp, mm_stA, hb.1, cond_false]
    · cases h
  · split at h
    · split at h
      · obtain ⟨hb, he⟩ := ev_if h
        cases he
        rw [Bool.and_eq_true, Bool.not_eq_true'] at hb
        refine ⟨_, ?_, ev_blt hb.2, rfl⟩
        simp only [mm_stp, mm_inc, hb.1, cond_false, *]
      · cases h
    · cases h
  · split at h
    · cases h; exact ⟨_, rfl, trivial, rfl⟩
    · cases h
  · split at h
    · cases h; exact ⟨_, rfl, trivial, rfl⟩
    · cases h
  · split at h
    · obtain ⟨hb, he⟩ := ev_if h
      cases he
      rw [Bool.not_eq_true'] at hb
      refine ⟨_, ?_, trivial, rfl⟩
      simp only [mm_stp, mm_dup, hb, cond_false]
    · cases h
  · split at h
    · obtain ⟨hb, he⟩ := ev_if h
      cases he
      exact ⟨_, s_new, ev_fr_of hR hb, rfl⟩
    · cases h
  · split at h
    · obtain ⟨hb, he⟩ := ev_if h
      cases he
      rw [Bool.and_eq_true, Bool.and_eq_true] at hb
      exact ⟨_, s_nar (tl := []) (fun _ => rfl) (ev_rep 0 _), ⟨of_decide_eq_true hb.1.2, Nat.le_of_ble_eq_true hb.2, ev_fr_of hR hb.1.1⟩, rfl⟩
    · cases h
  · split at h
    · obtain ⟨hb, he⟩ := ev_if h
      cases he
      rw [Bool.and_eq_true, Bool.and_eq_true] at hb
      exact ⟨_, s_nar (tl := []) (ev_rep 0 _) (fun _ => rfl), ⟨of_decide_eq_true hb.1.2, Nat.le_of_ble_eq_true hb.2, ev_fr_of hR hb.1.1⟩, rfl⟩
    · cases h
  · split at h
    · obtain ⟨hb, he⟩ := ev_if h
      cases he
      rw [Bool.and_eq_true, Bool.not_eq_true'] at hb
      have a := ev_is_of (c0 := c0) (s0 := s0) (L := L) (w := w) (K := K) (R := R) (I := I) (xs := xs) hb.1
      exact ⟨_, s_gf a.1, ⟨a.2.2, fun z => by rw [z] at hb; exact absurd hb.2 (by decide)⟩, rfl⟩
    · cases h
  · split at h
    · obtain ⟨hb, he⟩ := ev_if h
      cases he
      rw [Bool.and_eq_true, Bool.and_eq_true, Bool.not_eq_true'] at hb
      have a := ev_is_of (c0 := c0) (s0 := s0) (L := L) (w := w) (K := K) (R := R) (I := I) (xs := xs) hb.1.1
      exact ⟨_, s_pr a.1 a.2.1 (ev_blt hb.2), ⟨a.2.2, fun z => by rw [z] at hb; exact absurd hb.1.2 (by decide)⟩, rfl⟩
    · obtain ⟨hb, he⟩ := ev_if h
      cases he
      rw [Bool.and_eq_true] at hb
      have a := ev_is_of (c0 := c0) (s0 := s0) (L := L) (w := w) (K := K) (R := R) (I := I) (xs := xs) hb.1
      exact ⟨_, s_pi a.1 a.2.1 (ev_blt hb.2), a.2.2, rfl⟩
    · cases h
  · split at h
    · obtain ⟨hb, he⟩ := ev_if h
      cases he
      rw [Bool.and_eq_true, Bool.and_eq_true, Bool.and_eq_true] at hb
      have a := ev_is_of (c0 := c0) (s0 := s0) (L := L) (w := w) (K := K) (R := R) (I := I) (xs := xs) hb.1.1.1
      exact ⟨_, s_ias a.1 a.2.1 (ev_blt hb.2), ev_ar_of hb.1.1.1 hb.1.1.2 hb.1.2, rfl⟩
    · cases h
  · split at h
    · obtain ⟨hb, he⟩ := ev_if h
      cases he
      rw [Bool.and_eq_true, Bool.and_eq_true, Bool.and_eq_true, Bool.and_eq_true, Bool.or_eq_true, Bool.and_eq_true, Bool.and_eq_true, Bool.not_eq_true'] at hb
      obtain ⟨⟨⟨⟨h1, h2⟩, h3⟩, h4⟩, h5⟩ := hb
      rcases h1 with ⟨h1, h6⟩ | ⟨h1, h6⟩
      · have a := ev_is_of (c0 := c0) (s0 := s0) (L := L) (w := w) (K := K) (R := R) (I := I) (xs := xs) h1
        have b := ev_is_of (c0 := c0) (s0 := s0) (L := L) (w := w) (K := K) (R := R) (I := I) (xs := xs) h6
        exact ⟨_, s_aas a.1 a.2.1 (ev_blt h5), ⟨Or.inl ⟨ev_ar_of h1 h3 h4, b.2.2⟩, fun z => by rw [z] at h2; exact absurd h2 (by decide)⟩, rfl⟩
      · have a := ev_is_of (c0 := c0) (s0 := s0) (L := L) (w := w) (K := K) (R := R) (I := I) (xs := xs) h1
        have b := ev_is_of (c0 := c0) (s0 := s0) (L := L) (w := w) (K := K) (R := R) (I := I) (xs := xs) h6
        exact ⟨_, s_aas a.1 a.2.1 (ev_blt h5), ⟨Or.inr ⟨ev_ar_of h1 h3 h4, b.2.2⟩, fun z => by rw [z] at h2; exact absurd h2 (by decide)⟩, rfl⟩
    · cases h
  · split at h
    · obtain ⟨hb, he⟩ := ev_if h
      cases he
      exact ⟨_, rfl, Nat.le_of_ble_eq_true hb, rfl⟩
    · cases h
  · cases h
end EV
def ev_old (n : Nat) (vs : List Value) : Bool := vs.all (fun v => match v with | .ref j => Nat.blt j n || Nat.ble 1000 j | _ => true)
theorem ev_old_of {n : Nat} {vs : List Value} (h : ev_old n vs = true) : ∀ v ∈ vs, mm_old n v := by
  intro v hv j hj
  subst hj
  have := List.all_eq_true.1 h _ hv
  have e : (Nat.blt j n || Nat.ble 1000 j) = true := this
  rw [Bool.or_eq_true] at e
  exact e.imp ev_blt Nat.le_of_ble_eq_true
/-- a call of a constructor -/
def ev_call (n : Nat) (e : mm_En) (ls st : List Value) : Option (Nat × Nat × Nat) := match e with
  | (.invokespecial _, _, _, ck :: mj :: na :: L :: _) => (match (st.take na).reverse with
    | .ref _ :: _ => (bif (Nat.beq ck 3 || Nat.beq ck 6) && Nat.ble na st.length && Nat.ble ((st.drop na).map Value.category).sum 8 && Nat.ble (mm_spread (st.take na).reverse).length L && ev_old n (ls ++ st.drop na) then some (mj, na, L) else none)
    | _ => none)
  | _ => none
/-- at most so many steps: to the method's end (9999) or to a place 'stop' -/
def ev (n0 stop : Nat) : Nat → Nat → Nat → List Value → List Value → List ev_C → Nat → Option ev_S
  | 0, _, _, _, _, _, _ => none
  | n + 1, mi, pc, ls, st, d, w => bif Nat.beq pc stop then some (pc, ls, st, d, w) else match mm_code mi pc with
    | none => none
    | some e => (match e, st with
      | (.return_, _, _, _), [] => some (9999, [], [], d, w)
      | (.if_icmp .ge _, np, _, [t]), .int y :: .int x :: q => (bif decide (y ≤ x) then ev n0 stop n mi t ls q d w else ev n0 stop n mi np ls q d w)
      | e, st => (match ev_call (n0 + d.length) e ls st with
        | some (mj, na, L) => (match ev n0 10000 n mj 0 (mm_ent L (st.take na).reverse) [] d w with
          | some (9999, _, _, d', w') => ev n0 stop n mi e.2.1 ls (st.drop na) d' w'
          | _ => none)
        | none => (match ev_step n0 e ls st d w with
          | some (pc', ls', st', d', w') => ev n0 stop n mi pc' ls' st' d' w'
          | none => none)))
