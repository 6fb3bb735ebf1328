/-! the constructors on lists: runs -/
theorem ev_call_of {n mj na L : Nat} {e : mm_En} {ls st : List Value} (h : ev_call n e ls st = some (mj, na, L)) : ∃ ck aux, mm_isc e ck mj na L aux ∧ na ≤ st.length ∧ ((st.drop na).map Value.category).sum ≤ 8 ∧ (∀ hp, mm_recv ck (aux.headD 99) (st.take na).reverse hp) ∧ (mm_spread (st.take na).reverse).length ≤ L ∧ ∀ v ∈ ls ++ st.drop na, mm_old n v := by
  unfold ev_call at h
  split at h
  · split at h
    · rename_i hs
      obtain ⟨hb, he⟩ := ev_if h
      simp only [Prod.mk.injEq] at he
      obtain ⟨rfl, rfl, rfl⟩ := he
      rw [Bool.and_eq_true, Bool.and_eq_true, Bool.and_eq_true, Bool.and_eq_true, Bool.or_eq_true] at hb
      obtain ⟨⟨⟨⟨h1, h2⟩, h3⟩, h4⟩, h5⟩ := hb
      rcases h1 with h1 | h1
      · have e3 := Nat.eq_of_beq_eq_true h1
        subst e3
        exact ⟨3, _, ⟨rfl, by decide, by decide, by decide, Or.inr (Or.inr ⟨_, rfl⟩)⟩, Nat.le_of_ble_eq_true h2, Nat.le_of_ble_eq_true h3, fun hp => by rw [hs]; trivial, Nat.le_of_ble_eq_true h4, ev_old_of h5⟩
      · have e3 := Nat.eq_of_beq_eq_true h1
        subst e3
        exact ⟨6, _, ⟨rfl, by decide, by decide, by decide, Or.inr (Or.inr ⟨_, rfl⟩)⟩, Nat.le_of_ble_eq_true h2, Nat.le_of_ble_eq_true h3, fun hp => by rw [hs]; trivial, Nat.le_of_ble_eq_true h4, ev_old_of h5⟩
    · cases h
  · cases h
section EV
variable {n0 c0 s0 L : Nat} {K : Nat → Nat × Nat} {R : Nat → Nat → Nat} {I : Nat → Nat → Int32} {xs : Nat → Int32}
def ev_Q (n0 c0 s0 : Nat) (K : Nat → Nat × Nat) (R : Nat → Nat → Nat) (I : Nat → Nat → Int32) (L : Nat) (xs : Nat → Int32) (mi pc : Nat) (ls st : List Value) (d : List ev_C) (w : Nat) (o : ev_S) : Prop :=
  (o.1 = 9999 → mm_Ru mi pc ls st (ev_hp n0 c0 s0 K R I L xs d w) ((0, none), ev_hp n0 c0 s0 K R I L xs o.2.2.2.1 o.2.2.2.2)) ∧ (¬ o.1 = 9999 → ∀ r, mm_Ru mi o.1 o.2.1 o.2.2.1 (ev_hp n0 c0 s0 K R I L xs o.2.2.2.1 o.2.2.2.2) r → mm_Ru mi pc ls st (ev_hp n0 c0 s0 K R I L xs d w) r)
theorem ev_Q_of {mi pc mi' pc' : Nat} {ls ls' st st' : List Value} {d d' : List ev_C} {w w' : Nat} {o : ev_S} (hm : mi = mi') (h : ∀ r, mm_Ru mi' pc' ls' st' (ev_hp n0 c0 s0 K R I L xs d' w') r → mm_Ru mi pc ls st (ev_hp n0 c0 s0 K R I L xs d w) r) (q : ev_Q n0 c0 s0 K R I L xs mi' pc' ls' st' d' w' o) : ev_Q n0 c0 s0 K R I L xs mi pc ls st d w o := by
  subst hm
  exact ⟨fun z => h _ (q.1 z), fun z r x => h _ (q.2 z r x)⟩
theorem ev_ok (hR : n0 = 0 ∨ ∀ i, i < n0 → ∀ k, R i k < n0) : ∀ (n stop : Nat), ¬ stop = 9999 → ∀ (mi pc : Nat) (ls st : List Value) (d : List ev_C) (w : Nat) (o : ev_S), ev n0 stop n mi pc ls st d w = some o → ev_Q n0 c0 s0 K R I L xs mi pc ls st d w o := by
  intro n
  induction n with
  | zero => intro stop _ mi pc ls st d w o h; cases h
  | succ n ih =>
    intro stop hstop mi pc ls st d w o h
    unfold ev at h
    cases hpc : Nat.beq pc stop with
    | true =>
      rw [hpc, cond_true] at h
      cases h
      have e := Nat.eq_of_beq_eq_true hpc
      subst e
      exact ⟨fun z => absurd z hstop, fun _ r x => x⟩
    | false =>
      rw [hpc, cond_false] at h
      split at h
      · cases h
      · rename_i e hcode
        split at h
        · cases h
          exact ⟨fun _ => mm_retv hcode, fun z => absurd rfl z⟩
        · rename_i y x q
          cases hd : decide (y ≤ x) with
          | true =>
            rw [hd, cond_true] at h
            have hyx := of_decide_eq_true hd
            exact ev_Q_of rfl (fun r k => mm_if2 hcode (fun _ => k) (fun z => absurd hyx z)) (ih stop hstop _ _ _ _ _ _ _ h)
          | false =>
            rw [hd, cond_false] at h
            have hyx := of_decide_eq_false hd
            exact ev_Q_of rfl (fun r k => mm_if2 hcode (fun z => absurd z hyx) (fun _ => k)) (ih stop hstop _ _ _ _ _ _ _ h)
        · split at h
          · rename_i mj na L' hcall
            obtain ⟨ck, aux, hi, a1, a2, a3, a4, a5⟩ := ev_call_of hcall
            split at h
            · rename_i ls1 st1 d1 w1 hin
              have q1 := (ih 10000 (by decide) _ _ _ _ _ _ _ hin).1 rfl
              exact ev_Q_of rfl (fun r k => mm_cll hcode hi rfl q1 a1 a2 (a3 _) a4 (Or.inr a5) k) (ih stop hstop _ _ _ _ _ _ _ h)
            · cases h
          · split at h
            · rename_i pc' ls' st' d' w' hst
              obtain ⟨P, b1, b2, b3⟩ := ev_sound (c0 := c0) (s0 := s0) (L := L) (K := K) (I := I) (xs := xs) hR hst
              exact ev_Q_of rfl (fun r k => mm_step hcode b3 b1 b2 k) (ih stop hstop _ _ _ _ _ _ _ h)
            · cases h
end EV
theorem mm_R14 {i k : Nat} (hk : 14 ≤ k) : mm_R0 i k = 0 := by
  have e : ∀ l : List Nat, l.length ≤ 14 → l.getD k 0 = 0 := fun l hl => by rw [List.getD_eq_getElem?_getD, List.getElem?_eq_none (by omega)]; rfl
  unfold mm_R0
  simp only [Bool.cond_eq_ite]
  repeat' split
  all_goals first | rfl | exact e _ (by decide)
theorem mm_bl {i c : Nat} (h : c < i) : Nat.ble i c = false := by
  rw [Bool.eq_false_iff]; intro z; have := Nat.le_of_ble_eq_true z; omega
theorem mm_be {i c : Nat} (h : ¬ i = c) : Nat.beq i c = false := by
  rw [Bool.eq_false_iff]; intro z; exact h (Nat.eq_of_beq_eq_true z)
theorem mm_K61 {i : Nat} (h : 61 ≤ i) : mm_K0 i = (0, 0) := by
  unfold mm_K0
  rw [mm_bl (show 29 < i by omega), cond_false, mm_bl (show 44 < i by omega), cond_false, mm_bl (show 52 < i by omega), cond_false, mm_bl (show 56 < i by omega), cond_false, mm_bl (show 58 < i by omega), cond_false, mm_bl (show 59 < i by omega), cond_false, mm_be (show ¬ i = 60 by omega), cond_false]
theorem mm_R61 {i k : Nat} (h : 61 ≤ i) : mm_R0 i k = 0 := by
  unfold mm_R0
  rw [mm_bl (show 15 < i by omega), cond_false, mm_bl (show 35 < i by omega), cond_false, mm_bl (show 45 < i by omega), cond_false, mm_bl (show 49 < i by omega), cond_false, mm_bl (show 53 < i by omega), cond_false, mm_be (show ¬ i = 57 by omega), cond_false]
