/-- the heap before the law: nothing made, the script at hand -/
def mm_h0 (L : Nat) (xs : Nat → Int32) : mm_Hp := ((0, 0, 0), fun _ => (0, 0), fun _ _ => 0, fun _ _ => 0, fun _ _ => 0, L, xs)
theorem mm_law (L : Nat) (xs : Nat → Int32) (hL : L ≤ 260) : ∃ h1 : mm_Hp, mm_Ru 77 0 (mm_ent 13 [.ref 1001]) [] (mm_h0 L xs) ((0, some (.int 1)), h1) ∧ mm_c h1 ≤ 600130 ∧ mm_s h1 ≤ 7301080 := by
  obtain ⟨I', hM, hD, h1, h2, h3⟩ := ev_new (K := fun _ => (0, 0)) (R := fun _ _ => 0) (I := fun _ _ => 0) (L := L) (xs := xs)
  obtain ⟨q, g', I2, hRu, hq, hc, hs⟩ := l_start (J := fun _ _ => 0) (xs := xs) hL (ev_J hD h1 h2 h3)
  subst hq
  refine ⟨mm_hp g' I2, ?_, by show g'.1 ≤ 600130; omega, by show g'.2.1 ≤ 7301080; omega⟩
  rw [show mm_h0 L xs = ev_hp 0 0 0 (fun _ => (0, 0)) (fun _ _ => 0) (fun _ _ => 0) L xs [] 0 from ev_h00]
  refine (ev_ok (Or.inl rfl) 5 4 (by decide) 77 0 _ _ _ _ _ ev_A1).2 (show ¬ 4 = 9999 by decide) _ ?_
  refine mm_cll (vo := none) rfl ⟨rfl, by decide, by decide, by decide, Or.inr (Or.inr ⟨_, rfl⟩)⟩ rfl hM (Nat.le_of_ble_eq_true rfl) (Nat.le_of_ble_eq_true rfl) trivial (Nat.le_of_ble_eq_true rfl) (Or.inr (ev_old_of rfl)) ?_
  exact hRu
