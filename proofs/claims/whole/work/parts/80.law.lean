/-- the heap before the law: nothing made, the script at hand -/
def mm_h0 (L : Nat) (xs : Nat → Int32) : mm_Hp := ((0, 0, 0), fun _ => (0, 0), fun _ _ => 0, fun _ _ => 0, fun _ _ => 0, L, xs)
theorem mm_law (L : Nat) (xs : Nat → Int32) (hL : L ≤ 2048) : ∃ h1 : mm_Hp, mm_Ru 174 0 (mm_ent 9 [.ref 1001]) [] (mm_h0 L xs) ((0, some (.int 1)), h1) ∧ mm_c h1 ≤ 601024 ∧ mm_s h1 ≤ 7293034 := by
  obtain ⟨I', hM, hD, h1, h2, h3, hz⟩ := ev_new (K := fun _ => (0, 0)) (R := fun _ _ => 0) (I := fun _ _ => 0) (L := L) (xs := xs)
  obtain ⟨d, w, hC, p⟩ := ev_C1
  have hJ := ev_J hD h1 h2 h3 p
  obtain ⟨q, g', I2, hRu, hq, hc, hs⟩ := l_loop (A := 4 * 71) (B := 4 * 1590) (xs := xs) hL 0 (Nat.zero_le _) 71 1590 (fun _ _ => 0) _ .null .null .null .null hJ (Nat.le_refl _) (Nat.le_refl _)
  subst hq
  refine ⟨mm_hp g' I2, ?_, by show g'.1 ≤ 601024; omega, by show g'.2.1 ≤ 7293034; omega⟩
  rw [show mm_h0 L xs = ev_hp 0 0 0 (fun _ => (0, 0)) (fun _ _ => 0) (fun _ _ => 0) L xs [] 0 from ev_h00]
  refine (ev_ok (Or.inl rfl) 5 4 (by decide) 174 0 _ _ _ _ _ ev_A1).2 (show ¬ 4 = 9999 by decide) _ ?_
  refine mm_cll (vo := none) rfl ⟨rfl, by decide, by decide, by decide, Or.inr (Or.inr ⟨_, rfl⟩)⟩ rfl hM (Nat.le_of_ble_eq_true rfl) (Nat.le_of_ble_eq_true rfl) trivial (Nat.le_of_ble_eq_true rfl) (Or.inr (ev_old_of rfl)) ?_
  show mm_Ru 174 7 (mm_ent 9 [.ref 1001]) [.ref 0] (kmm_hp (61, 777, fun _ _ => 0, L, xs) I') _
  rw [ev_hC hz]
  refine (ev_ok (Or.inr mm_R61) 2000 23 (by decide) 174 7 _ _ _ _ _ hC).2 (show ¬ 23 = 9999 by decide) _ ?_
  show mm_Ru 174 23 _ [] (ev_hp 61 61 777 mm_K6 mm_R6 I' L xs d w) _
  rw [ev_hD p]
  exact hRu
