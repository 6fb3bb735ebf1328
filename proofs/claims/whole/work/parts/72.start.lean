/-! the two objects made: the heap of part 30 -/
section EV
variable {L w : Nat} {K : Nat → Nat × Nat} {R : Nat → Nat → Nat} {I I' : Nat → Nat → Int32} {xs : Nat → Int32} {d : List ev_C}
theorem ev_g_out {i : Nat} (h : d.length ≤ i) : ev_g d i = ((0, 0), [], []) := by
  unfold ev_g
  rw [List.getD_eq_getElem?_getD, List.getElem?_eq_none h]
  rfl
theorem ev_h00 : (((0, 0, 0), fun _ => (0, 0), fun _ _ => 0, fun _ _ => 0, fun _ _ => 0, L, xs) : mm_Hp) = ev_hp 0 0 0 K R I L xs [] 0 := by
  refine Prod.ext rfl (Prod.ext ?_ (Prod.ext ?_ (Prod.ext ?_ rfl)))
  · funext i
    show (0, 0) = (bif Nat.ble 0 i then (ev_g [] (i - 0)).1 else K i)
    rw [ev_hi (Nat.zero_le i), cond_true, ev_g_out (Nat.zero_le _)]
  · funext i
    show (fun _ => 0) = (bif Nat.ble 0 i then (fun k => (ev_g [] (i - 0)).2.1.getD k 0) else R i)
    rw [ev_hi (Nat.zero_le i), cond_true, ev_g_out (Nat.zero_le _)]
    rfl
  · funext i
    show (fun _ => 0) = (bif Nat.ble 0 i then (fun k => (ev_g [] (i - 0)).2.2.getD k 0) else I i)
    rw [ev_hi (Nat.zero_le i), cond_true, ev_g_out (Nat.zero_le _)]
    rfl
theorem ev_hB (p : ev_pB d w) : ev_hp 0 0 0 K R I L xs d w = kmm_hp (61, 777, fun _ _ => 0, L, xs) (fun i k => ev_i d i k) := by
  refine Prod.ext ?_ (Prod.ext ?_ (Prod.ext ?_ (Prod.ext ?_ rfl)))
  · show (0 + d.length, 0 + d.length, 0 + w) = (61, 61, 777)
    rw [p.1, p.2.1]
  · funext i
    show (bif Nat.ble 0 i then (ev_g d (i - 0)).1 else K i) = (bif Nat.ble 61 i then (0, 0) else mm_K0 i)
    rw [ev_hi (Nat.zero_le i), cond_true, Nat.sub_zero]
    by_cases c : i < 61
    · rw [ev_lo c, cond_false]; exact (p.2.2.1 i c).1
    · rw [ev_hi (show 61 ≤ i by omega), cond_true, ev_g_out (by rw [p.1]; omega)]
  · funext i
    show (bif Nat.ble 0 i then (fun k => (ev_g d (i - 0)).2.1.getD k 0) else R i) = (fun k => bif Nat.ble 61 i then 0 else mm_R0 i k)
    rw [ev_hi (Nat.zero_le i), cond_true, Nat.sub_zero]
    funext k
    by_cases c : i < 61
    · rw [ev_lo c, cond_false]
      by_cases c2 : k < 14
      · exact (p.2.2.1 i c).2.2 k c2
      · rw [mm_R14 (by omega), List.getD_eq_getElem?_getD, List.getElem?_eq_none (by have := (p.2.2.1 i c).2.1; omega)]; rfl
    · rw [ev_hi (show 61 ≤ i by omega), cond_true, ev_g_out (by rw [p.1]; omega)]; rfl
  · funext i
    show (bif Nat.ble 0 i then (fun k => (ev_g d (i - 0)).2.2.getD k 0) else I i) = (fun k => (ev_g d i).2.2.getD k 0)
    rw [ev_hi (Nat.zero_le i), cond_true, Nat.sub_zero]
theorem ev_hC (hI : ∀ i, 61 ≤ i → I' i = fun _ => 0) : kmm_hp (61, 777, fun _ _ => 0, L, xs) I' = ev_hp 61 61 777 mm_K6 mm_R6 I' L xs [] 0 := by
  refine Prod.ext rfl (Prod.ext ?_ (Prod.ext ?_ (Prod.ext ?_ rfl)))
  · funext i
    show mm_K6 i = (bif Nat.ble 61 i then (ev_g [] (i - 61)).1 else mm_K6 i)
    by_cases c : i < 61
    · rw [ev_lo c, cond_false]
    · unfold mm_K6
      rw [ev_hi (show 61 ≤ i by omega), cond_true, cond_true, ev_g_out (Nat.zero_le _)]
  · funext i
    show mm_R6 i = (bif Nat.ble 61 i then (fun k => (ev_g [] (i - 61)).2.1.getD k 0) else mm_R6 i)
    by_cases c : i < 61
    · rw [ev_lo c, cond_false]
    · rw [ev_hi (show 61 ≤ i by omega), cond_true, ev_g_out (Nat.zero_le _)]
      funext k
      show (bif Nat.ble 61 i then 0 else mm_R0 i k) = _
      rw [ev_hi (show 61 ≤ i by omega)]
      rfl
  · funext i
    show I' i = (bif Nat.ble 61 i then (fun k => (ev_g [] (i - 61)).2.2.getD k 0) else I' i)
    by_cases c : i < 61
    · rw [ev_lo c, cond_false]
    · rw [ev_hi (show 61 ≤ i by omega), cond_true, ev_g_out (Nat.zero_le _), hI i (by omega)]
      rfl
theorem ev_hD (p : ev_pC d w) : ev_hp 61 61 777 mm_K6 mm_R6 I' L xs d w = mm_hp (71, 1590, fun _ _ => 0, L, xs) (fun i => bif Nat.ble 61 i then (fun k => ev_i d (i - 61) k) else I' i) := by
  refine Prod.ext ?_ (Prod.ext ?_ (Prod.ext ?_ (Prod.ext rfl rfl)))
  · show (61 + d.length, 61 + d.length, 777 + w) = (71, 71, 1590)
    rw [p.1, p.2.1]
  · funext i
    show (bif Nat.ble 61 i then (ev_g d (i - 61)).1 else (bif Nat.ble 61 i then (0, 0) else mm_K0 i)) = mm_K0 i
    by_cases c : i < 61
    · rw [ev_lo c, cond_false, cond_false]
    · rw [ev_hi (show 61 ≤ i by omega), cond_true]
      by_cases c2 : i < 71
      · rw [(p.2.2.1 (i - 61) (by omega)).1, show 61 + (i - 61) = i from by omega]
      · rw [ev_g_out (by rw [p.1]; omega), mm_K71 (by omega)]
  · funext i
    show (bif Nat.ble 61 i then (fun k => (ev_g d (i - 61)).2.1.getD k 0) else (fun k => bif Nat.ble 61 i then 0 else mm_R0 i k)) = mm_R0 i
    funext k
    by_cases c : i < 61
    · rw [ev_lo c]; rfl
    · rw [ev_hi (show 61 ≤ i by omega), cond_true]
      show (ev_g d (i - 61)).2.1.getD k 0 = mm_R0 i k
      by_cases c2 : i < 71
      · have e := p.2.2.1 (i - 61) (by omega)
        rw [show 61 + (i - 61) = i from by omega] at e
        by_cases c3 : k < 14
        · exact e.2.2 k c3
        · rw [mm_R14 (by omega), List.getD_eq_getElem?_getD, List.getElem?_eq_none (by have := e.2.1; omega)]; rfl
      · rw [ev_g_out (by rw [p.1]; omega), mm_R71 (by omega)]; rfl
theorem mm_R60 : ∀ i, i < 61 → ∀ k, k < 14 → mm_R0 i k < 61 := by decide +kernel
theorem mm_R61 : ∀ i, i < 61 → ∀ k, mm_R6 i k < 61 := by
  intro i hi k
  show (bif Nat.ble 61 i then 0 else mm_R0 i k) < 61
  rw [ev_lo hi, cond_false]
  by_cases c : k < 14
  · exact mm_R60 i hi k c
  · rw [mm_R14 (by omega)]; decide
theorem ev_new : ∃ I', mm_Me 36 2 [.ref 0] (ev_hp 0 0 0 K R I L xs ev_D0 5) ((0, none), kmm_hp (61, 777, fun _ _ => 0, L, xs) I') ∧ sp_D I' sp_s0 ∧ I' 13 1 = 0 ∧ I' 13 2 = 0 ∧ I' 11 1 = 0 ∧ ∀ i, 61 ≤ i → I' i = fun _ => 0 := by
  obtain ⟨ls, d, w, hB, p⟩ := ev_B
  have q := (ev_ok (n0 := 0) (c0 := 0) (s0 := 0) (L := L) (K := K) (R := R) (I := I) (xs := xs) (Or.inl rfl) 2000 83 (by decide) 36 0 _ _ _ _ _ hB).2 (show ¬ 83 = 9999 by decide)
  obtain ⟨p1, p2, p3, b1, b2, b3, b4, b5, b6, b7, b8, b9⟩ := id p
  obtain ⟨I', hM, hD, hf⟩ := kc_chooseAll (g := (61, 777, fun _ _ => 0, L, xs)) (I := fun i k => ev_i d i k) (σ := sp_s0) ⟨b1, b2, b3, b4, b5, b6⟩
  refine ⟨I', q _ ?_, hD, ?_, ?_, ?_, fun i hi => ?_⟩
  · show mm_Ru 36 83 ls [.ref 0] (ev_hp 0 0 0 K R I L xs d w) _
    rw [ev_hB p]
    exact mm_cll (vo := none) rfl ⟨rfl, by decide, by decide, by decide, Or.inl ⟨_, rfl⟩⟩ rfl hM (Nat.le_of_ble_eq_true rfl) (Nat.le_of_ble_eq_true rfl) (kmm_foc rfl) (Nat.le_of_ble_eq_true rfl) (Or.inl rfl) (mm_retv rfl)
  · rw [hf 13 (by omega)]; exact b7
  · rw [hf 13 (by omega)]; exact b8
  · rw [hf 11 (by omega)]; exact b9
  · rw [hf i (by omega)]
    funext k
    show (ev_g d i).2.2.getD k 0 = 0
    rw [ev_g_out (by rw [p1]; omega)]
    rfl
theorem sp_ok_s0 : sp_ok sp_s0 := by
  have h1 : ∀ f, f < 4 → sp_s0 (4 + f) = -1 := by decide +kernel
  have h2 : ∀ f, f < 4 → sp_s0 (8 + f) = 0 := by decide +kernel
  have h3 : ∀ j, j < 60 → sp_s0 (12 + j) = 0 := by decide +kernel
  refine ⟨fun f hf => Or.inl (h1 f hf), fun f hf => ⟨0, by decide, h2 f hf⟩, ⟨2, by decide, by decide, by decide⟩, ⟨0, by decide, by decide⟩, 0, by decide, by decide, fun j hj => ⟨0, Nat.le_refl _, h3 j hj⟩⟩
theorem ev_J (hD : sp_D I' sp_s0) (h1 : I' 13 1 = 0) (h2 : I' 13 2 = 0) (h3 : I' 11 1 = 0) (p : ev_pC d w) : sp_Jn (fun i => bif Nat.ble 61 i then (fun k => ev_i d (i - 61) k) else I' i) := by
  obtain ⟨p1, p2, p3, b1, b2, b3, b4⟩ := id p
  refine ⟨sp_s0, 0, fun _ => sp_s0, 0, fun _ => 0, sp_C_c (I := I') (fun q hq => ?_) ⟨hD, ⟨h2, by decide, 0, by decide, h1, fun i hi => absurd hi (Nat.not_lt_zero _)⟩, h3, by decide, fun i hi => absurd hi (Nat.not_lt_zero _)⟩, ⟨⟨b1, b2⟩, ⟨b3, by decide, fun i hi => absurd hi (Nat.not_lt_zero _)⟩, b4, fun i hi => absurd hi (Nat.not_lt_zero _)⟩, sp_ok_s0, fun i hi => absurd hi (Nat.not_lt_zero _), by decide, fun i hi => absurd hi (Nat.not_lt_zero _)⟩
  show (bif Nat.ble 61 q then _ else I' q) = I' q
  rw [ev_lo hq]
  rfl
end EV
