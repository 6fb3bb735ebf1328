/-! the two objects made: the heap of part 30 -/
section EV
variable {L w : Nat} {K : Nat → Nat × Nat} {R : Nat → Nat → Nat} {I I' : Nat → Nat → Int32} {xs : Nat → Int32} {d : List ev_C}
theorem ev_g_out {i : Nat} (h : d.length ≤ i) : ev_g d i = ((0, 0), [], []) := by
  unfold ev_g
  rw [List.getD_eq_getElem?_getD, List.getElem?_eq_none h]
  rfl
theorem ev_h00 : (((0, 0, 0), fun _ => (0, 0), fun _ _ => 0, fun _ _ => 0, fun _ _ => 0, L, xs) : mm_Hp) = ev_hp 0 0 0 K R I L xs [] 0 := by
  refine Prod.ext rfl (Prod.ext ?_ (Prod.ext ?_ (Prod.ext ?_ rfl)))
  · funext i
    show (0, 0) = (bif Nat.ble 0 i then (ev_g [] (i - 0)).1 else K i)
    rw [ev_hi (Nat.zero_le i), cond_true, ev_g_out (Nat.zero_le _)]
  · funext i
    show (fun _ => 0) = (bif Nat.ble 0 i then (fun k => (ev_g [] (i - 0)).2.1.getD k 0) else R i)
    rw [ev_hi (Nat.zero_le i), cond_true, ev_g_out (Nat.zero_le _)]
    rfl
  · funext i
    show (fun _ => 0) = (bif Nat.ble 0 i then (fun k => (ev_g [] (i - 0)).2.2.getD k 0) else I i)
    rw [ev_hi (Nat.zero_le i), cond_true, ev_g_out (Nat.zero_le _)]
    rfl
theorem ev_hB (p : ev_pB d w) : ev_hp 0 0 0 K R I L xs d w = mm_hp (61, 777, fun _ _ => 0, L, xs) (fun i k => ev_i d i k) := by
  refine Prod.ext ?_ (Prod.ext ?_ (Prod.ext ?_ (Prod.ext ?_ rfl)))
  · show (0 + d.length, 0 + d.length, 0 + w) = (61, 61, 777)
    rw [p.1, p.2.1]
  · funext i
    show (bif Nat.ble 0 i then (ev_g d (i - 0)).1 else K i) = mm_K0 i
    rw [ev_hi (Nat.zero_le i), cond_true, Nat.sub_zero]
    by_cases c : i < 61
    · exact (p.2.2.1 i c).1
    · rw [ev_g_out (by rw [p.1]; omega), mm_K61 (by omega)]
  · funext i
    show (bif Nat.ble 0 i then (fun k => (ev_g d (i - 0)).2.1.getD k 0) else R i) = mm_R0 i
    rw [ev_hi (Nat.zero_le i), cond_true, Nat.sub_zero]
    funext k
    by_cases c : i < 61
    · by_cases c2 : k < 14
      · exact (p.2.2.1 i c).2.2 k c2
      · rw [mm_R14 (by omega), List.getD_eq_getElem?_getD, List.getElem?_eq_none (by have := (p.2.2.1 i c).2.1; omega)]; rfl
    · rw [ev_g_out (by rw [p.1]; omega), mm_R61 (by omega)]; rfl
  · funext i
    show (bif Nat.ble 0 i then (fun k => (ev_g d (i - 0)).2.2.getD k 0) else I i) = (fun k => (ev_g d i).2.2.getD k 0)
    rw [ev_hi (Nat.zero_le i), cond_true, Nat.sub_zero]
theorem ev_new : ∃ I', mm_Me 26 2 [.ref 0] (ev_hp 0 0 0 K R I L xs ev_D0 5) ((0, none), mm_hp (61, 777, fun _ _ => 0, L, xs) I') ∧ sp_D I' sp_s0 ∧ I' 13 1 = 0 ∧ I' 13 2 = 0 ∧ I' 11 1 = 0 := by
  obtain ⟨ls, d, w, hB, p⟩ := ev_B
  have q := (ev_ok (n0 := 0) (c0 := 0) (s0 := 0) (L := L) (K := K) (R := R) (I := I) (xs := xs) (Or.inl rfl) 2000 83 (by decide) 26 0 _ _ _ _ _ hB).2 (show ¬ 83 = 9999 by decide)
  obtain ⟨p1, p2, p3, b1, b2, b3, b4, b5, b6, b7, b8, b9⟩ := id p
  obtain ⟨I', hM, hD, hf⟩ := c_chooseAll (g := (61, 777, fun _ _ => 0, L, xs)) (I := fun i k => ev_i d i k) (σ := sp_s0) ⟨b1, b2, b3, b4, b5, b6⟩
  refine ⟨I', q _ ?_, hD, ?_, ?_, ?_⟩
  · show mm_Ru 26 83 ls [.ref 0] (ev_hp 0 0 0 K R I L xs d w) _
    rw [ev_hB p]
    exact mm_cll (vo := none) rfl ⟨rfl, by decide, by decide, by decide, Or.inl ⟨_, rfl⟩⟩ rfl hM (Nat.le_of_ble_eq_true rfl) (Nat.le_of_ble_eq_true rfl) (mm_foc rfl) (Nat.le_of_ble_eq_true rfl) (Or.inl rfl) (mm_retv rfl)
  · rw [hf 13 (by omega)]; exact b7
  · rw [hf 13 (by omega)]; exact b8
  · rw [hf 11 (by omega)]; exact b9
theorem sp_ok_s0 : sp_ok sp_s0 := by
  have h1 : ∀ f, f < 4 → sp_s0 (4 + f) = -1 := by decide +kernel
  have h2 : ∀ f, f < 4 → sp_s0 (8 + f) = 0 := by decide +kernel
  have h3 : ∀ j, j < 60 → sp_s0 (12 + j) = 0 := by decide +kernel
  refine ⟨fun f hf => Or.inl (h1 f hf), fun f hf => ⟨0, by decide, h2 f hf⟩, ⟨2, by decide, by decide, by decide⟩, ⟨0, by decide, by decide⟩, 0, by decide, by decide, fun j hj => ⟨0, Nat.le_refl _, h3 j hj⟩⟩
theorem ev_J (hD : sp_D I' sp_s0) (h1 : I' 13 1 = 0) (h2 : I' 13 2 = 0) (h3 : I' 11 1 = 0) : sp_iv 0 I' sp_s0 0 (fun _ => sp_s0) :=
  ⟨⟨0, fun _ => 0, hD, ⟨h2, by decide, 0, by decide, h1, fun i hi => absurd hi (Nat.not_lt_zero _)⟩, h3, by decide, fun i hi => absurd hi (Nat.not_lt_zero _)⟩, ⟨sp_ok_s0, 0, Nat.le_refl _, by decide⟩, fun i hi => absurd hi (Nat.not_lt_zero _)⟩
end EV
/-- from the object made to the loop -/
theorem l_start {L n : Nat} {J : Nat → Nat → Int64} {xs : Nat → Int32} {I : mm_Is} {σ : sp_St} {ps : Nat → sp_St} (hL : L ≤ 260) (hi : sp_iv 0 I σ n ps) : mm_W 77 7 [.ref 1001, .null, .null, .null, .null, .null, .null, .null, .null, .null, .null, .null, .null] [.ref 0] (61, 777, J, L, xs) I (law_F 91 957) := by
  have hd : nI L / 3 = nI (L / 3) := p_div (n := 3) (by omega) (by decide)
  refine w_st rfl rfl rfl (Nat.le_of_ble_eq_true rfl) ?_
  refine w_st rfl rfl rfl trivial ?_
  refine w_st rfl rfl rfl (Nat.le_of_ble_eq_true rfl) ?_
  refine w_st rfl rfl rfl trivial ?_
  refine w_st rfl rfl rfl rfl ?_
  refine w_st rfl rfl rfl trivial ?_
  refine w_idiv rfl (by decide) ?_
  refine w_hd (hd) ?_
  refine w_st rfl rfl rfl trivial ?_
  refine w_n_le (a := L / 3) (b := 30) rfl (by first | decide | omega) (by first | decide | omega) (by first | rfl | assumption | (simp only [← nI_add, ← nI_mul]; rfl)) (by first | rfl | assumption | (simp only [← nI_add, ← nI_mul]; rfl)) (fun c => ?_) (fun c => ?_)
  · skip
    refine w_st rfl rfl rfl trivial ?_
    refine w_st rfl rfl rfl rfl ?_
    refine w_st rfl rfl rfl trivial ?_
    refine w_idiv rfl (by decide) ?_
    refine w_hd (hd) ?_
    refine w_st rfl rfl rfl (Nat.le_of_ble_eq_true rfl) ?_
    refine w_st rfl rfl rfl trivial ?_
    refine w_st rfl rfl rfl (Nat.le_of_ble_eq_true rfl) ?_
    exact l_loop (T := L / 3) hL c (by omega) 0 (Nat.zero_le _) _ _ _ _ _ _ _ _ _ _ _ _ _ _ _ hi (Nat.le_refl _) (Nat.le_refl _)
  · skip
    refine w_st rfl rfl rfl trivial ?_
    refine w_st rfl rfl rfl trivial ?_
    refine w_st rfl rfl rfl (Nat.le_of_ble_eq_true rfl) ?_
    refine w_st rfl rfl rfl trivial ?_
    refine w_st rfl rfl rfl (Nat.le_of_ble_eq_true rfl) ?_
    exact l_loop (T := 30) hL (Nat.le_refl _) (by omega) 0 (Nat.zero_le _) _ _ _ _ _ _ _ _ _ _ _ _ _ _ _ hi (Nat.le_refl _) (Nat.le_refl _)
