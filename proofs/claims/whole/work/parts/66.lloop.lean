/-! the law's loop -/
def law_F (A B : Nat) : mm_Ph := fun q g' _ => q = (0, some (.int 1)) ∧ 4 * g'.1 ≤ A + 2048 ∧ 4 * g'.2.1 ≤ B + 6 * 2048
theorem sp_and31 (x : Int32) : ∃ k, k < 32 ∧ x &&& 31 = nI k := by
  refine ⟨(x &&& 31).toBitVec.toNat, ?_, ?_⟩
  · rw [Int32.toBitVec_and, BitVec.toNat_and]
    exact Nat.lt_of_le_of_lt Nat.and_le_right (by decide)
  · apply Int32.toBitVec_inj.1
    show (x &&& 31).toBitVec = BitVec.ofNat 32 (x &&& 31).toBitVec.toNat
    rw [BitVec.ofNat_toNat, BitVec.setWidth_eq]
theorem law_le {i L : Nat} (hi : i ≤ 4096) (hL : L ≤ 2048) : nI L - 4 < nI i ↔ L < i + 4 := by
  by_cases c : 4 ≤ L
  · rw [show (4 : Int32) = nI 4 from rfl, nI_sub c, nI_ltI (by omega) (by omega)]
    omega
  · have h0 : nI L - 4 < 0 := by
      have : L = 0 ∨ L = 1 ∨ L = 2 ∨ L = 3 := by omega
      rcases this with rfl | rfl | rfl | rfl <;> decide
    exact ⟨fun _ => by omega, fun _ => Int32.lt_of_lt_of_le h0 (nI_pos' (by omega))⟩
section SM
variable {L A B : Nat} {xs : Nat → Int32}
/-- the law's loop -/
theorem l_loop (hL : L ≤ 2048) : ∀ t, t ≤ L / 4 → law_H L xs A B (4 * t) (law_F A B) := by
  refine mm_dn (L / 4) ?_ ?_
  · intro cn sn J I v5 v6 v7 v8 hJ hc hs
    generalize hF : law_F A B = F
    refine w_st rfl rfl rfl trivial ?_
    refine w_st rfl rfl rfl trivial ?_
    refine w_st rfl rfl rfl rfl ?_
    refine w_st rfl rfl rfl trivial ?_
    refine w_isub rfl ?_
    refine w_v_gt rfl (fun _ => ?_) (fun z => by first | exact absurd ((law_le (by omega) hL).2 (show L < 4 * (L / 4) + 4 by omega)) z | exact absurd z ((law_le (by omega) hL).2 (show L < 4 * (L / 4) + 4 by omega)))
    refine w_st rfl rfl rfl trivial ?_
    refine w_retz rfl (by first | exact Or.inl rfl | exact Or.inr rfl | exact mm_bi_01 _ | assumption) ?_
    exact hF ▸ ⟨rfl, by show 4 * cn ≤ _; omega, by show 4 * sn ≤ _; omega⟩
  · intro t ht ih cn sn J I v5 v6 v7 v8 hJ hc hs
    have ih : law_H L xs A B (4 * t + 4) (law_F A B) := ih
    have hi : 4 * t + 4 ≤ L := by omega
    generalize 4 * t = i at *
    obtain ⟨k, hk, ek⟩ := sp_and31 (xs i)
    refine w_st rfl rfl rfl trivial ?_
    refine w_st rfl rfl rfl trivial ?_
    refine w_st rfl rfl rfl rfl ?_
    refine w_st rfl rfl rfl trivial ?_
    refine w_isub rfl ?_
    refine w_v_gt rfl (fun z => by first | exact absurd z (fun z => absurd ((law_le (by omega) hL).1 z) (by omega)) | exact absurd (fun z => absurd ((law_le (by omega) hL).1 z) (by omega)) z) (fun _ => ?_)
    refine w_st rfl rfl rfl trivial ?_
    refine w_st rfl rfl rfl trivial ?_
    refine w_sy (i) rfl rfl (by first | decide | omega) hL ?_
    refine w_st rfl rfl rfl trivial ?_
    refine w_iand rfl ?_
    rw [ek]
    have hk2 : k = 0 ∨ k = 1 ∨ k = 2 ∨ k = 3 ∨ k = 4 ∨ k = 5 ∨ k = 6 ∨ k = 7 ∨ k = 8 ∨ k = 9 ∨ k = 10 ∨ k = 11 ∨ k = 12 ∨ k = 13 ∨ k = 14 ∨ k = 15 ∨ k = 16 ∨ k = 17 ∨ k = 18 ∨ k = 19 ∨ k = 20 ∨ k = 21 ∨ k = 22 ∨ k = 23 ∨ k = 24 ∨ k = 25 ∨ k = 26 ∨ k = 27 ∨ k = 28 ∨ k = 29 ∨ k = 30 ∨ k = 31 := by omega
    rcases hk2 with rfl | rfl | rfl | rfl | rfl | rfl | rfl | rfl | rfl | rfl | rfl | rfl | rfl | rfl | rfl | rfl | rfl | rfl | rfl | rfl | rfl | rfl | rfl | rfl | rfl | rfl | rfl | rfl | rfl | rfl | rfl | rfl
    · exact w_tab rfl 144 (by decide +kernel) (l_show hJ hi hL hc hs ih)
    · exact w_tab rfl 212 (by decide +kernel) (l_number hJ hi hL hc hs ih)
    · exact w_tab rfl 268 (by decide +kernel) (l_lamp hJ hi hL hc hs ih)
    · exact w_tab rfl 364 (by decide +kernel) (l_mend hJ hi hL hc hs ih)
    · exact w_tab rfl 420 (by decide +kernel) (l_pass hJ hi hL hc hs ih)
    · exact w_tab rfl 476 (by decide +kernel) (l_set hJ hi hL hc hs ih)
    · exact w_tab rfl 544 (by decide +kernel) (l_append hJ hi hL hc hs ih)
    · exact w_tab rfl 600 (by decide +kernel) (l_clearBuffer hJ hi hL hc hs ih)
    · exact w_tab rfl 613 (by decide +kernel) (l_firstError hJ hi hL hc hs ih)
    · exact w_tab rfl 626 (by decide +kernel) (l_lamps hJ hi hL hc hs ih)
    · exact w_tab rfl 670 (by decide +kernel) (l_undo hJ hi hL hc hs ih)
    · exact w_tab rfl 714 (by decide +kernel) (l_field hJ hi hL hc hs ih)
    · exact w_tab rfl 782 (by decide +kernel) (l_lampOf hJ hi hL hc hs ih)
    · exact w_tab rfl 862 (by decide +kernel) (l_table hJ hi hL hc hs ih)
    · exact w_tab rfl 942 (by decide +kernel) (l_read hJ hi hL hc hs ih)
    · exact w_tab rfl 1010 (by decide +kernel) (l_count hJ hi hL hc hs ih)
    · exact w_tab rfl 1066 (by decide +kernel) (l_setting hJ hi hL hc hs ih)
    · exact w_tab rfl 1122 (by decide +kernel) (l_ifBurnt hJ hi hL hc hs ih)
    · exact w_tab rfl 1202 (by decide +kernel) (l_worstLamp hJ hi hL hc hs ih)
    · exact w_tab rfl 1258 (by decide +kernel) (l_strictest hJ hi hL hc hs ih)
    · exact w_tab rfl 1314 (by decide +kernel) (l_nextBurn hJ hi hL hc hs ih)
    · exact w_tab rfl 1327 (by decide +kernel) (l_clarity hJ hi hL hc hs ih)
    · exact w_tab rfl 1368 (by decide +kernel) (l_digest hJ hi hL hc hs ih)
    · exact w_tab rfl 1382 (by decide +kernel) (l_none hJ hc hs ih)
    · exact w_tab rfl 1382 (by decide +kernel) (l_none hJ hc hs ih)
    · exact w_tab rfl 1382 (by decide +kernel) (l_none hJ hc hs ih)
    · exact w_tab rfl 1382 (by decide +kernel) (l_none hJ hc hs ih)
    · exact w_tab rfl 1382 (by decide +kernel) (l_none hJ hc hs ih)
    · exact w_tab rfl 1382 (by decide +kernel) (l_none hJ hc hs ih)
    · exact w_tab rfl 1382 (by decide +kernel) (l_none hJ hc hs ih)
    · exact w_tab rfl 1382 (by decide +kernel) (l_none hJ hc hs ih)
    · exact w_tab rfl 1382 (by decide +kernel) (l_none hJ hc hs ih)
end SM
