theorem mm_strs : (lw_tbl.all fun w => match w with | .stringRef o k _ => decide (Cond.exactly (.string o k) "java/lang/String" ∈ flatC (Jvm.Cond.and given_1 narrow_1)) | _ => true) = true := by decide +kernel
theorem mm_nc13 : Cond.not (.castable (mm_exn 1) (mm_exn 3)) ∈ flatC (Jvm.Cond.and given_1 narrow_1) := by decide +kernel
theorem mm_nc23 : Cond.not (.castable (mm_exn 2) (mm_exn 3)) ∈ flatC (Jvm.Cond.and given_1 narrow_1) := by decide +kernel
theorem mm_sta : Cond.arrayOf (.static "BulbShapes" "SHAPES" "[I") .int ∈ flatC (Jvm.Cond.and given_1 narrow_1) := by decide +kernel
theorem mm_stl : Cond.eq (.length (.static "BulbShapes" "SHAPES" "[I")) (.int 30) ∈ flatC (Jvm.Cond.and given_1 narrow_1) := by decide +kernel
theorem mm_ste : ((List.range 30).all fun j => decide (Cond.eq (.elem (.static "BulbShapes" "SHAPES" "[I") (.int (Int32.ofNat j))) (.int (mm_SHP j)) ∈ flatC (Jvm.Cond.and given_1 narrow_1))) = true := by decide +kernel
theorem mm_stU : Cond.isRef (.static Bundle.tN "UNASSIGNED_STACK" Bundle.steD) ∈ flatC (Jvm.Cond.and given_1 narrow_1) := by decide +kernel
theorem mm_stN : Cond.isRef (.static Bundle.tN "SUPPRESSED_SENTINEL" Bundle.listD) ∈ flatC (Jvm.Cond.and given_1 narrow_1) := by decide +kernel
theorem mm_wZ : Cond.laysStatic "BulbShapes" "SHAPES" "[I" ∈ lw_tbl := by decide +kernel
theorem mm_wI : Cond.initialized "BulbShapes" ∈ lw_tbl := by decide +kernel
theorem mm_wT : Cond.initialized Bundle.tN ∈ lw_tbl := by decide +kernel
theorem mm_wU : Cond.laysStatic Bundle.tN "UNASSIGNED_STACK" Bundle.steD ∈ lw_tbl := by decide +kernel
theorem mm_wN : Cond.laysStatic Bundle.tN "SUPPRESSED_SENTINEL" Bundle.listD ∈ lw_tbl := by decide +kernel
theorem mm_wA1 : Cond.arrayOver (.object "BulbShapes$Table") ∈ lw_tbl := by decide +kernel
theorem mm_wA2 : Cond.arrayOver (.object "BulbShapes$Board") ∈ lw_tbl := by decide +kernel
theorem mm_ES0 {s : State} {b L : Nat} {xs : Nat → Int32} {av : Array Value} (hts : ∀ w ∈ lw_tbl, w.before av s = true) (hX : va_X b L xs s s.heap) (hbl : b < s.heap.size) (hgv : (Jvm.Cond.and given_1 narrow_1).before av s = true) : ∃ tS : Nat, mm_ES (fun q => s.heap.size ≤ q) tS b L xs s := by
  have hf := flat_of_before _ hgv
  have hA : ∀ a : Nat, a < s.heap.size → ¬ (fun q => s.heap.size ≤ q) a := fun a h => Nat.not_le.mpr h
  obtain ⟨tS, ht, hT⟩ := va_Tof (N := 30) (f := fun j => .int (mm_SHP j)) (A := fun q => s.heap.size ≤ q) (by decide) (hf _ mm_sta) (va_eqt (hf _ mm_stl)) (fun j hj => va_eqt (hf _ (of_decide_eq_true (List.all_eq_true.mp mm_ste j (List.mem_range.mpr hj))))) hA
  refine ⟨tS, hT, va_Zref (hts _ mm_wZ) (hts _ mm_wI) ht hA, ⟨hX, hbl, Nat.not_le.mpr hbl⟩, vx_Zqof (hts _ mm_wU) (hts _ mm_wT) (hf _ mm_stU) hA, vx_Zqof (hts _ mm_wN) (hts _ mm_wT) (hf _ mm_stN) hA, fun w hw => va_Nw.of (mm_nwt (List.mem_filter.mp hw).2) (hts _ (List.mem_filter.mp hw).1), ?_, va_AO.of (hts _ mm_wA1), va_AO.of (hts _ mm_wA2), ?_⟩
  · intro i k o tx hi
    have hm : Cond.stringRef o k tx ∈ lw_tbl := List.mem_of_getElem? hi
    have h1 := List.all_eq_true.mp mm_strs _ hm
    obtain ⟨a, c, cA, kA, q1, -⟩ := Cond.exactly_spec (args := av) (first := s) (o := none) (s := s) (idx := []) (hf _ (of_decide_eq_true h1))
    exact ⟨a, vk_R.of (hts _ hm) q1⟩
  · intro E E' h1 h2 hne
    subst h2
    rcases h1 with rfl | rfl | rfl
    · exact va_Nc.of (hf _ mm_nc13)
    · exact va_Nc.of (hf _ mm_nc23)
    · exact absurd rfl hne
theorem mm_in0 : Cond.instantiable RX0 6 ∈ lw_tbl := by decide +kernel
theorem mm_in1 : Cond.instantiable RX1 3 ∈ lw_tbl := by decide +kernel
theorem mm_in2 : Cond.instantiable RX2 3 ∈ lw_tbl := by decide +kernel
theorem mm_in3 : Cond.instantiable RX3 2 ∈ lw_tbl := by decide +kernel
theorem mm_in4 : Cond.instantiable RX4 5 ∈ lw_tbl := by decide +kernel
set_option maxHeartbeats 4000000 in
theorem whole_start {p : Program} {e : Env} {s : State} {m : MethodId} {below : List Frame} {meth : Method} {c : Code} (l : Launch) (hflags : l.flags = flags0) {b L : Nat} {xs : Nat → Int32} (hL : L ≤ 260) (C0 : lw_At p s m meth c b L xs) : W p l e room_1 s m #[Value.ref b] below meth c s.heap [] 0 0 (lw_Z below #[Value.ref b] s) (entryFrame m ([Value.ref b] : List Value).toArray 13) := by
  obtain ⟨hx, hb, hr, hml, hown, hts, hX, hbl, hlocks, hgv⟩ := id C0
  have hd0 := Drawn.sameBut.refl s.drawn lw_cs
  obtain ⟨tS, hES⟩ := mm_ES0 hts hX hbl hgv
  have hsub : ∀ w ∈ mm_G, w ∈ lw_tbl := fun w h => (List.mem_filter.mp h).1
  obtain ⟨c0, iS0, hKn0⟩ := u_known (C := RX0) (T := TX0) (N := 6) (n := 6) hts (fun w h => hsub w (mm_u0 w h)) (hts _ mm_in0)
  obtain ⟨c1, iS1, hKn1⟩ := u_known (C := RX1) (T := TX1) (N := 3) (n := 3) hts (fun w h => hsub w (mm_u1 w h)) (hts _ mm_in1)
  obtain ⟨c2, iS2, hKn2⟩ := u_known (C := RX2) (T := TX2) (N := 3) (n := 3) hts (fun w h => hsub w (mm_u2 w h)) (hts _ mm_in2)
  obtain ⟨c3, iS3, hKn3⟩ := u_known (C := RX3) (T := TX3) (N := 2) (n := 2) hts (fun w h => hsub w (mm_u3 w h)) (hts _ mm_in3)
  obtain ⟨c4, iS4, hKn4⟩ := u_known (C := RX4) (T := TX4) (N := 5) (n := 5) hts (fun w h => hsub w (mm_u4 w h)) (hts _ mm_in4)
  obtain ⟨dC, dI, hKc⟩ : ∃ (dC : Nat → ClassId) (dI : Nat → Nat → Nat), ∀ (k : Nat) (q : vw_C), mm_cl[k]? = some q → u_Kn s q.1 q.2.1 q.2.2 (dC k) (dI k) := by
    refine ⟨fun k => match k with | 0 => c0 | 1 => c1 | 2 => c2 | 3 => c3 | _ => c4, fun k => match k with | 0 => iS0 | 1 => iS1 | 2 => iS2 | 3 => iS3 | _ => iS4, ?_⟩
    intro k q hq
    match k, hq with
    | 0, hq => cases hq; exact hKn0
    | 1, hq => cases hq; exact hKn1
    | 2, hq => cases hq; exact hKn2
    | 3, hq => cases hq; exact hKn3
    | 4, hq => cases hq; exact hKn4
    | k + 5, hq => simp [mm_cl] at hq
  refine W.base ?_
  have hst : l.stackTraces = false := by
    unfold Launch.stackTraces
    rw [hflags]
    decide +kernel
  obtain ⟨h1, ⟨n, hRn⟩, hc1, hs1⟩ := mm_law L xs hL
  have hA : ∀ q : Nat, (s.setDrawn s.drawn).heap.size ≤ q → (fun q : Nat => s.heap.size ≤ q) q := fun _ h => h
  have hts2 : ∀ w ∈ mm_G, w.before #[Value.ref b] (s.setDrawn s.drawn) = true := dr_words (fun w h => hts w (hsub w h)) _
  have C : mm_Cx p l (s.setDrawn s.drawn) m #[Value.ref b] meth c 77 13 := ⟨hx, hb, hr, hml, rfl, hown, hts2, hlocks, fun q => absurd q (by decide +kernel), hst⟩
  have hl9 := lv_entry ([.ref b]) (n := 13) (Nat.le_of_ble_eq_true rfl)
  rw [lg_entry_eq]
  generalize (lg_sl ([.ref b]) ++ List.replicate (13 - (lg_sl ([.ref b])).length) Slot.unset).toArray = lsR at hl9 ⊢
  obtain ⟨ad, had0, had1⟩ : ∃ ad : Nat → Nat, ad 1000 = tS ∧ ad 1001 = b := ⟨fun j => if j = 1000 then tS else b, by simp, by simp⟩
  have hLR : mm_LR ad lsR 13 (mm_ent 13 [.ref 1001]) := by
    refine ⟨⟨hl9.1, hl9.2.1, fun q hq => hl9.2.2 q ?_⟩, rfl⟩
    have h9 := mm_asc_ent (ad := ad) 12 [.ref 1001] 0 q hq
    have e9 : ([Value.ref 1001] : List Value).map (mm_tr ad) = [.ref b] := by rw [← had1]; rfl
    rw [e9] at h9
    exact h9
  have hWd : mm_Wd (dC, dI) (fun q : Nat => s.heap.size ≤ q) tS b L xs (s.setDrawn s.drawn) ad (fun _ => 0) [] (mm_h0 L xs) s.heap :=
    ⟨⟨hKc, fun k q h => by simp at h⟩, fun k q h => by simp [mm_ws, mm_n, mm_h0] at h, ⟨fun i j p q h => by simp [mm_ws, mm_n, mm_h0] at h, fun k q h => by simp [mm_ws, mm_n, mm_h0] at h⟩, fun i hi => absurd hi (Nat.not_lt_zero i), had0, had1, rfl, rfl, Nat.zero_le _⟩
  have hI : mm_Iv (dC, dI) (fun q : Nat => s.heap.size ≤ q) tS b L xs (s.setDrawn s.drawn) ad 0 0 0 13 ad (fun _ => 0) [] lsR (mm_ent 13 [.ref 1001]) (mm_h0 L xs) s.heap [] 0 0 :=
    ⟨hWd, va_S.rf, hLR, rfl, rfl, Nat.le_refl _, fun _ _ => rfl⟩
  refine mm_walk (N := n) (R := room_1) (r := ((0, some (.int 1)), h1)) C hES hA (fun q => absurd rfl q) (by decide +kernel) (by decide +kernel) ⟨?_, ?_⟩ (fun n' _ mj av h r' => mm_con hst n' mj av h r') ⟨?_, ?_, ?_, ?_, ?_⟩ n (Nat.le_refl _) 0 _ _ _ hRn _ _ _ _ _ _ _ _ hI
  · show mm_c h1 ≤ 0 + 600130
    omega
  · show mm_s h1 ≤ 0 + 7301080
    omega
  · intro pc ls x h' ty hd hrt hn hr9 H locs cells slots lsR' ad' cA' tys' hI'
    cases hr9
    have q4 := hI'.2.2.2.1
    have q5 := hI'.2.2.2.2.1
    refine va_forget (fun q hq => hI'.2.1.2.2 q hq) ?_
    refine W.widen (k := 600130) (n := 7301080) (by omega) (by omega) ?_
    exact lw_ret hd0 hx hb hr hlocks hd
  · intro pc ls x h' hd hrt hr9
    cases hr9
  · intro pc ls x h' hd hrt hr9
    cases hr9
  · intro pc ls h' hd hrt hr9
    cases hr9
  · intro pc ls st h' i E aux hd hok hst9 hr9
    cases hr9
