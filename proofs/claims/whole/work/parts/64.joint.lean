/-! class and reference together: each call of the law -/
def sp_Jn (I : mm_Is) : Prop := ∃ σ n ps m tx, sp_C I σ n ps m tx ∧ sp_M I σ n ps m tx ∧ sp_ok σ ∧ (∀ i, i < n → sp_ok (ps i)) ∧ m ≤ 60 ∧ sp_tk m tx
def sp_Jo (mj Lm rj rL : Nat) (av rv : List Value) (cn sn : Nat) (J : Nat → Nat → Int64) (L : Nat) (xs : Nat → Int32) (I : mm_Is) : Prop := ∃ k cn1 sn1 J1 I1 b I2, k < 4 ∧ mm_Me mj Lm av (mm_hp (cn, sn, J, L, xs) I) ((0, some (.int (nI k))), mm_hp (cn1, sn1, J1, L, xs) I1) ∧ cn1 ≤ cn + 1 ∧ sn1 ≤ sn + 6 ∧ mm_M rj rL rv (cn1, sn1, J1, L, xs) I1 (some (.int b)) I2 ∧ I2 61 6 = nI k ∧ (k = 0 → J1 70 0 = b.toInt64) ∧ sp_Jn I2
section SM
variable {cn sn L n m N H : Nat} {J : Nat → Nat → Int64} {xs tx : Nat → Int32} {I I' I1 I2 : mm_Is} {x y z v : Int32} {mj Lm rj rL : Nat} {av rv : List Value} {σ : sp_St} {ps : Nat → sp_St}
theorem sp_Jn_th {k : Nat} (hJ : sp_Jn I) (x : sp_th k I I') : sp_Jn I' := by
  obtain ⟨σ, n, ps, m, tx, hC, hM, r⟩ := hJ
  obtain ⟨a, b⟩ := sp_M_th x hM
  exact ⟨σ, n, ps, m, tx, sp_C_c b hC, a, r⟩
theorem sp_Jn_f3 (hJ : sp_Jn I) (x : sp_f3 7 I I') : sp_Jn I' := by
  obtain ⟨σ, n, ps, m, tx, hC, hM, r⟩ := hJ
  obtain ⟨a, b⟩ := sp_C_f3 x hC
  exact ⟨σ, n, ps, m, tx, a, sp_M_c b hM, r⟩
theorem sp_Jn_op (hC : sp_C I1 σ n ps m tx) (hM : sp_M I2 σ n ps m tx) (rf : sp_rf I1 I2) (ok : sp_ok σ) (okp : ∀ i, i < n → sp_ok (ps i)) (hm : m ≤ 60) (hk : sp_tk m tx) : sp_Jn I2 :=
  ⟨σ, n, ps, m, tx, sp_C_c rf hC, hM, ok, okp, hm, hk⟩
theorem jx (hJ : sp_Jn I) (k : Nat) (hk : k < 4) (h0 : 0 < k) (h : mm_Me mj Lm av (mm_hp (cn, sn, J, L, xs) I) ((0, some (.int (nI k))), mm_hp (mm_gx (cn, sn, J, L, xs)) I)) (r : ∃ I', mm_M rj rL rv (cn + 1, sn + 6, J, L, xs) I (some (.int 0)) I' ∧ sp_th k I I') : sp_Jo mj Lm rj rL av rv cn sn J L xs I := by
  obtain ⟨I', r1, r2⟩ := r
  exact ⟨k, cn + 1, sn + 6, J, I, 0, I', hk, h, Nat.le_refl _, Nat.le_refl _, r1, r2.1, fun z => by omega, sp_Jn_th hJ r2⟩
theorem jo (h : mm_Me mj Lm av (mm_hp (cn, sn, J, L, xs) I) ((0, some (.int (nI 0))), mm_hp (mm_g2 (cn, sn, J, L, xs) v.toInt64) I1)) (r : mm_M rj rL rv (mm_g2 (cn, sn, J, L, xs) v.toInt64) I1 (some (.int v)) I2) (e6 : I2 61 6 = nI 0) (hJ2 : sp_Jn I2) : sp_Jo mj Lm rj rL av rv cn sn J L xs I := by
  refine ⟨0, cn, sn, va_up J 70 (vp_updL (J 70) 0 v.toInt64), I1, v, I2, by decide, h, Nat.le_succ _, Nat.le_add_right _ _, r, e6, fun _ => ?_, hJ2⟩
  rw [va_up_self]
  exact if_pos rfl
theorem jl (hJ : sp_Jn I) (h : mm_Me mj Lm av (mm_hp (cn, sn, J, L, xs) I) ((0, some (.int (nI 0))), mm_hp (mm_g2 (cn, sn, J, L, xs) v.toInt64) I1)) (f : sp_f3 7 I I1) (r : ∃ I2, mm_M rj rL rv (mm_g2 (cn, sn, J, L, xs) v.toInt64) I1 (some (.int v)) I2 ∧ sp_th 0 I1 I2) : sp_Jo mj Lm rj rL av rv cn sn J L xs I := by
  obtain ⟨I2, r1, r2⟩ := r
  exact jo h r1 r2.1 (sp_Jn_th (sp_Jn_f3 hJ f) r2)
theorem sp_ok_sp (ok : sp_ok σ) (okp : ∀ i, i < n → sp_ok (ps i)) : ∀ i, i < sp_sn n → sp_ok (sp_sp n ps σ i) := by
  intro i hi
  unfold sp_sn at hi
  show sp_ok (if n < 6 then (if i = n then σ else ps i) else (if i = 5 then σ else ps (i + 1)))
  by_cases c : n < 6
  · rw [if_pos c] at hi ⊢
    by_cases c2 : i = n
    · rw [if_pos c2]; exact ok
    · rw [if_neg c2]; exact okp i (by omega)
  · rw [if_neg c] at hi ⊢
    by_cases c2 : i = 5
    · rw [if_pos c2]; exact ok
    · rw [if_neg c2]; exact okp (i + 1) (by omega)
theorem sp_ok_show {f : Nat} (ok : sp_ok σ) (hf : f < 4) (hy : y = -1 ∨ ∃ d, d < 10 ∧ y = nI d) : sp_ok (upd σ (4 + f) y) := by
  obtain ⟨o1, o2, o3, o4, N, o5, o6, o7⟩ := ok
  refine ⟨fun e he => ?_, fun e he => ?_, ?_, ?_, N, o5, ?_, fun j hj => ?_⟩
  · by_cases c : e = f
    · subst c; rw [upd_s]; exact hy
    · rw [upd_n (by omega)]; exact o1 e he
  · rw [upd_n (by omega)]; exact o2 e he
  · rw [upd_n (by omega)]; exact o3
  · rw [upd_n (by omega)]; exact o4
  · rw [upd_n (by omega)]; exact o6
  · rw [upd_n (by omega)]; exact o7 j hj
theorem sp_ok_st {k : Nat} (ok : sp_ok σ) (hk : k < 2) (h2 : (k = 0 ∧ 1 ≤ y ∧ y ≤ 5) ∨ (k = 1 ∧ sp_lt 100 y)) : sp_ok (upd σ (1 + k) y) := by
  obtain ⟨o1, o2, o3, o4, N, o5, o6, o7⟩ := ok
  refine ⟨fun e he => ?_, fun e he => ?_, ?_, ?_, N, o5, ?_, fun j hj => ?_⟩
  · rw [upd_n (by omega)]; exact o1 e he
  · rw [upd_n (by omega)]; exact o2 e he
  · rcases h2 with ⟨rfl, a, b⟩ | ⟨rfl, _⟩
    · rw [upd_s]
      obtain ⟨s, hs, rfl⟩ := sp_le_i (n := 5) (by decide) rfl (Int32.le_trans (by decide) a) b
      exact ⟨s, (nI_leI (a := 1) (by omega) (by omega)).1 a, by omega, rfl⟩
    · rw [upd_n (by omega)]; exact o3
  · rcases h2 with ⟨rfl, a, b⟩ | ⟨rfl, s, hs, rfl⟩
    · rw [upd_n (by omega)]; exact o4
    · rw [upd_s]; exact ⟨s, by omega, rfl⟩
  · rw [upd_n (by omega)]; exact o6
  · rw [upd_n (by omega)]; exact o7 j hj
-- operations
theorem j_show (hJ : sp_Jn I) : sp_Jo 156 5 108 4 [.ref 0, .int x, .int y, .ref 70] [.ref 61, .int x, .int y] cn sn J L xs I := by
  obtain ⟨σ, n, ps, m, tx, hC, hM, ok, okp, hm, hk⟩ := id hJ
  by_cases h1 : sp_lt 4 x
  · by_cases h2 : y = -1 ∨ sp_lt 10 y
    · obtain ⟨f, hf, rfl⟩ := h1
      by_cases h3 : y = -1 ∨ sp_can (sp_R σ f) y
      · obtain ⟨I1, hM1, hC1, cf⟩ := c_show (g := (cn, sn, J, L, xs)) hC hf h3
        obtain ⟨I2, hM2, hR2, e6, rf⟩ := r_show (g := mm_g2 (cn, sn, J, L, xs) (σ (4 + f)).toInt64) (sp_M_c cf hM) ok hf h3
        exact jo (h_show hM1) hM2 e6 (sp_Jn_op hC1 hR2 rf (sp_ok_show ok hf h2) (sp_ok_sp ok okp) hm hk)
      · have n1 : ¬ y = -1 := fun z => h3 (Or.inl z)
        exact jx hJ 3 (by decide) (by decide) (h_show_3 (c_show_3 hC.1 hf n1 (h2.resolve_left n1) (fun z => h3 (Or.inr z)))) (r_show_3 hM.1 ok hf n1 (h2.resolve_left n1) (fun z => h3 (Or.inr z)))
    · exact jx hJ 2 (by decide) (by decide) (h_show_2 (c_show_2 h1 (fun z => h2 (Or.inl z)) (fun z => h2 (Or.inr z)))) (r_show_2 h1 (fun z => h2 (Or.inl z)) (fun z => h2 (Or.inr z)))
  · exact jx hJ 1 (by decide) (by decide) (h_show_1 (c_show_1 h1)) (r_show_1 h1)
theorem j_number (hJ : sp_Jn I) : sp_Jo 157 4 111 4 [.ref 0, .int x, .ref 70] [.ref 61, .int x] cn sn J L xs I := by
  obtain ⟨σ, n, ps, m, tx, hC, hM, ok, okp, hm, hk⟩ := id hJ
  by_cases h1 : sp_lt 10000 x
  · obtain ⟨N, hN, rfl⟩ := h1
    by_cases h2 : sp_nok σ N 4
    · obtain ⟨I1, hM1, hC1, cf⟩ := c_number (g := (cn, sn, J, L, xs)) hC hN h2
      obtain ⟨I2, hM2, hR2, e6, rf⟩ := r_number (g := mm_g2 (cn, sn, J, L, xs) (nI (sp_wd (sp_nu σ N 4) 4)).toInt64) (sp_M_c cf hM) ok hN h2
      exact jo (h_number hM1) hM2 e6 (sp_Jn_op hC1 hR2 rf (sp_ok_nu ok) (sp_ok_sp ok okp) hm hk)
    · exact jx hJ 2 (by decide) (by decide) (h_number_2 (c_number_2 hC.1 hN h2)) (r_number_2 hM.1 ok hN h2)
  · exact jx hJ 1 (by decide) (by decide) (h_number_1 (c_number_1 h1)) (r_number_1 h1)
theorem j_lamp (hJ : sp_Jn I) (q : Bool) : sp_Jo 158 6 113 4 [.ref 0, .int x, .int y, .int (sp_q q), .ref 70] [.ref 61, .int x, .int y, .int (sp_q q)] cn sn J L xs I := by
  obtain ⟨σ, n, ps, m, tx, hC, hM, ok, okp, hm, hk⟩ := id hJ
  by_cases h1 : sp_lt 4 x ∧ sp_lt 15 y
  · obtain ⟨⟨f, hf, rfl⟩, l, hl, rfl⟩ := h1
    obtain ⟨I1, hM1, hC1, cf⟩ := c_lamp (g := (cn, sn, J, L, xs)) hC hf hl q
    obtain ⟨I2, hM2, hR2, e6, rf⟩ := r_lamp (g := mm_g2 (cn, sn, J, L, xs) (nI (sp_cg (sp_R (sp_set σ f l q) f) (sp_R σ f) 10)).toInt64) (sp_M_c cf hM) ok hf hl q
    exact jo (h_lamp hM1) hM2 e6 (sp_Jn_op hC1 hR2 rf (sp_ok_set ok hf hl) (sp_ok_sp ok okp) hm hk)
  · exact jx hJ 1 (by decide) (by decide) (h_lamp_1 (c_lamp_1 h1)) (r_lamp_1 h1)
theorem j_mend (hJ : sp_Jn I) : sp_Jo 159 4 114 4 [.ref 0, .int x, .ref 70] [.ref 61, .int x] cn sn J L xs I := by
  obtain ⟨σ, n, ps, m, tx, hC, hM, ok, okp, hm, hk⟩ := id hJ
  by_cases h1 : sp_lt 4 x
  · obtain ⟨f, hf, rfl⟩ := h1
    obtain ⟨I1, hM1, hC1, cf⟩ := c_mend (g := (cn, sn, J, L, xs)) hC hf
    obtain ⟨I2, hM2, hR2, e6, rf⟩ := r_mend (g := mm_g2 (cn, sn, J, L, xs) (sp_pop (σ (8 + f))).toInt64) (sp_M_c cf hM) ok hf
    exact jo (h_mend hM1) hM2 e6 (sp_Jn_op hC1 hR2 rf (sp_ok_md ok hf 15 (Nat.le_refl _)) (sp_ok_sp ok okp) hm hk)
  · exact jx hJ 1 (by decide) (by decide) (h_mend_1 (c_mend_1 h1)) (r_mend_1 h1)
theorem j_pass (hJ : sp_Jn I) : sp_Jo 160 4 117 4 [.ref 0, .int x, .ref 70] [.ref 61, .int x] cn sn J L xs I := by
  obtain ⟨σ, n, ps, m, tx, hC, hM, ok, okp, hm, hk⟩ := id hJ
  by_cases h1 : 1 ≤ x ∧ x ≤ 500
  · by_cases h2 : σ 0 + x ≤ 99999
    · obtain ⟨H, hH, rfl⟩ := sp_le_i (n := 500) (by decide) rfl (Int32.le_trans (by decide) h1.1) h1.2
      obtain ⟨N, n1, hN, n3⟩ := ok.2.2.2.2
      have h1' : 1 ≤ H := (nI_leI (a := 1) (by omega) (by omega)).1 h1.1
      have h2' : N + H ≤ 99999 := by
        rw [hN, nI_add, show (99999 : Int32) = nI 99999 from rfl] at h2
        exact (nI_leI (by omega) (by omega)).1 h2
      obtain ⟨I1, hM1, hC1, cf⟩ := c_pass (g := (cn, sn, J, L, xs)) hC ok h1' (by omega) hN h2'
      obtain ⟨I2, hM2, hR2, e6, rf⟩ := r_pass (g := mm_g2 (cn, sn, J, L, xs) (nI (sp_hi σ H).2).toInt64) (sp_M_c cf hM) ok h1' (by omega) hN h2'
      exact jo (h_pass hM1) hM2 e6 (sp_Jn_op hC1 hR2 rf (sp_ok_hi ok hN H h2') (sp_ok_sp ok okp) hm hk)
    · exact jx hJ 2 (by decide) (by decide) (h_pass_2 (c_pass_2 hC.1 h1 h2)) (r_pass_2 hM.1 h1 h2)
  · exact jx hJ 1 (by decide) (by decide) (h_pass_1 (c_pass_1 h1)) (r_pass_1 h1)
theorem j_set (hJ : sp_Jn I) : sp_Jo 161 5 118 4 [.ref 0, .int x, .int y, .ref 70] [.ref 61, .int x, .int y] cn sn J L xs I := by
  obtain ⟨σ, n, ps, m, tx, hC, hM, ok, okp, hm, hk⟩ := id hJ
  by_cases h1 : sp_lt 2 x
  · obtain ⟨k, hk2, rfl⟩ := h1
    by_cases h2 : (k = 0 ∧ 1 ≤ y ∧ y ≤ 5) ∨ (k = 1 ∧ sp_lt 100 y)
    · obtain ⟨I1, hM1, hC1, cf⟩ := c_set (g := (cn, sn, J, L, xs)) hC hk2 h2
      obtain ⟨I2, hM2, hR2, e6, rf⟩ := r_set (g := mm_g2 (cn, sn, J, L, xs) (σ (1 + k)).toInt64) (sp_M_c cf hM) hk2 h2
      exact jo (h_set hM1) hM2 e6 (sp_Jn_op hC1 hR2 rf (sp_ok_st ok hk2 h2) (sp_ok_sp ok okp) hm hk)
    · exact jx hJ 2 (by decide) (by decide) (h_set_2 (c_set_2 hk2 h2)) (r_set_2 hk2 h2)
  · exact jx hJ 1 (by decide) (by decide) (h_set_1 (c_set_1 h1)) (r_set_1 h1)
theorem j_append (hJ : sp_Jn I) : sp_Jo 162 4 119 2 [.ref 0, .int x, .ref 70] [.ref 61, .int x] cn sn J L xs I := by
  obtain ⟨σ, n, ps, m, tx, hC, hM, ok, okp, hm, hk⟩ := id hJ
  by_cases h1 : sp_c33 x
  · by_cases h2 : m = 60
    · subst h2
      exact jx hJ 2 (by decide) (by decide) (h_append_2 (c_append_2 hC.2.2 h1)) (r_append_2 hM.2.2.1 h1)
    · have hm2 : m < 60 := by omega
      obtain ⟨c, c1, c2, rfl⟩ := id h1
      obtain ⟨I1, hM1, hC1, cf⟩ := c_append (g := (cn, sn, J, L, xs)) hC hm2 c1 c2
      obtain ⟨I2, hM2, hR2, e6, rf⟩ := r_append (g := mm_g2 (cn, sn, J, L, xs) (nI (m + 1)).toInt64) (sp_M_c cf hM) hm2 c1 c2
      refine jo (h_append hM1) hM2 e6 (sp_Jn_op hC1 hR2 rf ok okp (by omega) (fun i hi => ?_))
      by_cases ci : i = m
      · subst ci; rw [upd_s]; exact h1
      · rw [upd_n ci]; exact hk i (by omega)
  · exact jx hJ 1 (by decide) (by decide) (h_append_1 (c_append_1 h1)) (r_append_1 h1)
theorem j_lamps (hJ : sp_Jn I) : sp_Jo 163 3 127 2 [.ref 0, .ref 70] [.ref 61] cn sn J L xs I := by
  obtain ⟨σ, n, ps, m, tx, hC, hM, ok, okp, hm, hk⟩ := id hJ
  by_cases h3 : sp_rn tx m = 3
  · obtain ⟨I1, hM1, hC1, cf⟩ := c_lamps (g := (cn, sn, J, L, xs)) hC hk h3
    obtain ⟨I2, hM2, hR2, e6, rf⟩ := r_lamps (g := mm_g2 (cn, sn, J, L, xs) (sp_bl (sp_tc tx σ m) 4).toInt64) (sp_M_c cf hM) ok hm h3
    exact jo (h_lamps hM1) hM2 e6 (sp_Jn_op hC1 hR2 rf (sp_ok_tc ok m) (sp_ok_sp ok okp) (Nat.zero_le _) (fun i hi => absurd hi (Nat.not_lt_zero _)))
  · obtain ⟨I2, hM2, hR2, e6, rf⟩ := r_lamps_1 (g := (cn + 1, sn + 6, J, L, xs)) hM hm h3
    exact ⟨1, cn + 1, sn + 6, J, I, 0, I2, by decide, h_lamps_1 (c_lamps_1 hC.2.2 h3), Nat.le_refl _, Nat.le_refl _, hM2, e6, fun z => by omega, sp_Jn_op hC hR2 rf ok okp hm hk⟩
theorem j_undo (hJ : sp_Jn I) : sp_Jo 164 3 97 2 [.ref 0, .ref 70] [.ref 61] cn sn J L xs I := by
  obtain ⟨σ, n, ps, m, tx, hC, hM, ok, okp, hm, hk⟩ := id hJ
  cases n with
  | zero => exact jx hJ 1 (by decide) (by decide) (h_undo_1 (c_undo_1 hC.2.1.1)) (r_undo_1 hM.2.1.1)
  | succ n =>
    obtain ⟨I1, hM1, hC1, cf⟩ := c_undo (g := (cn, sn, J, L, xs)) hC
    obtain ⟨I2, hM2, hR2, e6, rf⟩ := r_undo_2 (g := mm_g2 (cn, sn, J, L, xs) (nI n).toInt64) (sp_M_c cf hM)
    exact jo (h_undo hM1) hM2 e6 (sp_Jn_op hC1 hR2 rf (okp n (by omega)) (fun i hi => okp i (by omega)) hm hk)
-- looks
theorem j_field (hJ : sp_Jn I) : sp_Jo 165 5 129 3 [.ref 0, .int x, .int y, .ref 70] [.ref 61, .int x, .int y] cn sn J L xs I := by
  obtain ⟨σ, n, ps, m, tx, hC, hM, ok, okp, hm, hk⟩ := id hJ
  by_cases h1 : sp_lt 4 x
  · by_cases h2 : sp_lt 8 y
    · obtain ⟨f, hf, rfl⟩ := h1
      obtain ⟨w, hw, rfl⟩ := h2
      exact jl hJ (h_field (c_field hC.1 hf hw)) (fun _ _ _ _ => rfl) (r_field hM.1 ok hf hw)
    · exact jx hJ 2 (by decide) (by decide) (h_field_2 (c_field_2 h1 h2)) (r_field_2 h1 h2)
  · exact jx hJ 1 (by decide) (by decide) (h_field_1 (c_field_1 h1)) (r_field_1 h1)
theorem j_lampOf (hJ : sp_Jn I) : sp_Jo 166 6 131 4 [.ref 0, .int x, .int y, .int z, .ref 70] [.ref 61, .int x, .int y, .int z] cn sn J L xs I := by
  obtain ⟨σ, n, ps, m, tx, hC, hM, ok, okp, hm, hk⟩ := id hJ
  by_cases h1 : sp_lt 4 x ∧ sp_lt 15 y
  · by_cases h2 : sp_lt 4 z
    · obtain ⟨⟨f, hf, rfl⟩, l, hl, rfl⟩ := h1
      obtain ⟨w, hw, rfl⟩ := h2
      exact jl hJ (h_lampOf (c_lampOf hC.1 hf hl hw)) (fun _ _ _ _ => rfl) (r_lampOf hM.1 ok hf hl hw)
    · exact jx hJ 2 (by decide) (by decide) (h_lampOf_2 (c_lampOf_2 h1 h2)) (r_lampOf_2 h1 h2)
  · exact jx hJ 1 (by decide) (by decide) (h_lampOf_1 (c_lampOf_1 h1)) (r_lampOf_1 h1)
theorem j_table (hJ : sp_Jn I) : sp_Jo 167 6 133 4 [.ref 0, .int x, .int y, .int z, .ref 70] [.ref 61, .int x, .int y, .int z] cn sn J L xs I := by
  obtain ⟨σ, n, ps, m, tx, hC, hM, ok, okp, hm, hk⟩ := id hJ
  by_cases h1 : sp_lt 4 x
  · by_cases h2 : sp_lt 10 y ∧ sp_lt 3 z
    · obtain ⟨f, hf, rfl⟩ := h1
      obtain ⟨⟨d, hd, rfl⟩, w, hw, rfl⟩ := h2
      exact jl hJ (h_table (c_table hC.1 hf hd hw)) (fun _ _ _ _ => rfl) (r_table hM.1 ok hf hd hw)
    · exact jx hJ 2 (by decide) (by decide) (h_table_2 (c_table_2 h1 h2)) (r_table_2 h1 h2)
  · exact jx hJ 1 (by decide) (by decide) (h_table_1 (c_table_1 h1)) (r_table_1 h1)
theorem j_read (hJ : sp_Jn I) : sp_Jo 168 5 135 3 [.ref 0, .int x, .int y, .ref 70] [.ref 61, .int x, .int y] cn sn J L xs I := by
  obtain ⟨σ, n, ps, m, tx, hC, hM, ok, okp, hm, hk⟩ := id hJ
  by_cases h1 : sp_lt 4 x
  · by_cases h2 : sp_lt 32768 y
    · obtain ⟨f, hf, rfl⟩ := h1
      obtain ⟨w, hw, rfl⟩ := h2
      exact jl hJ (h_read (c_read hC.1 hf hw)) (fun _ _ _ _ => rfl) (r_read hM.1 ok hf hw)
    · exact jx hJ 2 (by decide) (by decide) (h_read_2 (c_read_2 h1 h2)) (r_read_2 h1 h2)
  · exact jx hJ 1 (by decide) (by decide) (h_read_1 (c_read_1 h1)) (r_read_1 h1)
theorem j_count (hJ : sp_Jn I) : sp_Jo 169 4 140 2 [.ref 0, .int x, .ref 70] [.ref 61, .int x] cn sn J L xs I := by
  obtain ⟨σ, n, ps, m, tx, hC, hM, ok, okp, hm, hk⟩ := id hJ
  by_cases h1 : sp_lt 8 x
  · obtain ⟨w, hw, rfl⟩ := h1
    exact jl hJ (h_count (c_count hC.1 hC.2.1.1 hw)) (fun _ _ _ _ => rfl) (r_count hM.1 ok hM.2.1.1 hw)
  · exact jx hJ 1 (by decide) (by decide) (h_count_1 (c_count_1 h1)) (r_count_1 h1)
theorem j_setting (hJ : sp_Jn I) : sp_Jo 170 4 141 2 [.ref 0, .int x, .ref 70] [.ref 61, .int x] cn sn J L xs I := by
  obtain ⟨σ, n, ps, m, tx, hC, hM, ok, okp, hm, hk⟩ := id hJ
  by_cases h1 : sp_lt 2 x
  · obtain ⟨w, hw, rfl⟩ := h1
    exact jl hJ (h_setting (c_setting hC.1 hw)) (fun _ _ _ _ => rfl) (r_setting hM.1 hw)
  · exact jx hJ 1 (by decide) (by decide) (h_setting_1 (c_setting_1 h1)) (r_setting_1 h1)
theorem j_ifBurnt (hJ : sp_Jn I) : sp_Jo 171 6 143 4 [.ref 0, .int x, .int y, .int z, .ref 70] [.ref 61, .int x, .int y, .int z] cn sn J L xs I := by
  obtain ⟨σ, n, ps, m, tx, hC, hM, ok, okp, hm, hk⟩ := id hJ
  by_cases h1 : sp_lt 4 x ∧ sp_lt 15 y
  · by_cases h2 : sp_lt 3 z
    · obtain ⟨⟨f, hf, rfl⟩, l, hl, rfl⟩ := h1
      obtain ⟨w, hw, rfl⟩ := h2
      obtain ⟨I1, hM1, f1⟩ := c_ifBurnt (g := (cn, sn, J, L, xs)) hC.1 hf hl hw
      exact jl hJ (h_ifBurnt hM1) f1 (r_ifBurnt (sp_M_c (sp_C_f3 f1 hC).2 hM).1 ok hf hl hw)
    · exact jx hJ 2 (by decide) (by decide) (h_ifBurnt_2 (c_ifBurnt_2 h1 h2)) (r_ifBurnt_2 h1 h2)
  · exact jx hJ 1 (by decide) (by decide) (h_ifBurnt_1 (c_ifBurnt_1 h1)) (r_ifBurnt_1 h1)
theorem j_worstLamp (hJ : sp_Jn I) : sp_Jo 172 4 145 2 [.ref 0, .int x, .ref 70] [.ref 61, .int x] cn sn J L xs I := by
  obtain ⟨σ, n, ps, m, tx, hC, hM, ok, okp, hm, hk⟩ := id hJ
  by_cases h1 : sp_lt 4 x
  · obtain ⟨f, hf, rfl⟩ := h1
    obtain ⟨I1, hM1, f1⟩ := c_worstLamp (g := (cn, sn, J, L, xs)) hC.1 hf
    exact jl hJ (h_worstLamp hM1) f1 (r_worstLamp (sp_M_c (sp_C_f3 f1 hC).2 hM).1 ok hf)
  · exact jx hJ 1 (by decide) (by decide) (h_worstLamp_1 (c_worstLamp_1 h1)) (r_worstLamp_1 h1)
theorem j_strictest (hJ : sp_Jn I) : sp_Jo 173 4 147 2 [.ref 0, .int x, .ref 70] [.ref 61, .int x] cn sn J L xs I := by
  obtain ⟨σ, n, ps, m, tx, hC, hM, ok, okp, hm, hk⟩ := id hJ
  by_cases h1 : sp_lt 4 x
  · obtain ⟨f, hf, rfl⟩ := h1
    obtain ⟨I1, hM1, f1⟩ := c_strictest (g := (cn, sn, J, L, xs)) hC.1 hf
    exact jl hJ (h_strictest hM1) f1 (r_strictest (sp_M_c (sp_C_f3 f1 hC).2 hM).1 ok hf)
  · exact jx hJ 1 (by decide) (by decide) (h_strictest_1 (c_strictest_1 h1)) (r_strictest_1 h1)
-- calls without an exception: the class's, then the reference's
theorem j_clearBuffer (hJ : sp_Jn I) (g : mm_Gg) : ∃ v I1 I2, mm_M 44 2 [.ref 0] g I (some (.int v)) I1 ∧ mm_M 120 2 [.ref 61] g I1 (some (.int v)) I2 ∧ sp_Jn I2 := by
  obtain ⟨σ, n, ps, m, tx, hC, hM, ok, okp, hm, hk⟩ := id hJ
  obtain ⟨I1, hM1, hC1, cf⟩ := c_clearBuffer (g := g) hC
  obtain ⟨I2, hM2, hR2, e6, rf⟩ := r_clearBuffer (g := g) (sp_M_c cf hM)
  exact ⟨_, I1, I2, hM1, hM2, sp_Jn_op hC1 hR2 rf ok okp (Nat.zero_le _) (fun i hi => absurd hi (Nat.not_lt_zero _))⟩
theorem j_firstError (hJ : sp_Jn I) (g : mm_Gg) : ∃ v I1 I2, mm_M 45 1 [.ref 0] g I (some (.int v)) I1 ∧ mm_M 125 2 [.ref 61] g I1 (some (.int v)) I2 ∧ sp_Jn I2 := by
  obtain ⟨σ, n, ps, m, tx, hC, hM, ok, okp, hm, hk⟩ := id hJ
  obtain ⟨I2, hM2, hR2, e6, rf⟩ := r_firstError (g := g) hM hm
  exact ⟨_, I, I2, c_firstError hC.2.2, hM2, sp_Jn_op hC hR2 rf ok okp hm hk⟩
theorem j_nextBurn (hJ : sp_Jn I) (g : mm_Gg) : ∃ v I1 I2, mm_M 57 5 [.ref 0] g I (some (.int v)) I1 ∧ mm_M 149 1 [.ref 61] g I1 (some (.int v)) I2 ∧ sp_Jn I2 := by
  obtain ⟨σ, n, ps, m, tx, hC, hM, ok, okp, hm, hk⟩ := id hJ
  obtain ⟨I2, hM2, h2⟩ := r_nextBurn (g := g) hM.1 ok
  exact ⟨_, I, I2, c_nextBurn hC.1, hM2, sp_Jn_th hJ h2⟩
theorem j_clarity (hJ : sp_Jn I) (g : mm_Gg) : ∃ v I1 I2, (∃ m, m < 41 ∧ v = sp_cl m) ∧ mm_M 58 3 [.ref 0] g I (some (.double v)) I1 ∧ mm_M 151 1 [.ref 61] g I1 (some (.double v)) I2 ∧ sp_Jn I2 := by
  obtain ⟨σ, n, ps, m, tx, hC, hM, ok, okp, hm, hk⟩ := id hJ
  obtain ⟨I2, hM2, h2⟩ := r_clarity (g := g) hM.1 ok
  exact ⟨_, I, I2, ⟨sp_ct σ 4, by have := sp_nt_le σ 4; omega, rfl⟩, c_clarity hC.1, hM2, sp_Jn_th hJ h2⟩
theorem j_digest (hJ : sp_Jn I) (g : mm_Gg) : ∃ v I1 I2, mm_M 59 4 [.ref 0] g I (some (.long v)) I1 ∧ mm_M 152 6 [.ref 61] g I1 (some (.long v)) I2 ∧ sp_Jn I2 := by
  obtain ⟨σ, n, ps, m, tx, hC, hM, ok, okp, hm, hk⟩ := id hJ
  obtain ⟨I1, hM1, f1⟩ := c_digest (g := g) hC hk
  obtain ⟨I2, hM2, h2⟩ := r_digest (g := g) (sp_M_c (sp_C_f3 f1 hC).2 hM) ok hm
  exact ⟨_, I1, I2, hM1, hM2, sp_Jn_th (sp_Jn_f3 hJ f1) h2⟩
end SM
