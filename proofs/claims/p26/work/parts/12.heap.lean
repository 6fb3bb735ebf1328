/-! ===== single instructions, 2: fields and arrays ===== -/
def mm_nw : Jvm.Cond → Bool
  | .fieldLinkNest .. => true
  | .methodLinkNest .. => true
  | .declares _ => true
  | .castable .. => true
  | _ => false
def mm_NW : List Jvm.Cond := lw_tbl.filter mm_nw
theorem mm_inNW {i : Nat} {w : Jvm.Cond} (h : mm_w i w = true) (g : mm_nw w = true) : w ∈ mm_NW := List.mem_filter.mpr ⟨List.mem_of_getElem? (of_decide_eq_true h), g⟩
/-- what the walk has at hand of cells that are not the world's: the shapes, the script, two statics of Throwable; words that are no good ones; Strings; which classes are not castable -/
def mm_ES (A : Nat → Prop) (tS b L : Nat) (xs : Nat → Int32) (U : State) : Prop :=
  va_T .int tS 30 (fun j => .int (mm_SHP j)) A U U.heap ∧ va_Z "BulbShapes" "SHAPES" "[I" (.ref tS) A U U.heap ∧ (va_X b L xs U U.heap ∧ b < U.heap.size ∧ ¬ A b) ∧
  vx_Zq Bundle.tN "UNASSIGNED_STACK" Bundle.steD A U U.heap ∧ vx_Zq Bundle.tN "SUPPRESSED_SENTINEL" Bundle.listD A U U.heap ∧ (∀ w ∈ mm_NW, va_Nw w U) ∧
  (∀ (i k : Nat) (o tx : String), lw_tbl[i]? = some (.stringRef o k tx) → ∃ sa, vk_R o k tx sa U) ∧ va_AO "BulbShapes$Table" U ∧ va_AO "BulbShapes$Board" U ∧
  (∀ E E' : Nat, (E = 1 ∨ E = 2 ∨ E = 3) → E' = 3 → E ≠ E' → va_Nc (mm_exn E) (mm_exn E') U)
theorem mm_en_ia {ad cA : Nat → Nat} {h : mm_Hp} {i k : Nat} (hk : (mm_K h i).1 = k) (h2 : k = 10 ∨ k = 11) : mm_en ad cA h i = .inl (cA i, (mm_K h i).2, .inl (mm_I h i)) := by
  unfold mm_en
  rw [hk]
  rcases h2 with rfl | rfl <;> rfl
theorem mm_en_la {ad cA : Nat → Nat} {h : mm_Hp} {i : Nat} (hk : (mm_K h i).1 = 12) : mm_en ad cA h i = .inl (cA i, (mm_K h i).2, .inr (.inl (mm_J h i))) := by
  unfold mm_en
  rw [hk]
  rfl
theorem mm_en_ra {ad cA : Nat → Nat} {h : mm_Hp} {i k : Nat} (hk : (mm_K h i).1 = k) (h2 : k = 13 ∨ k = 14) : mm_en ad cA h i = .inl (cA i, (mm_K h i).2, .inr (.inr (.inr (.inr (fun j => mm_orf ad (mm_R h i j)))))) := by
  unfold mm_en
  rw [hk]
  rcases h2 with rfl | rfl <;> rfl
theorem mm_orf_ne {ad : Nat → Nat} {r : Nat} (h : r ≠ 0) : va_rf (mm_orf ad r) = .ref (ad r) := by
  unfold mm_orf
  rw [if_neg h]
  rfl
section MM
variable {p : Program} {l : Launch} {e : Env} {R : Room} {s : State} {m : MethodId} {args : Array Value} {below : List Frame} {meth : Method} {c : Code} {Q : State → Prop} {D : va_G} {A : Nat → Prop} {tS b L : Nat} {xs : Nat → Int32} {ad0 : Nat → Nat} {n0 c0 s0 nL mi : Nat}
set_option maxHeartbeats 1000000 in
theorem mm_i_gf {pc np idx : Nat} {aux : List Nat} {ls st : List Value} {h : mm_Hp} {z : mm_St} (hs : mm_gf np aux ls st h = some z) (hP : z.2.2.2.2) (C : mm_Cx p l s m args meth c mi nL) (hN : ∀ w ∈ mm_NW, va_Nw w s) (hok : mm_okF mi idx aux false = true) (hd : decode (mm_b mi) pc = .ok (.getfield idx, 3)) (hnp : np = pc + 3)
    (K : mm_Go p l e R s m args below meth c Q D A tS b L xs ad0 n0 c0 s0 nL z.1 z.2.1 z.2.2.1 z.2.2.2.1) : mm_Go p l e R s m args below meth c Q D A tS b L xs ad0 n0 c0 s0 nL pc ls st h := by
  obtain ⟨hx, hb, hr, hml, hnl, hown, hts, hlk, hin, hst⟩ := C
  unfold mm_okF at hok
  split at hok
  case h_2 => cases hok
  case h_1 ci k fl ne wi fin =>
    split at hok
    case h_2 => cases hok
    case h_1 C T N hcl =>
      simp only [Bool.and_eq_true, decide_eq_true_eq, Bool.not_false, Bool.true_or, and_true] at hok
      obtain ⟨⟨⟨hk, hNn⟩, hfl⟩, hlink⟩ := hok
      obtain ⟨hci, hin', hty, hnm, hfk⟩ := mm_clf hcl
      unfold mm_gf at hs
      split at hs
      case h_2 => cases hs
      case h_1 ci' k' fl' tl i r heq =>
        injection heq with q1 q2
        injection q2 with q2 q3
        injection q3 with q3 q4
        subst q1; subst q2; subst q3
        subst hnp
        split at hs
        case h_1 hf1 =>
          cases hs
          obtain ⟨⟨hi, hKi⟩, h0⟩ := hP
          intro H locs cells slots lsR ad cA tys hI
          have hW := hI.1
          have he := mm_ws_get (ad := ad) (cA := cA) hi
          rw [mm_en_obj hKi hci] at he
          have hv : (mm_flds ad h i ci)[k]? = some (.ref (ad (mm_R h i k))) := by
            rw [mm_flds_get (by rw [← hNn]; exact hk)]
            unfold mm_fd
            rw [if_pos hfl.symm, mm_orf_ne h0]
          split at hlink
          · exact va_get hx hb hts hin' hown hW.1 hW.2.1 i he hcl k hk (hts _ (mm_inG hlink rfl)) (fun _ h9 => h9) hv hd (K _ _ _ _ _ _ _ _ hI)
          · exact va_getN hx hb hts hin' hown hW.1 hW.2.1 i he hcl k hk (va_Nw.use rfl (hN _ (mm_inNW hlink rfl))) (fun _ h9 => h9) hv hd (K _ _ _ _ _ _ _ _ hI)
        case h_2 hf1 =>
          cases hs
          obtain ⟨hi, hKi⟩ := hP
          intro H locs cells slots lsR ad cA tys hI
          have hW := hI.1
          have he := mm_ws_get (ad := ad) (cA := cA) hi
          rw [mm_en_obj hKi hci] at he
          have hv : (mm_flds ad h i ci)[k]? = some (.int (mm_I h i k)) := by
            rw [mm_flds_get (by rw [← hNn]; exact hk)]
            unfold mm_fd
            rw [if_neg (by rw [← hfl]; exact fun q => hf1 q)]
          split at hlink
          · exact va_get hx hb hts hin' hown hW.1 hW.2.1 i he hcl k hk (hts _ (mm_inG hlink rfl)) (fun _ h9 => h9) hv hd (K _ _ _ _ _ _ _ _ hI)
          · exact va_getN hx hb hts hin' hown hW.1 hW.2.1 i he hcl k hk (va_Nw.use rfl (hN _ (mm_inNW hlink rfl))) (fun _ h9 => h9) hv hd (K _ _ _ _ _ _ _ _ hI)
theorem mm_fit_int (x : Int32) : narrow .int (.int x) = .int x ∧ fits .int (.int x) = true := ⟨rfl, rfl⟩
theorem mm_fit_bool {x : Int32} (h : x = 0 ∨ x = 1) : narrow .boolean (.int x) = .int x ∧ fits .boolean (.int x) = true := by
  rcases h with rfl | rfl <;> exact ⟨rfl, by decide⟩
theorem mm_fit_ref {ty : FieldType} (h : mm_isr ty = true) (a : Nat) : narrow ty (.ref a) = .ref a ∧ fits ty (.ref a) = true := by
  cases ty <;> first | exact ⟨rfl, rfl⟩ | cases h
set_option maxHeartbeats 1000000 in
theorem mm_i_pf {pc np idx : Nat} {aux : List Nat} {ls st : List Value} {h : mm_Hp} {z : mm_St} (hs : mm_pf np aux ls st h = some z) (hP : z.2.2.2.2) (C : mm_Cx p l s m args meth c mi nL) (hN : ∀ w ∈ mm_NW, va_Nw w s) (hok : mm_okF mi idx aux true = true) (hd : decode (mm_b mi) pc = .ok (.putfield idx, 3)) (hnp : np = pc + 3)
    (K : mm_Go p l e R s m args below meth c Q D A tS b L xs ad0 n0 c0 s0 nL z.1 z.2.1 z.2.2.1 z.2.2.2.1) : mm_Go p l e R s m args below meth c Q D A tS b L xs ad0 n0 c0 s0 nL pc ls st h := by
  obtain ⟨hx, hb, hr, hml, hnl, hown, hts, hlk, hin, hst⟩ := C
  unfold mm_okF at hok
  split at hok
  case h_2 => cases hok
  case h_1 ci k fl ne wi fin =>
    split at hok
    case h_2 => cases hok
    case h_1 C T N hcl =>
      simp only [Bool.and_eq_true, decide_eq_true_eq, Bool.not_true, Bool.false_or] at hok
      obtain ⟨⟨⟨⟨hk, hNn⟩, hfl⟩, hlink⟩, hfin⟩ := hok
      obtain ⟨hci, hin', hty, hnm, hfk⟩ := mm_clf hcl
      have key : ∀ (i : Nat) (v : Value) (r : List Value) (h' : mm_Hp), mm_ob h i ci → h'.1 = h.1 → mm_K h' = mm_K h → h'.2.2.2.2.2 = h.2.2.2.2.2 → (∀ ad, mm_fd ad h' i ci k = mm_tr ad v) → (∀ ad j, j ≠ k → mm_fd ad h' i ci j = mm_fd ad h i ci j) → (∀ ad cA j, j ≠ i → mm_en ad cA h' j = mm_en ad cA h j) → (∀ ad, narrow (mm_ty ci k) (mm_tr ad v) = mm_tr ad v ∧ fits (mm_ty ci k) (mm_tr ad v) = true) →
          mm_Go p l e R s m args below meth c Q D A tS b L xs ad0 n0 c0 s0 nL (pc + 3) ls r h' → mm_Go p l e R s m args below meth c Q D A tS b L xs ad0 n0 c0 s0 nL pc ls (v :: .ref i :: r) h := by
        intro i v r h' hob hn hK hL hv ho hoe hft K H locs cells slots lsR ad cA tys hI
        have hW := hI.1
        have he := mm_ws_get (ad := ad) (cA := cA) hob.1
        rw [mm_en_obj hob.2 hci] at he
        have hset : (mm_flds ad h i ci).set k (mm_tr ad v) = mm_flds ad h' i ci := mm_flds_set (hv ad) (ho ad)
        have hen : mm_en ad cA h' i = .inr (ci, (mm_flds ad h i ci).set k (mm_tr ad v)) := by
          rw [hset]; exact mm_en_obj (by rw [hK]; exact hob.2) hci
        have fin' : ∀ (H1 : Heap) (locs1 : List Loc), va_P D mm_cl ((mm_ws ad cA h).set i (ad i, .inr (ci, (mm_flds ad h i ci).set k (mm_tr ad v)))) H1 → va_D A ((mm_ws ad cA h).set i (ad i, .inr (ci, (mm_flds ad h i ci).set k (mm_tr ad v)))) → va_S A s.heap H1 locs1 → W p l e R s m args below meth c H1 locs1 cells slots Q (F0 m (pc + 3) lsR (r.map (mm_tr ad))) :=
          fun H1 locs1 hP hD hS => K _ _ _ _ _ _ _ _ (hI.upd hn hK hL hen (fun j _ hj => hoe ad cA j hj) hP hD hS)
        split at hlink
        · split at hfin
          · exact va_put hx hb hts hin' (mm_ty ci) hty hnm hown hW.1 hW.2.1 hW.2.2.1 hI.2.1 i he hcl k hk (hts _ (mm_inG hlink rfl)) (fun _ h9 => h9) (of_decide_eq_true hfin) (hty k hk) (hft ad).1 (hft ad).2 (by rw [mm_flds_len, ← hNn]; exact hk) hd fin'
          · simp only [Bool.and_eq_true, decide_eq_true_eq] at hfin
            exact va_putF hx hb hts hin' (mm_ty ci) hty hnm hown hW.1 hW.2.1 hW.2.2.1 hI.2.1 i he hcl k hk (hts _ (mm_inG hlink rfl)) (fun _ h9 => h9) hfin.1.1.1 (hin hfin.1.1.2) hfin.1.2 (hty k hk) (hft ad).1 (hft ad).2 (by rw [mm_flds_len, ← hNn]; exact hk) hd fin'
        · rename_i hne
          split at hfin
          · exact va_putN hx hb hts hin' (mm_ty ci) hty hnm hown hW.1 hW.2.1 hW.2.2.1 hI.2.1 i he hcl k hk (va_Nw.use rfl (hN _ (mm_inNW hlink rfl))) (fun _ h9 => h9) (of_decide_eq_true hfin) (hty k hk) (hft ad).1 (hft ad).2 (by rw [mm_flds_len, ← hNn]; exact hk) hd fin'
          · simp only [Bool.and_eq_true, decide_eq_true_eq] at hfin
            exact absurd hfin.2 (fun q => hne q)
      unfold mm_pf at hs
      split at hs
      case h_2 => cases hs
      case h_1 ci' k' fl' tl v i r heq =>
        injection heq with q1 q2
        injection q2 with q2 q3
        injection q3 with q3 q4
        subst q1; subst q2; subst q3
        subst hnp
        split at hs
        case h_1 j =>
          cases hs
          obtain ⟨hob, hj⟩ := hP
          have hty9 : mm_isr (mm_ty ci k) = true := by
            rcases mm_fok_at hfk hk with h9 | h9 | h9
            · rw [← hfl] at h9; exact absurd h9.1 (by decide)
            · rw [← hfl] at h9; exact absurd h9.1 (by decide)
            · exact h9.2
          refine key i (.ref j) r (mm_sR h (va_up (mm_R h) i (va_up (mm_R h i) k j))) hob rfl rfl rfl (fun ad => ?_) (fun ad j' hj' => ?_) (fun ad cA j' hj' => ?_) (fun ad => mm_fit_ref hty9 _) K
          · unfold mm_fd
            rw [if_pos hfl.symm]
            show va_rf (mm_orf ad (va_up (mm_R h) i (va_up (mm_R h i) k j) i k)) = .ref (ad j)
            rw [mm_up_self, mm_up_self, mm_orf_ne hj]
          · unfold mm_fd
            show (if mm_ft ci j' = 1 then va_rf (mm_orf ad (va_up (mm_R h) i (va_up (mm_R h i) k j) i j')) else _) = _
            rw [mm_up_self, mm_up_ne _ _ hj']
            rfl
          · exact mm_en_congr rfl (mm_up_ne _ _ hj') rfl rfl
        case h_2 x =>
          cases hs
          obtain ⟨hob, hx01⟩ := hP
          have hty9 : mm_ty ci k = .boolean := by
            rcases mm_fok_at hfk hk with h9 | h9 | h9
            · rw [← hfl] at h9; exact absurd h9.1 (by decide)
            · exact h9.2
            · rw [← hfl] at h9; exact absurd h9.1 (by decide)
          refine key i (.int x) r (mm_sI h (va_up (mm_I h) i (upd (mm_I h i) k x))) hob rfl rfl rfl (fun ad => ?_) (fun ad j' hj' => ?_) (fun ad cA j' hj' => ?_) (fun ad => by rw [hty9]; exact mm_fit_bool hx01) K
          · unfold mm_fd
            rw [if_neg (by rw [← hfl]; decide)]
            show Value.int (va_up (mm_I h) i (upd (mm_I h i) k x) i k) = .int x
            rw [mm_up_self, pk_us]
          · unfold mm_fd
            show (if mm_ft ci j' = 1 then _ else Value.int (va_up (mm_I h) i (upd (mm_I h i) k x) i j')) = _
            rw [mm_up_self, pk_un hj']
            rfl
          · exact mm_en_congr rfl rfl (mm_up_ne _ _ hj') rfl
        case h_3 x =>
          cases hs
          have hty9 : mm_ty ci k = .int := by
            rcases mm_fok_at hfk hk with h9 | h9 | h9
            · exact h9.2
            · rw [← hfl] at h9; exact absurd h9.1 (by decide)
            · rw [← hfl] at h9; exact absurd h9.1 (by decide)
          refine key i (.int x) r (mm_sI h (va_up (mm_I h) i (upd (mm_I h i) k x))) hP rfl rfl rfl (fun ad => ?_) (fun ad j' hj' => ?_) (fun ad cA j' hj' => ?_) (fun ad => by rw [hty9]; exact mm_fit_int x) K
          · unfold mm_fd
            rw [if_neg (by rw [← hfl]; decide)]
            show Value.int (va_up (mm_I h) i (upd (mm_I h i) k x) i k) = .int x
            rw [mm_up_self, pk_us]
          · unfold mm_fd
            show (if mm_ft ci j' = 1 then _ else Value.int (va_up (mm_I h) i (upd (mm_I h i) k x) i j')) = _
            rw [mm_up_self, pk_un hj']
            rfl
          · exact mm_en_congr rfl rfl (mm_up_ne _ _ hj') rfl
        case h_4 => cases hs
end MM
