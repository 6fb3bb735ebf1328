/-! ===== the mini heap and the real one ===== -/
def mm_tr (ad : Nat → Nat) : Value → Value
  | .ref i => .ref (ad i)
  | v => v
def mm_asc (ad : Nat → Nat) : Nat → List Value → List (Nat × Value)
  | _, [] => []
  | i, v :: t => (bif decide (v = .null) then [] else [(i, mm_tr ad v)]) ++ mm_asc ad (i + 1) t
def mm_orf (ad : Nat → Nat) (r : Nat) : Option Nat := if r = 0 then none else some (ad r)
def mm_fd (ad : Nat → Nat) (h : mm_Hp) (i ci k : Nat) : Value := if mm_ft ci k = 1 then va_rf (mm_orf ad (mm_R h i k)) else .int (mm_I h i k)
def mm_flds (ad : Nat → Nat) (h : mm_Hp) (i ci : Nat) : List Value := (List.range (mm_nf ci)).map (mm_fd ad h i ci)
def mm_kd (ad : Nat → Nat) (cA : Nat → Nat) (h : mm_Hp) (i k len : Nat) : va_E := match k with
  | 10 => .inl (cA i, len, .inl (mm_I h i))
  | 11 => .inl (cA i, len, .inl (mm_I h i))
  | 12 => .inl (cA i, len, .inr (.inl (mm_J h i)))
  | 13 => .inl (cA i, len, .inr (.inr (.inr (.inr (fun j => mm_orf ad (mm_R h i j))))))
  | 14 => .inl (cA i, len, .inr (.inr (.inr (.inr (fun j => mm_orf ad (mm_R h i j))))))
  | ci => .inr (ci, mm_flds ad h i ci)
def mm_en (ad : Nat → Nat) (cA : Nat → Nat) (h : mm_Hp) (i : Nat) : va_E := mm_kd ad cA h i (mm_K h i).1 (mm_K h i).2
def mm_ws (ad : Nat → Nat) (cA : Nat → Nat) (h : mm_Hp) : va_W := (List.range (mm_n h)).map (fun i => (ad i, mm_en ad cA h i))
def mm_aty (k : Nat) : FieldType := match k with
  | 10 => .int | 11 => .char | 12 => .long | 13 => .object "BulbShapes$Table" | _ => .object "BulbShapes$Board"
theorem mm_ws_get {ad cA : Nat → Nat} {h : mm_Hp} {i : Nat} (hi : i < mm_n h) : (mm_ws ad cA h)[i]? = some (ad i, mm_en ad cA h i) := by
  unfold mm_ws
  rw [List.getElem?_map, List.getElem?_range hi]
  rfl
theorem mm_ws_len (ad cA : Nat → Nat) (h : mm_Hp) : (mm_ws ad cA h).length = mm_n h := by simp [mm_ws]
theorem mm_ws_set {ad cA : Nat → Nat} {h h' : mm_Hp} {i : Nat} {e : va_E} (hn : mm_n h' = mm_n h) (hi : mm_en ad cA h' i = e) (ho : ∀ j, j < mm_n h → j ≠ i → mm_en ad cA h' j = mm_en ad cA h j) : (mm_ws ad cA h).set i (ad i, e) = mm_ws ad cA h' := by
  apply List.ext_getElem?
  intro j
  rw [List.getElem?_set]
  by_cases hj : j < mm_n h
  · rw [mm_ws_get (h := h') (by rw [hn]; exact hj)]
    by_cases hji : i = j
    · subst hji
      rw [if_pos rfl, if_pos (by rw [mm_ws_len]; exact hj), hi]
    · rw [if_neg hji, mm_ws_get hj, ho j hj (fun q => hji q.symm)]
  · have h1 : (mm_ws ad cA h')[j]? = none := List.getElem?_eq_none (by rw [mm_ws_len, hn]; omega)
    have h2 : (mm_ws ad cA h)[j]? = none := List.getElem?_eq_none (by rw [mm_ws_len]; omega)
    rw [h1, h2]
    by_cases hji : i = j
    · rw [if_pos hji, if_neg (by rw [mm_ws_len]; omega)]
    · rw [if_neg hji]
theorem mm_ws_push {ad ad' cA cA' : Nat → Nat} {h h' : mm_Hp} {q : Nat} {e : va_E} (hn : mm_n h' = mm_n h + 1) (hq : ad' (mm_n h) = q) (he : mm_en ad' cA' h' (mm_n h) = e) (ho : ∀ j, j < mm_n h → ad' j = ad j ∧ mm_en ad' cA' h' j = mm_en ad cA h j) : mm_ws ad cA h ++ [(q, e)] = mm_ws ad' cA' h' := by
  apply List.ext_getElem?
  intro j
  by_cases hj : j < mm_n h
  · rw [List.getElem?_append_left (by rw [mm_ws_len]; exact hj), mm_ws_get hj, mm_ws_get (h := h') (by omega), (ho j hj).1, (ho j hj).2]
  · by_cases hj2 : j = mm_n h
    · subst hj2
      rw [List.getElem?_append_right (by rw [mm_ws_len]; exact Nat.le_refl _), mm_ws_len, Nat.sub_self, mm_ws_get (h := h') (by omega), hq, he]
      rfl
    · rw [List.getElem?_eq_none (by rw [List.length_append, mm_ws_len]; simp; omega), List.getElem?_eq_none (by rw [mm_ws_len]; omega)]
theorem mm_kd_congr {ad cA : Nat → Nat} {h h' : mm_Hp} {i : Nat} (k len : Nat) (hR : mm_R h' i = mm_R h i) (hI : mm_I h' i = mm_I h i) (hJ : mm_J h' i = mm_J h i) : mm_kd ad cA h' i k len = mm_kd ad cA h i k len := by
  have hf : ∀ ci, mm_flds ad h' i ci = mm_flds ad h i ci := by
    intro ci
    unfold mm_flds
    congr 1
    funext k
    unfold mm_fd
    rw [hR, hI]
  unfold mm_kd
  split <;> first | rw [hI] | rw [hJ] | rw [hR] | rw [hf]
theorem mm_en_congr {ad cA : Nat → Nat} {h h' : mm_Hp} {i : Nat} (hK : mm_K h' i = mm_K h i) (hR : mm_R h' i = mm_R h i) (hI : mm_I h' i = mm_I h i) (hJ : mm_J h' i = mm_J h i) : mm_en ad cA h' i = mm_en ad cA h i := by
  unfold mm_en
  rw [hK]
  exact mm_kd_congr _ _ hR hI hJ
theorem mm_orf_ad {ad ad' : Nat → Nat} {r : Nat} (h : ad' r = ad r) : mm_orf ad' r = mm_orf ad r := by
  unfold mm_orf; rw [h]
/-- the same cell under other addresses that agree where it refers to -/
theorem mm_en_ad {ad ad' cA cA' : Nat → Nat} {h : mm_Hp} {i : Nat} (hc : cA' i = cA i) (ha : ∀ k, ad' (mm_R h i k) = ad (mm_R h i k)) : mm_en ad' cA' h i = mm_en ad cA h i := by
  have hf : ∀ ci, mm_flds ad' h i ci = mm_flds ad h i ci := by
    intro ci
    unfold mm_flds
    congr 1
    funext k
    unfold mm_fd
    rw [mm_orf_ad (ha k)]
  have hr : (fun j => mm_orf ad' (mm_R h i j)) = (fun j => mm_orf ad (mm_R h i j)) := by
    funext j
    exact mm_orf_ad (ha j)
  unfold mm_en mm_kd
  split <;> first | rw [hc, hr] | rw [hc] | rw [hf]
-- locals
theorem mm_lget_nil (k : Nat) : mm_lget [] k = .null := by cases k <;> rfl
theorem mm_lset_len : ∀ (ls : List Value) (i : Nat) (v : Value), (mm_lset ls i v).length = ls.length
  | [], _, _ => rfl
  | _ :: _, 0, _ => rfl
  | a :: t, n + 1, v => by show (mm_lset t n v).length + 1 = t.length + 1; rw [mm_lset_len t n v]
theorem mm_lget_lset : ∀ (ls : List Value) (i k : Nat) (v : Value), mm_lget (mm_lset ls i v) k = if k = i then (if i < ls.length then v else .null) else mm_lget ls k
  | [], i, k, v => by
    show mm_lget [] k = _
    rw [mm_lget_nil]
    split
    · rw [if_neg (by simp)]
    · rfl
  | a :: t, 0, 0, v => by simp [mm_lset, mm_lget]
  | a :: t, 0, k + 1, v => by simp [mm_lset, mm_lget]
  | a :: t, n + 1, 0, v => by simp [mm_lset, mm_lget]
  | a :: t, n + 1, k + 1, v => by
    show mm_lget (mm_lset t n v) k = _
    rw [mm_lget_lset t n k v]
    simp [mm_lget]
theorem mm_asc_mem {ad : Nat → Nat} : ∀ (ls : List Value) (i : Nat) (q : Nat × Value), q ∈ mm_asc ad i ls ↔ ∃ k, q.1 = i + k ∧ mm_lget ls k ≠ .null ∧ q.2 = mm_tr ad (mm_lget ls k)
  | [], i, q => by simp [mm_asc, mm_lget_nil]
  | v :: t, i, q => by
    unfold mm_asc
    rw [List.mem_append, mm_asc_mem t (i + 1) q]
    constructor
    · rintro (hq | ⟨k, h1, h2, h3⟩)
      · by_cases hv : v = .null
        · simp [hv] at hq
        · simp [hv] at hq
          exact ⟨0, by rw [hq]; rfl, hv, by rw [hq]; rfl⟩
      · exact ⟨k + 1, by omega, h2, h3⟩
    · rintro ⟨k, h1, h2, h3⟩
      cases k with
      | zero =>
        left
        have hv : ¬ v = .null := h2
        simp [hv]
        exact Prod.ext h1 h3
      | succ k => exact Or.inr ⟨k, by omega, h2, h3⟩
/-- the real locals hold the mini ones -/
def mm_LR (ad : Nat → Nat) (lsR : Array Slot) (nL : Nat) (ls : List Value) : Prop := lv_has lsR nL (mm_asc ad 0 ls) ∧ ls.length = nL
theorem mm_LR.get {ad : Nat → Nat} {lsR : Array Slot} {nL : Nat} {ls : List Value} (h : mm_LR ad lsR nL ls) {i : Nat} {v : Value} (hv : mm_lget ls i = v) (hn : v ≠ .null) : lsR[i]? = some (.val (mm_tr ad v)) :=
  h.1.2.2 (i, mm_tr ad v) ((mm_asc_mem ls 0 (i, mm_tr ad v)).mpr ⟨i, by simp, by rw [hv]; exact hn, by rw [hv]⟩)
theorem mm_tr_two (ad : Nat → Nat) (v : Value) : ((mm_tr ad v).category = 2) ↔ mm_two v = true := by
  cases v <;> simp [mm_tr, mm_two, Value.category]
theorem mm_tr_cat (ad : Nat → Nat) (v : Value) : (mm_tr ad v).category = v.category := by
  cases v <;> rfl
theorem mm_LR.set1 {ad : Nat → Nat} {lsR lsR' : Array Slot} {nL : Nat} {ls : List Value} {i : Nat} {v : Value} (h : mm_LR ad lsR nL ls) (hp : mm_pre ls i = false) (hi : i < ls.length)
    (h' : lv_has lsR' nL ((i, mm_tr ad v) :: (mm_asc ad 0 ls).filter (fun q => !(q.1 == i) && !(q.1 + 1 == i && q.2.category == 2)))) : mm_LR ad lsR' nL (mm_lset ls i v) := by
  refine ⟨⟨h'.1, h'.2.1, fun q hq => h'.2.2 q ?_⟩, by rw [mm_lset_len]; exact h.2⟩
  obtain ⟨k, h1, h2, h3⟩ := (mm_asc_mem _ _ _).mp hq
  rw [mm_lget_lset] at h2 h3
  simp only [Nat.zero_add] at h1
  by_cases hk : k = i
  · rw [if_pos hk, if_pos hi] at h3
    exact List.mem_cons.mpr (Or.inl (Prod.ext (h1.trans hk) h3))
  · rw [if_neg hk] at h2 h3
    refine List.mem_cons.mpr (Or.inr (List.mem_filter.mpr ⟨(mm_asc_mem _ _ _).mpr ⟨k, by omega, h2, h3⟩, ?_⟩))
    have hki : ¬ q.1 = i := by rw [h1]; exact hk
    simp only [Bool.and_eq_true, Bool.not_eq_true', beq_eq_false_iff_ne, ne_eq, hki, not_false_eq_true, true_and, Bool.and_eq_false_iff]
    by_cases hk1 : q.1 + 1 = i
    · right
      have hik : i = k + 1 := by omega
      subst hik
      intro hc
      rw [h3] at hc
      have := (mm_tr_two ad (mm_lget ls k)).mp hc
      rw [show mm_pre ls (k + 1) = mm_two (mm_lget ls k) from rfl, this] at hp
      cases hp
    · exact Or.inl hk1
theorem mm_LR.set2 {ad : Nat → Nat} {lsR lsR' : Array Slot} {nL : Nat} {ls : List Value} {i : Nat} {v : Value} (h : mm_LR ad lsR nL ls) (hp : mm_pre ls i = false) (hi : i + 1 < ls.length)
    (h' : lv_has lsR' nL ((i, mm_tr ad v) :: (mm_asc ad 0 ls).filter (fun q => !(q.1 == i) && (!(q.1 == i + 1) && !(q.1 + 1 == i && q.2.category == 2))))) : mm_LR ad lsR' nL (mm_lset (mm_lset ls i v) (i + 1) .null) := by
  refine ⟨⟨h'.1, h'.2.1, fun q hq => h'.2.2 q ?_⟩, by rw [mm_lset_len, mm_lset_len]; exact h.2⟩
  obtain ⟨k, h1, h2, h3⟩ := (mm_asc_mem _ _ _).mp hq
  rw [mm_lget_lset] at h2 h3
  simp only [Nat.zero_add] at h1
  by_cases hk2 : k = i + 1
  · rw [if_pos hk2] at h2
    split at h2 <;> exact absurd rfl h2
  · rw [if_neg hk2, mm_lget_lset] at h2 h3
    by_cases hk : k = i
    · rw [if_pos hk, if_pos (by omega)] at h3
      exact List.mem_cons.mpr (Or.inl (Prod.ext (h1.trans hk) h3))
    · rw [if_neg hk] at h2 h3
      refine List.mem_cons.mpr (Or.inr (List.mem_filter.mpr ⟨(mm_asc_mem _ _ _).mpr ⟨k, by omega, h2, h3⟩, ?_⟩))
      have hki : ¬ q.1 = i := by rw [h1]; exact hk
      have hki2 : ¬ q.1 = i + 1 := by rw [h1]; exact hk2
      simp only [Bool.and_eq_true, Bool.not_eq_true', beq_eq_false_iff_ne, ne_eq, hki, hki2, not_false_eq_true, true_and, Bool.and_eq_false_iff]
      by_cases hk1 : q.1 + 1 = i
      · right
        have hik : i = k + 1 := by omega
        subst hik
        intro hc
        rw [h3] at hc
        have := (mm_tr_two ad (mm_lget ls k)).mp hc
        rw [show mm_pre ls (k + 1) = mm_two (mm_lget ls k) from rfl, this] at hp
        cases hp
      · exact Or.inl hk1
theorem mm_tr_ad {ad ad' : Nat → Nat} {v : Value} (h : ∀ j : Nat, v = .ref j → ad' j = ad j) : mm_tr ad' v = mm_tr ad v := by
  cases v <;> first | rfl | (show Value.ref (ad' _) = Value.ref (ad _); rw [h _ rfl])
theorem mm_lget_mem : ∀ (ls : List Value) (k : Nat), mm_lget ls k = .null ∨ mm_lget ls k ∈ ls
  | [], k => Or.inl (mm_lget_nil k)
  | v :: t, 0 => Or.inr List.mem_cons_self
  | v :: t, k + 1 => (mm_lget_mem t k).imp id (fun h => List.mem_cons_of_mem _ h)
theorem mm_LR.ad {ad ad' : Nat → Nat} {lsR : Array Slot} {nL : Nat} {ls : List Value} (h : mm_LR ad lsR nL ls) (ha : ∀ v ∈ ls, ∀ j : Nat, v = .ref j → ad' j = ad j) : mm_LR ad' lsR nL ls := by
  refine ⟨⟨h.1.1, h.1.2.1, fun q hq => h.1.2.2 q ?_⟩, h.2⟩
  obtain ⟨k, h1, h2, h3⟩ := (mm_asc_mem _ _ _).mp hq
  rcases mm_lget_mem ls k with h4 | h4
  · exact absurd h4 h2
  · exact (mm_asc_mem _ _ _).mpr ⟨k, h1, h2, h3.trans (mm_tr_ad (ha _ h4))⟩
theorem mm_trs_ad {ad ad' : Nat → Nat} {st : List Value} (ha : ∀ v ∈ st, ∀ j : Nat, v = .ref j → ad' j = ad j) : st.map (mm_tr ad') = st.map (mm_tr ad) :=
  List.map_congr_left fun v hv => mm_tr_ad (ha v hv)
theorem mm_trs_cat (ad : Nat → Nat) (st : List Value) : ((st.map (mm_tr ad)).map fun v => v.category) = st.map Value.category := by
  rw [List.map_map]
  exact List.map_congr_left fun v _ => mm_tr_cat ad v
