/-! THE WORLD of the mini machine in the heap; the check of the printed instructions -/
def tp_v (ad : Nat → Nat) : Value → Value
  | .ref o => .ref (ad o)
  | v => v
theorem tp_v_cat {ad : Nat → Nat} {v : Value} : (tp_v ad v).category = v.category := by cases v <;> rfl
theorem tp_v_cats {ad : Nat → Nat} {st : List Value} : ((st.map (tp_v ad)).map fun v => v.category).sum = (st.map fun v => v.category).sum := by
  rw [List.map_map]
  congr 1
  exact List.map_congr_left fun v _ => tp_v_cat
def tp_nn : Value → Bool
  | .null => false
  | _ => true
def tp_al (ad : Nat → Nat) (L : List Value) : List (Nat × Value) := (List.range L.length).filterMap (fun i => (L[i]?).bind (fun v => if tp_nn v = true then some (i, tp_v ad v) else none))
theorem tp_al_mem {ad : Nat → Nat} {L : List Value} {q : Nat × Value} : q ∈ tp_al ad L ↔ ∃ v, L[q.1]? = some v ∧ tp_nn v = true ∧ q.2 = tp_v ad v := by
  unfold tp_al
  rw [List.mem_filterMap]
  constructor
  · rintro ⟨i, -, h⟩
    cases hi : L[i]? with
    | none => rw [hi] at h; cases h
    | some v =>
      rw [hi, Option.bind_some] at h
      by_cases hv : tp_nn v = true
      · rw [if_pos hv] at h
        cases h
        exact ⟨v, hi, hv, rfl⟩
      · rw [if_neg hv] at h
        cases h
  · rintro ⟨v, h1, h2, h3⟩
    refine ⟨q.1, List.mem_range.mpr (List.getElem?_eq_some_iff.mp h1).1, ?_⟩
    rw [h1, Option.bind_some, if_pos h2, ← h3]
def tp_lv (ad : Nat → Nat) (ls : Array Slot) (n : Nat) (L : List Value) : Prop := lv_has ls n (tp_al ad L) ∧ L.length = n
theorem tp_lv_get {ad : Nat → Nat} {ls : Array Slot} {n k : Nat} {L : List Value} {v : Value} (h : tp_lv ad ls n L) (hk : L[k]? = some v) (hv : tp_nn v = true) : ls[k]? = some (.val (tp_v ad v)) := h.1.2.2 (k, _) (tp_al_mem.mpr ⟨v, hk, hv, rfl⟩)
theorem tp_ok1_lt {L : List Value} {k : Nat} (h : tp_ok1 L k = true) : k < L.length := by
  simp only [tp_ok1, Bool.and_eq_true, decide_eq_true_eq] at h
  exact h.1
theorem tp_ok1_cat {L : List Value} {k j : Nat} {w : Value} (h : tp_ok1 L k = true) (hj : j + 1 = k) (hw : L[j]? = some w) : ¬ w.category = 2 := by
  subst hj
  simp only [tp_ok1, Bool.and_eq_true, decide_eq_true_eq, Bool.or_eq_true, beq_iff_eq, Bool.not_eq_true', Nat.add_sub_cancel] at h
  have h2 := h.2.resolve_left (by omega)
  rw [List.getD_eq_getElem?_getD, hw, Option.getD_some] at h2
  simpa using h2
theorem tp_lv_set1 {ad : Nat → Nat} {ls ls' : Array Slot} {n k : Nat} {L : List Value} {v : Value} (h : tp_lv ad ls n L) (hok : tp_ok1 L k = true)
    (hl : lv_has ls' n ((k, tp_v ad v) :: (tp_al ad L).filter (fun q => !(q.1 == k) && !(q.1 + 1 == k && q.2.category == 2)))) : tp_lv ad ls' n (L.set k v) := by
  refine ⟨⟨hl.1, hl.2.1, fun q hq => ?_⟩, by rw [List.length_set]; exact h.2⟩
  obtain ⟨w, h1, h2, h3⟩ := tp_al_mem.mp hq
  by_cases e : q.1 = k
  · rw [e, List.getElem?_set_self (tp_ok1_lt hok)] at h1
    cases h1
    have := hl.2.2 (k, tp_v ad v) List.mem_cons_self
    rw [e, h3]
    exact this
  · rw [List.getElem?_set_ne (Ne.symm e)] at h1
    refine hl.2.2 q (List.mem_cons_of_mem _ (List.mem_filter.mpr ⟨tp_al_mem.mpr ⟨w, h1, h2, h3⟩, ?_⟩))
    simp only [Bool.and_eq_true, Bool.not_eq_true', beq_eq_false_iff_ne, ne_eq, Bool.and_eq_false_iff]
    refine ⟨e, ?_⟩
    by_cases e2 : q.1 + 1 = k
    · right
      rw [h3, tp_v_cat]
      exact tp_ok1_cat hok e2 h1
    · exact Or.inl e2
theorem tp_lv_set2 {ad : Nat → Nat} {ls ls' : Array Slot} {n k : Nat} {L : List Value} {x : Int64} (h : tp_lv ad ls n L) (hok : tp_ok1 L k = true)
    (hl : lv_has ls' n ((k, .long x) :: (tp_al ad L).filter (fun q => !(q.1 == k) && (!(q.1 == k + 1) && !(q.1 + 1 == k && q.2.category == 2))))) : tp_lv ad ls' n ((L.set k (.long x)).set (k + 1) .null) := by
  refine ⟨⟨hl.1, hl.2.1, fun q hq => ?_⟩, by rw [List.length_set, List.length_set]; exact h.2⟩
  obtain ⟨w, h1, h2, h3⟩ := tp_al_mem.mp hq
  by_cases e : q.1 = k
  · rw [e, List.getElem?_set_ne (by omega), List.getElem?_set_self (tp_ok1_lt hok)] at h1
    cases h1
    have := hl.2.2 (k, .long x) List.mem_cons_self
    rw [e, h3]
    exact this
  · by_cases e1 : q.1 = k + 1
    · by_cases hlt : k + 1 < L.length
      · rw [e1, List.getElem?_set_self (by rw [List.length_set]; exact hlt)] at h1
        cases h1
        cases h2
      · rw [e1, List.getElem?_eq_none (by rw [List.length_set, List.length_set]; omega)] at h1
        cases h1
    · rw [List.getElem?_set_ne (Ne.symm e1), List.getElem?_set_ne (Ne.symm e)] at h1
      refine hl.2.2 q (List.mem_cons_of_mem _ (List.mem_filter.mpr ⟨tp_al_mem.mpr ⟨w, h1, h2, h3⟩, ?_⟩))
      simp only [Bool.and_eq_true, Bool.not_eq_true', beq_eq_false_iff_ne, ne_eq, Bool.and_eq_false_iff]
      refine ⟨e, e1, ?_⟩
      by_cases e2 : q.1 + 1 = k
      · right
        rw [h3, tp_v_cat]
        exact tp_ok1_cat hok e2 h1
      · exact Or.inl e2
/-! the cells -/
abbrev tp_CS : Type := ClassId × ClassId × ClassId × ClassId × ClassId
def tp_nf (c : Nat) : Nat := ((vwCl[c]?).map (fun q => q.2.2)).getD 0
def tp_fv (ad : Nat → Nat) (σ : tp_St) (o k : Nat) : Value := match tp_isR (tp_kd o) k with
  | true => .ref (ad (tp_rr σ o k))
  | false => .int (σ.1 o k)
def tp_fs (ad : Nat → Nat) (σ : tp_St) (o : Nat) : List Value := (List.range (tp_nf (tp_kd o))).map (tp_fv ad σ o)
def tp_cell (cs : tp_CS) (ad : Nat → Nat) (σ : tp_St) (o : Nat) : va_E :=
  if tp_kd o < 20 then .inr (tp_kd o, tp_fs ad σ o)
  else if tp_kd o = 20 then .inl (cs.1, tp_ln o, .inl (σ.1 o))
  else if tp_kd o = 21 then .inl (cs.2.1, tp_ln o, .inl (σ.1 o))
  else if tp_kd o = 22 then .inl (cs.2.2.1, tp_ln o, .inl (σ.1 o))
  else if tp_kd o = 23 then .inl (cs.2.2.2.1, tp_ln o, .inr (.inr (.inr (.inr (fun j => some (ad (tp_rr σ o j)))))))
  else .inl (cs.2.2.2.2, tp_ln o, .inr (.inr (.inr (.inr (fun j => some (ad (tp_rr σ o j)))))))
def tp_ws (cs : tp_CS) (ad : Nat → Nat) (σ : tp_St) : va_W := (List.range σ.2.1).map (fun o => (ad o, tp_cell cs ad σ o))
def tp_tys (cs : tp_CS) : List (ClassId × FieldType) := [(cs.1, .int), (cs.2.1, .byte), (cs.2.2.1, .boolean), (cs.2.2.2.1, .object RX5), (cs.2.2.2.2, .array .int)]
theorem tp_ws_at {cs : tp_CS} {ad : Nat → Nat} {σ : tp_St} {o : Nat} (h : o < σ.2.1) : (tp_ws cs ad σ)[o]? = some (ad o, tp_cell cs ad σ o) := by
  unfold tp_ws
  rw [List.getElem?_map, List.getElem?_range h]
  rfl
theorem tp_ws_len {cs : tp_CS} {ad : Nat → Nat} {σ : tp_St} : (tp_ws cs ad σ).length = σ.2.1 := by simp [tp_ws]
theorem tp_ws_set {cs : tp_CS} {ad : Nat → Nat} {σ σ' : tp_St} {o : Nat} {e : va_E} (ho : o < σ.2.1) (he : σ'.2 = σ.2) (h : e = tp_cell cs ad σ' o) (hh : ∀ o', o' ≠ o → tp_cell cs ad σ' o' = tp_cell cs ad σ o') : (tp_ws cs ad σ).set o (ad o, e) = tp_ws cs ad σ' := by
  have hN : σ'.2.1 = σ.2.1 := by rw [he]
  apply List.ext_getElem?
  intro k
  by_cases hk : k = o
  · subst hk
    rw [List.getElem?_set_self (by rw [tp_ws_len]; exact ho), tp_ws_at (by rw [hN]; exact ho), h]
  · rw [List.getElem?_set_ne (Ne.symm hk)]
    by_cases hl : k < σ.2.1
    · rw [tp_ws_at hl, tp_ws_at (by rw [hN]; exact hl), hh k hk]
    · rw [List.getElem?_eq_none (by rw [tp_ws_len]; omega), List.getElem?_eq_none (by rw [tp_ws_len, hN]; omega)]
theorem tp_kd_all : ∀ o, o < 101 → tp_kd o < 25 → o < 82 := by decide +kernel
theorem tp_kd_lt {o : Nat} (h : tp_kd o < 25) : o < 82 := by
  by_cases ho : o < 101
  · exact tp_kd_all o ho h
  · have h2 : tp_kd o = 99 := by
      unfold tp_kd
      rw [List.getD_eq_getElem?_getD, List.getElem?_eq_none (by show 101 ≤ o; omega)]
      rfl
    omega
theorem tp_kd_58a : ∀ o, o < 101 → tp_kd o < 25 → ¬ tp_kd o = 20 → o < 58 := by decide +kernel
theorem tp_kd_58 {o : Nat} (h : tp_kd o < 25) (h2 : ¬ tp_kd o = 20) : o < 58 := tp_kd_58a o (Nat.lt_of_lt_of_le (tp_kd_lt h) (by decide)) h h2
theorem tp_kd_11a : ∀ o, o < 101 → tp_kd o < 20 → tp_kd o < 11 := by decide +kernel
theorem tp_kd_11 {o : Nat} (h : tp_kd o < 20) : tp_kd o < 11 := tp_kd_11a o (Nat.lt_of_lt_of_le (tp_kd_lt (Nat.lt_of_lt_of_le h (by decide))) (by decide)) h
/-- so many objects there are, apart and in A -/
def tp_ap (ad : Nat → Nat) (A : Nat → Prop) (N : Nat) : Prop := (58 ≤ N ∧ N ≤ 82) ∧ (∀ i j, i < N → j < N → ad i = ad j → i = j) ∧ ∀ i, i < N → A (ad i)
theorem tp_ws_q {cs : tp_CS} {ad : Nat → Nat} {σ : tp_St} {k : Nat} {q : Nat × va_E} (h : (tp_ws cs ad σ)[k]? = some q) : k < σ.2.1 ∧ q = (ad k, tp_cell cs ad σ k) := by
  have hl : k < σ.2.1 := by have := (List.getElem?_eq_some_iff.mp h).1; rwa [tp_ws_len] at this
  rw [tp_ws_at hl] at h
  exact ⟨hl, (Option.some.inj h).symm⟩
theorem tp_ap_D {cs : tp_CS} {ad : Nat → Nat} {σ : tp_St} {A : Nat → Prop} (h : tp_ap ad A σ.2.1) : va_D A (tp_ws cs ad σ) := by
  refine ⟨fun i j x y hi hj hxy => ?_, fun k q hk => ?_⟩
  · obtain ⟨hi2, rfl⟩ := tp_ws_q hi
    obtain ⟨hj2, rfl⟩ := tp_ws_q hj
    exact h.2.1 i j hi2 hj2 hxy
  · obtain ⟨hk2, rfl⟩ := tp_ws_q hk
    exact h.2.2 k hk2
theorem tp_A_iff {cs : tp_CS} {ad : Nat → Nat} {σ : tp_St} {sz q : Nat} : va_A (tp_ws cs ad σ) sz q ↔ (∃ i, i < σ.2.1 ∧ q = ad i) ∨ sz ≤ q := by
  unfold va_A
  constructor
  · rintro (⟨k, e, h⟩ | h)
    · obtain ⟨hk, he⟩ := tp_ws_q h
      exact Or.inl ⟨k, hk, congrArg Prod.fst he⟩
    · exact Or.inr h
  · rintro (⟨i, hi, rfl⟩ | h)
    · exact Or.inl ⟨i, _, tp_ws_at hi⟩
    · exact Or.inr h
/-! writing an int -/
theorem tp_up_self {f : Nat → Nat → Int32} {o k : Nat} {v : Int32} : tp_up f o k v o = upd (f o) k v := by
  funext j
  simp [tp_up, upd]
theorem tp_up_ne {f : Nat → Nat → Int32} {o o' k : Nat} {v : Int32} (h : o' ≠ o) : tp_up f o k v o' = f o' := by
  funext j
  simp [tp_up, h]
theorem tp_rr_set {σ : tp_St} {o k o' k' : Nat} {v : Int32} : tp_rr (tp_set σ o k v) o' k' = tp_rr σ o' k' := rfl
theorem tp_cell_ne {cs : tp_CS} {ad : Nat → Nat} {σ : tp_St} {o o' k : Nat} {v : Int32} (h : o' ≠ o) : tp_cell cs ad (tp_set σ o k v) o' = tp_cell cs ad σ o' := by
  have e : (tp_set σ o k v).1 o' = σ.1 o' := tp_up_ne h
  have e2 : tp_fs ad (tp_set σ o k v) o' = tp_fs ad σ o' := by
    unfold tp_fs tp_fv
    rw [e]
    rfl
  unfold tp_cell
  rw [e, e2]
  rfl
theorem tp_fs_set {ad : Nat → Nat} {σ : tp_St} {o k : Nat} {v : Int32} (hr : tp_isR (tp_kd o) k = false) : (tp_fs ad σ o).set k (.int v) = tp_fs ad (tp_set σ o k v) o := by
  apply List.ext_getElem?
  intro j
  unfold tp_fs
  by_cases hj : j = k
  · subst hj
    by_cases hl : j < tp_nf (tp_kd o)
    · rw [List.getElem?_set_self (by simpa using hl), List.getElem?_map, List.getElem?_range hl]
      simp [tp_fv, hr, tp_set, tp_up]
    · rw [List.getElem?_eq_none (by simp; omega), List.getElem?_eq_none (by simp; omega)]
  · rw [List.getElem?_set_ne (Ne.symm hj), List.getElem?_map, List.getElem?_map]
    by_cases hl : j < tp_nf (tp_kd o)
    · rw [List.getElem?_range hl]
      simp only [Option.map_some, tp_fv, tp_rr_set]
      rw [show (tp_set σ o k v).1 o j = σ.1 o j by simp [tp_set, tp_up, hj]]
    · rw [List.getElem?_eq_none (by simp; omega)]
      rfl
theorem tp_set_big {σ : tp_St} {q k o : Nat} {v : Int32} (hq : q < 82) (ho : 82 ≤ o) : (tp_set σ q k v).1 o = σ.1 o := tp_up_ne (by omega)
theorem tp_vwcl : vwCl.length = 10 := by decide +kernel
theorem tp_mathmax : (tp_wd (.static Lib.Math.max.name) tp_pmax.1 && (tp_wd (.initialized "java/lang/Math") tp_pmax.2.1 && tp_wd (.code Lib.Math.max.name Lib.Math.max.code 2 (some .int)) tp_pmax.2.2)) = true := by decide +kernel
theorem tp_mathmin : (tp_wd (.static Lib.Math.min.name) tp_pmin.1 && (tp_wd (.initialized "java/lang/Math") tp_pmin.2.1 && tp_wd (.code Lib.Math.min.name Lib.Math.min.code 2 (some .int)) tp_pmin.2.2)) = true := by decide +kernel
