/-! THE BEGIN: what the tables and the premises give -/
theorem bg_inst : ∀ (a : Nat) (q : vw_C), vwCl[a]? = some q → Cond.instantiable q.1 q.2.2 ∈ tp_gt
  | 0, q, h => by cases h; exact tp_gt_in (i := 129) (by decide +kernel)
  | 1, q, h => by cases h; exact tp_gt_in (i := 154) (by decide +kernel)
  | 2, q, h => by cases h; exact tp_gt_in (i := 47) (by decide +kernel)
  | 3, q, h => by cases h; exact tp_gt_in (i := 202) (by decide +kernel)
  | 4, q, h => by cases h; exact tp_gt_in (i := 86) (by decide +kernel)
  | 5, q, h => by cases h; exact tp_gt_in (i := 114) (by decide +kernel)
  | 6, q, h => by cases h; exact tp_gt_in (i := 135) (by decide +kernel)
  | 7, q, h => by cases h; exact tp_gt_in (i := 63) (by decide +kernel)
  | 8, q, h => by cases h; exact tp_gt_in (i := 28) (by decide +kernel)
  | 9, q, h => by cases h; exact tp_gt_in (i := 20) (by decide +kernel)
  | k + 10, q, h => by
    rw [List.getElem?_eq_none (by rw [tp_vwcl]; omega)] at h
    cases h
theorem bg_classes {s : State} {args : Array Value} (hts : ∀ w ∈ tp_gt, w.before args s = true) : ∃ D : va_G, ∀ (c : Nat) (q : vw_C), vwCl[c]? = some q → u_Kn s q.1 q.2.1 q.2.2 (D.1 c) (D.2 c) := by
  have h : ∀ c : Nat, ∃ z : ClassId × (Nat → Nat), ∀ q, vwCl[c]? = some q → u_Kn s q.1 q.2.1 q.2.2 z.1 z.2 := by
    intro c
    cases hc : vwCl[c]? with
    | none => exact ⟨(0, fun _ => 0), fun q h => by cases h⟩
    | some q =>
      obtain ⟨hin, -⟩ := tp_clf c q.1 q.2.1 q.2.2 hc
      obtain ⟨cC, iS, hk⟩ := u_known hts hin (hts _ (bg_inst c q hc))
      exact ⟨(cC, iS), fun q' h => by cases h; exact hk⟩
  exact ⟨(fun c => (Classical.choose (h c)).1, fun c => (Classical.choose (h c)).2), fun c q hq => Classical.choose_spec (h c) q hq⟩
theorem bg_prim {s : State} {args : Array Value} {ty : FieldType} (h : (Cond.arrayClass ty).before args s = true) : ∃ cA, s.vm.findClass ("[" ++ ty.toString) = some cA ∧ ArrOfT s cA ty := by
  obtain ⟨cA, k, comp, h1, h2, h3⟩ := Cond.arrayClass_spec h
  exact ⟨cA, h1, fun n z => ⟨fun k h => (by cases h), k, h2, comp, h3⟩⟩
theorem bg_tb {s : State} {args : Array Value} (htbl : ∀ w ∈ lw_tbl, w.before args s = true) (i : Nat) {w : Cond} (h : lw_tbl[i]? = some w) : w.before args s = true := htbl w (List.mem_of_getElem? h)
theorem bg_arr {s : State} {args : Array Value} (htbl : ∀ w ∈ lw_tbl, w.before args s = true) : ∃ cs : tp_CS, ∀ (k : Nat) (q : ClassId × FieldType), (tp_tys cs)[k]? = some q → ArrOfT s q.1 q.2 ∧ va_RA s q.1 q.2 := by
  obtain ⟨c1, f1, a1⟩ := bg_prim (bg_tb htbl 45 (w := .arrayClass .int) (by decide +kernel))
  obtain ⟨c2, f2, a2⟩ := bg_prim (bg_tb htbl 152 (w := .arrayClass .byte) (by decide +kernel))
  obtain ⟨c3, f3, a3⟩ := bg_prim (bg_tb htbl 84 (w := .arrayClass .boolean) (by decide +kernel))
  obtain ⟨comp4, c4, k4, e1, -, e3, e4, e5⟩ := Cond.arrayOver_spec (bg_tb htbl 113 (w := .arrayOver (.object "TramPence$Sheet")) (by decide +kernel))
  obtain ⟨comp5, c5, k5, g1, -, g3, g4, g5⟩ := arrayOverA_spec (bg_tb htbl 53 (w := .arrayOver (.array .int)) (by decide +kernel))
  refine ⟨(c1, c2, c3, c4, c5), fun k q hk => ?_⟩
  match k, hk with
  | 0, hk => cases hk; exact ⟨a1, f1⟩
  | 1, hk => cases hk; exact ⟨a2, f2⟩
  | 2, hk => cases hk; exact ⟨a3, f3⟩
  | 3, hk => cases hk; exact ⟨fun n z => ⟨fun k h => (by cases h), k4, e3, comp4, e4⟩, k4, comp4, e3, e4, e1, e5⟩
  | 4, hk => cases hk; exact ⟨fun n z => ⟨fun k h => (by cases h), k5, g3, comp5, g4⟩, g5⟩
  | k + 5, hk => cases hk
theorem bg_E {s : State} {args : Array Value} (htbl : ∀ w ∈ lw_tbl, w.before args s = true) : ct_E s := by
  refine ⟨fun q hq => va_Nw.of rfl (htbl _ ?_), va_AO.of (A := args) (bg_tb htbl 113 (w := .arrayOver (.object "TramPence$Sheet")) (by decide +kernel)), over_moved (Vm.Alike.refl s.vm) (bg_tb htbl 53 (w := .arrayOver (.array .int)) (by decide +kernel))⟩
  have h : ∀ q ∈ ct_nl, Cond.methodLinkNest q.1 q.2.1 q.2.2 "TramPence" ∈ lw_tbl := by decide +kernel
  exact h q hq
theorem bg_T {ty : FieldType} {t N : Nat} {f g : Nat → Value} {A : Nat → Prop} {U : State} {H : Heap} (h : va_T ty t N f A U H) (e : ∀ j, j < N → f j = g j) : va_T ty t N g A U H := by
  obtain ⟨cell, h1, h2, h3, h4, h5, h6, h7⟩ := h
  exact ⟨cell, h1, h2, h3, h4, h5, fun j hj => by rw [← e j hj]; exact h6 j hj, h7⟩
