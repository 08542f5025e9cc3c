/-! THE BEGIN: what the tables and the premises give -/
theorem bg_inst : ∀ (a : Nat) (q : vw_C), vwCl[a]? = some q → Cond.instantiable q.1 q.2.2 ∈ tp_gt
  | 0, q, h => by cases h; exact tp_gt_in (i := 177) (by decide +kernel)
  | 1, q, h => by cases h; exact tp_gt_in (i := 210) (by decide +kernel)
  | 2, q, h => by cases h; exact tp_gt_in (i := 90) (by decide +kernel)
  | 3, q, h => by cases h; exact tp_gt_in (i := 266) (by decide +kernel)
  | 4, q, h => by cases h; exact tp_gt_in (i := 130) (by decide +kernel)
  | 5, q, h => by cases h; exact tp_gt_in (i := 158) (by decide +kernel)
  | 6, q, h => by cases h; exact tp_gt_in (i := 183) (by decide +kernel)
  | 7, q, h => by cases h; exact tp_gt_in (i := 106) (by decide +kernel)
  | 8, q, h => by cases h; exact tp_gt_in (i := 70) (by decide +kernel)
  | 9, q, h => by cases h; exact tp_gt_in (i := 62) (by decide +kernel)
  | 10, q, h => by cases h; exact tp_gt_in (i := 796) (by decide +kernel)
  | k + 11, q, h => by
    rw [List.getElem?_eq_none (by rw [tp_vwcl]; omega)] at h
    cases h
theorem bg_classes {s : State} {args : Array Value} (hts : ∀ w ∈ tp_gt, w.before args s = true) : ∃ D : va_G, ∀ (c : Nat) (q : vw_C), vwCl[c]? = some q → u_Kn s q.1 q.2.1 q.2.2 (D.1 c) (D.2 c) := by
  have h : ∀ c : Nat, ∃ z : ClassId × (Nat → Nat), ∀ q, vwCl[c]? = some q → u_Kn s q.1 q.2.1 q.2.2 z.1 z.2 := by
    intro c
    cases hc : vwCl[c]? with
    | none => exact ⟨(0, fun _ => 0), fun q h => by cases h⟩
    | some q =>
      obtain ⟨hin, -⟩ := tp_clf c q.1 q.2.1 q.2.2 hc
      obtain ⟨cC, iS, hk⟩ := u_known hts hin (hts _ (bg_inst c q hc))
      exact ⟨(cC, iS), fun q' h => by cases h; exact hk⟩
  exact ⟨(fun c => (Classical.choose (h c)).1, fun c => (Classical.choose (h c)).2), fun c q hq => Classical.choose_spec (h c) q hq⟩
theorem bg_prim {s : State} {args : Array Value} {ty : FieldType} (h : (Cond.arrayClass ty).before args s = true) : ∃ cA, s.vm.findClass ("[" ++ ty.toString) = some cA ∧ ArrOfT s cA ty := by
  obtain ⟨cA, k, comp, h1, h2, h3⟩ := Cond.arrayClass_spec h
  exact ⟨cA, h1, fun n z => ⟨fun k h => (by cases h), k, h2, comp, h3⟩⟩
theorem bg_tb {s : State} {args : Array Value} (htbl : ∀ w ∈ lw_tbl, w.before args s = true) (i : Nat) {w : Cond} (h : lw_tbl[i]? = some w) : w.before args s = true := htbl w (List.mem_of_getElem? h)
theorem bg_arr {s : State} {args : Array Value} (htbl : ∀ w ∈ lw_tbl, w.before args s = true) : ∃ cs : tp_CS, ∀ (k : Nat) (q : ClassId × FieldType), (tp_tys cs)[k]? = some q → ArrOfT s q.1 q.2 ∧ va_RA s q.1 q.2 := by
  obtain ⟨c1, f1, a1⟩ := bg_prim (bg_tb htbl 88 (w := .arrayClass .int) (by decide +kernel))
  obtain ⟨c2, f2, a2⟩ := bg_prim (bg_tb htbl 208 (w := .arrayClass .byte) (by decide +kernel))
  obtain ⟨c3, f3, a3⟩ := bg_prim (bg_tb htbl 128 (w := .arrayClass .boolean) (by decide +kernel))
  obtain ⟨comp4, c4, k4, e1, -, e3, e4, e5⟩ := Cond.arrayOver_spec (bg_tb htbl 157 (w := .arrayOver (.object "TramPence$Sheet")) (by decide +kernel))
  obtain ⟨comp5, c5, k5, g1, -, g3, g4, g5⟩ := arrayOverA_spec (bg_tb htbl 96 (w := .arrayOver (.array .int)) (by decide +kernel))
  refine ⟨(c1, c2, c3, c4, c5), fun k q hk => ?_⟩
  match k, hk with
  | 0, hk => cases hk; exact ⟨a1, f1⟩
  | 1, hk => cases hk; exact ⟨a2, f2⟩
  | 2, hk => cases hk; exact ⟨a3, f3⟩
  | 3, hk => cases hk; exact ⟨fun n z => ⟨fun k h => (by cases h), k4, e3, comp4, e4⟩, k4, comp4, e3, e4, e1, e5⟩
  | 4, hk => cases hk; exact ⟨fun n z => ⟨fun k h => (by cases h), k5, g3, comp5, g4⟩, g5⟩
  | k + 5, hk => cases hk
theorem bg_E {s : State} {args : Array Value} (htbl : ∀ w ∈ lw_tbl, w.before args s = true) : ct_E s := by
  refine ⟨fun q hq => va_Nw.of rfl (htbl _ ?_), va_AO.of (A := args) (bg_tb htbl 157 (w := .arrayOver (.object "TramPence$Sheet")) (by decide +kernel)), over_moved (Vm.Alike.refl s.vm) (bg_tb htbl 96 (w := .arrayOver (.array .int)) (by decide +kernel))⟩
  have h : ∀ q ∈ ct_nl, Cond.methodLinkNest q.1 q.2.1 q.2.2 "TramPence" ∈ lw_tbl := by decide +kernel
  exact h q hq
/-! statics and Strings -/
theorem bg_T {ty : FieldType} {t N : Nat} {f g : Nat → Value} {A : Nat → Prop} {U : State} {H : Heap} (h : va_T ty t N f A U H) (e : ∀ j, j < N → f j = g j) : va_T ty t N g A U H := by
  obtain ⟨cell, h1, h2, h3, h4, h5, h6, h7⟩ := h
  exact ⟨cell, h1, h2, h3, h4, h5, fun j hj => by rw [← e j hj]; exact h6 j hj, h7⟩
theorem bg_S {N : Nat} {len : List Nat} {byt : List (List Int32)} {adK adV aK aV : Nat → Nat} {A : Nat → Prop} {U : State} {H : Heap} (h : vk_S N len byt adK adV A U H) (e : ∀ j, j < N → adK j = aK j ∧ adV j = aV j) : vk_S N len byt aK aV A U H := by
  refine ⟨fun i hi => ?_, fun i j hi hj q => h.2 i j hi hj (by rw [(e i hi).1, (e j hj).1]; exact q)⟩
  rw [← (e i hi).1, ← (e i hi).2]
  exact h.1 i hi
def bg_ld : List Int32 := [2, 3, 1]
def bg_ll : List Int32 := [1, 1, 0, 0, 1, 0, 0, 0, 0]
def bg_lm : List Int32 := [9, 999, 0, 23, 24, 100, 120, 0, 0]
def bg_tm (i : Nat) : Term := .string "TramPence$Tape" ([39, 50, 52].getD i 0)
def bg_ln : List Nat := [4, 4, 6]
theorem bg_tab {s : State} {args : Array Value} {A : Nat → Prop} (htbl : ∀ w ∈ lw_tbl, w.before args s = true) (hgv : ∀ w ∈ flatC (Jvm.Cond.and given_1 narrow_1), w.before args s = true) (hA : ∀ a : Nat, a < s.heap.size → ¬ A a) (nm : String) (L : List Int32) (i1 : Nat) (h1 : lw_tbl[i1]? = some (.laysStatic RX0 nm "[I")) (h2 : Cond.arrayOf (.static RX0 nm "[I") .int ∈ flatC (Jvm.Cond.and given_1 narrow_1)) (h3 : Cond.eq (.length (.static RX0 nm "[I")) (.int (Int32.ofNat L.length)) ∈ flatC (Jvm.Cond.and given_1 narrow_1)) (h4 : ∀ j, j < L.length → Cond.eq (.elem (.static RX0 nm "[I") (.int (Int32.ofNat j))) (.int (L.getD j 0)) ∈ flatC (Jvm.Cond.and given_1 narrow_1)) (hl : L.length < 2 ^ 31) :
    ∃ t : Nat, va_Z RX0 nm "[I" (.ref t) A s s.heap ∧ va_T .int t L.length (fun j => .int (L.getD j 0)) A s s.heap := by
  obtain ⟨t, ht, hT⟩ := va_Tof (A := A) (f := fun j => .int (L.getD j 0)) hl (hgv _ h2) (va_eqt (hgv _ h3)) (fun j hj => va_eqt (hgv _ (h4 j hj))) hA
  exact ⟨t, va_Zref (bg_tb htbl i1 h1) (bg_tb htbl 51 (by decide +kernel)) ht hA, hT⟩
theorem bg_kd {o : Nat} (h : tp_kd o = 27) : o = 91 ∨ o = 92 ∨ o = 93 := by
  by_cases ho : o < 101
  · exact (by decide +kernel : ∀ o, o < 101 → tp_kd o = 27 → o = 91 ∨ o = 92 ∨ o = 93) o ho h
  · have h2 : tp_kd o = 99 := by
      unfold tp_kd
      rw [List.getD_eq_getElem?_getD, List.getElem?_eq_none (by show 101 ≤ o; omega)]
      rfl
    omega
theorem bg_sr {own tx : String} {k : Nat} {A : Array Value} {s : State} (h : (Cond.stringRef own k tx).before A s = true) : (Cond.stringRef own k tx).before #[] s = true := by
  first | exact h | (simp only [Cond.before, Cond.holds, Cond.value] at h ⊢; exact h)
theorem bg_str {s : State} {args : Array Value} {A : Nat → Prop} (htbl : ∀ w ∈ lw_tbl, w.before args s = true) (hgv : ∀ w ∈ flatC (Jvm.Cond.and given_1 narrow_1), w.before args s = true) (hA : ∀ a : Nat, a < s.heap.size → ¬ A a) : ∃ aK aV : Nat → Nat, vk_S 3 [4, 4, 6] tp_bytes aK aV A s s.heap ∧ vk_R "TramPence$Tape" 39 "fare" (aK 0) s ∧ vk_R "TramPence$Tape" 50 "work" (aK 1) s ∧ vk_R "TramPence$Tape" 52 "change" (aK 2) s := by
  have hne : ∀ i, i < 3 → ∀ j, j < 3 → i ≠ j → Cond.not (Cond.eq (bg_tm i) (bg_tm j)) ∈ flatC (Jvm.Cond.and given_1 narrow_1) ∨ Cond.not (Cond.eq (bg_tm j) (bg_tm i)) ∈ flatC (Jvm.Cond.and given_1 narrow_1) := by decide +kernel
  have hex : ∀ i, i < 3 → Cond.exactly (bg_tm i) "java/lang/String" ∈ flatC (Jvm.Cond.and given_1 narrow_1) := by decide +kernel
  have hco : ∀ i, i < 3 → Cond.eq (.field (bg_tm i) "java/lang/String" "coder" "B") (.int 0) ∈ flatC (Jvm.Cond.and given_1 narrow_1) := by decide +kernel
  have har : ∀ i, i < 3 → Cond.arrayOf (.field (bg_tm i) "java/lang/String" "value" "[B") .byte ∈ flatC (Jvm.Cond.and given_1 narrow_1) := by decide +kernel
  have hle : ∀ i, i < 3 → Cond.eq (.length (.field (bg_tm i) "java/lang/String" "value" "[B")) (.int (Int32.ofNat (bg_ln.getD i 0))) ∈ flatC (Jvm.Cond.and given_1 narrow_1) := by decide +kernel
  have hel : ∀ i, i < 3 → ∀ j, j < bg_ln.getD i 0 → Cond.eq (.elem (.field (bg_tm i) "java/lang/String" "value" "[B") (.int (Int32.ofNat j))) (.int ((tp_bytes.getD i []).getD j 0)) ∈ flatC (Jvm.Cond.and given_1 narrow_1) := by decide +kernel
  have hln : ∀ i, i < 3 → bg_ln.getD i 0 < 2 ^ 31 := by decide
  obtain ⟨aK, aV, hS, hev⟩ := vk_Sof (A := A) (args := args) (s := s) (N := 3) (tm := bg_tm) (len := bg_ln) (byt := tp_bytes) hln (fun i hi => hgv _ (hex i hi)) (fun i hi => hgv _ (hco i hi)) (fun i hi => hgv _ (har i hi)) (fun i hi => hgv _ (hle i hi)) (fun i hi j hj => hgv _ (hel i hi j hj)) (fun i j hi hj hij => (hne i hi j hj hij).imp (hgv _) (hgv _)) hA
  have e : ∀ i, i < 3 → (bg_tm i).eval #[] s none [] s = (bg_tm i).eval args s none [] s := fun i _ => Term.string_eval_of_vm (args := #[]) rfl
  refine ⟨aK, aV, hS, ?_, ?_, ?_⟩
  · exact ⟨bg_sr (bg_tb htbl 589 (w := .stringRef "TramPence$Tape" 39 "fare") (by decide +kernel)), (e 0 (by decide)).trans (hev 0 (by decide))⟩
  · exact ⟨bg_sr (bg_tb htbl 642 (w := .stringRef "TramPence$Tape" 50 "work") (by decide +kernel)), (e 1 (by decide)).trans (hev 1 (by decide))⟩
  · exact ⟨bg_sr (bg_tb htbl 643 (w := .stringRef "TramPence$Tape" 52 "change") (by decide +kernel)), (e 2 (by decide)).trans (hev 2 (by decide))⟩
theorem bg_ro {s : State} {args : Array Value} {A : Nat → Prop} (htbl : ∀ w ∈ lw_tbl, w.before args s = true) (hgv : ∀ w ∈ flatC (Jvm.Cond.and given_1 narrow_1), w.before args s = true) (hA : ∀ a : Nat, a < s.heap.size → ¬ A a) : ∃ z : Nat → Nat, ∀ (ad : Nat → Nat) (σ : tp_St), (∀ k, k < 10 → ad (91 + k) = z k) → (∀ j, j < 3 → σ.1 91 j = bg_ld.getD j 0) → (∀ j, j < 9 → σ.1 92 j = bg_ll.getD j 0) → (∀ j, j < 9 → σ.1 93 j = bg_lm.getD j 0) → tp_ro ad A s s.heap σ := by
  obtain ⟨t1, z1, x1⟩ := bg_tab htbl hgv hA "HAS" bg_ld 665 (by decide +kernel) (by decide +kernel) (by decide +kernel) (by decide +kernel) (by decide)
  obtain ⟨t2, z2, x2⟩ := bg_tab htbl hgv hA "LEAST_OF" bg_ll 680 (by decide +kernel) (by decide +kernel) (by decide +kernel) (by decide +kernel) (by decide)
  obtain ⟨t3, z3, x3⟩ := bg_tab htbl hgv hA "MOST_OF" bg_lm 682 (by decide +kernel) (by decide +kernel) (by decide +kernel) (by decide +kernel) (by decide)
  obtain ⟨aK, aV, hS, r1, r2, r3⟩ := bg_str htbl hgv hA
  have hc : va_Z "java/lang/String" "COMPACT_STRINGS" "Z" (.int 1) A s s.heap := va_Zof (bg_tb htbl 603 (by decide +kernel)) (bg_tb htbl 57 (by decide +kernel)) (va_eqi (hgv (.eq (.static "java/lang/String" "COMPACT_STRINGS" "Z") (.int 1)) (by decide +kernel))) hA
  have hq : va_Zq "jdk/internal/util/Preconditions" "SIOOBE_FORMATTER" "Ljava/util/function/BiFunction;" A s s.heap := va_Zqof (bg_tb htbl 619 (by decide +kernel)) (bg_tb htbl 59 (by decide +kernel)) (hgv (.isRef (.static "jdk/internal/util/Preconditions" "SIOOBE_FORMATTER" "Ljava/util/function/BiFunction;")) (by decide +kernel)) hA
  have hn : va_Nw tp_nest s := va_Nw.of rfl (bg_tb htbl 683 (w := tp_nest) (by decide +kernel))
  have fin : ∀ t9, (va_Z "jdk/internal/util/Preconditions" "SIOOBE_FORMATTER" "Ljava/util/function/BiFunction;" .null A s s.heap ∨ va_Z "jdk/internal/util/Preconditions" "SIOOBE_FORMATTER" "Ljava/util/function/BiFunction;" (.ref t9) A s s.heap) → ∃ z : Nat → Nat, ∀ (ad : Nat → Nat) (σ : tp_St), (∀ k, k < 10 → ad (91 + k) = z k) → (∀ j, j < 3 → σ.1 91 j = bg_ld.getD j 0) → (∀ j, j < 9 → σ.1 92 j = bg_ll.getD j 0) → (∀ j, j < 9 → σ.1 93 j = bg_lm.getD j 0) → tp_ro ad A s s.heap σ := by
    intro t9 h9
    refine ⟨fun k => [t1, t2, t3, aK 0, aK 1, aK 2, aV 0, aV 1, aV 2, t9].getD k 0, fun ad σ had d1 d2 d3 => ?_⟩
    have a0 : ad 91 = t1 := had 0 (by decide)
    have a1 : ad 92 = t2 := had 1 (by decide)
    have a2 : ad 93 = t3 := had 2 (by decide)
    have a3 : ad 94 = aK 0 := had 3 (by decide)
    have a4 : ad 95 = aK 1 := had 4 (by decide)
    have a5 : ad 96 = aK 2 := had 5 (by decide)
    have a6 : ad 97 = aV 0 := had 6 (by decide)
    have a7 : ad 98 = aV 1 := had 7 (by decide)
    have a8 : ad 99 = aV 2 := had 8 (by decide)
    have a9 : ad 100 = t9 := had 9 (by decide)
    refine ⟨by rw [a0]; exact z1, by rw [a1]; exact z2, by rw [a2]; exact z3, fun o ho => ?_, hc, by rw [a9]; exact h9, bg_S hS (fun j hj => ?_), by rw [a3]; exact r1, by rw [a4]; exact r2, by rw [a5]; exact r3, hn⟩
    · rcases bg_kd ho with rfl | rfl | rfl
      · rw [a0]
        exact bg_T x1 (fun j hj => by rw [d1 j hj])
      · rw [a1]
        exact bg_T x2 (fun j hj => by rw [d2 j hj])
      · rw [a2]
        exact bg_T x3 (fun j hj => by rw [d3 j hj])
    · match j, hj with
      | 0, _ => exact ⟨a3.symm, a6.symm⟩
      | 1, _ => exact ⟨a4.symm, a7.symm⟩
      | 2, _ => exact ⟨a5.symm, a8.symm⟩
      | k + 3, h => omega
  rcases hq with h | ⟨t, h⟩
  · exact fin 0 (Or.inl h)
  · exact fin t (Or.inr h)
