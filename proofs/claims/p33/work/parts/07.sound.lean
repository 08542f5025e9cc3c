theorem tp_i1_e {st : List Value} {f : Int32 → List Value → Prop} (h : tp_i1 st f) : ∃ x r, st = .int x :: r ∧ f x r := by
  unfold tp_i1 at h
  split at h <;> first | exact ⟨_, _, rfl, h⟩ | exact h.elim
theorem tp_i2_e {st : List Value} {f : Int32 → Int32 → List Value → Prop} (h : tp_i2 st f) : ∃ x y r, st = .int y :: .int x :: r ∧ f x y r := by
  unfold tp_i2 at h
  split at h <;> first | exact ⟨_, _, _, rfl, h⟩ | exact h.elim
theorem tp_l1_e {st : List Value} {f : Int64 → List Value → Prop} (h : tp_l1 st f) : ∃ x r, st = .long x :: r ∧ f x r := by
  unfold tp_l1 at h
  split at h <;> first | exact ⟨_, _, rfl, h⟩ | exact h.elim
theorem tp_l2_e {st : List Value} {f : Int64 → Int64 → List Value → Prop} (h : tp_l2 st f) : ∃ x y r, st = .long y :: .long x :: r ∧ f x y r := by
  unfold tp_l2 at h
  split at h <;> first | exact ⟨_, _, _, rfl, h⟩ | exact h.elim
theorem tp_il_e {st : List Value} {f : Int64 → Int32 → List Value → Prop} (h : tp_il st f) : ∃ x y r, st = .int y :: .long x :: r ∧ f x y r := by
  unfold tp_il at h
  split at h <;> first | exact ⟨_, _, _, rfl, h⟩ | exact h.elim
theorem tp_r1_e {st : List Value} {f : Nat → List Value → Prop} (h : tp_r1 st f) : ∃ x r, st = .ref x :: r ∧ f x r := by
  unfold tp_r1 at h
  split at h <;> first | exact ⟨_, _, rfl, h⟩ | exact h.elim
theorem tp_ri_e {st : List Value} {f : Nat → Int32 → List Value → Prop} (h : tp_ri st f) : ∃ x y r, st = .int y :: .ref x :: r ∧ f x y r := by
  unfold tp_ri at h
  split at h <;> first | exact ⟨_, _, _, rfl, h⟩ | exact h.elim
theorem tp_rii_e {st : List Value} {f : Nat → Int32 → Int32 → List Value → Prop} (h : tp_rii st f) : ∃ x y z r, st = .int z :: .int y :: .ref x :: r ∧ f x y z r := by
  unfold tp_rii at h
  split at h <;> first | exact ⟨_, _, _, _, rfl, h⟩ | exact h.elim
theorem tp_r2_e {st : List Value} {f : Nat → Nat → List Value → Prop} (h : tp_r2 st f) : ∃ x y r, st = .ref y :: .ref x :: r ∧ f x y r := by
  unfold tp_r2 at h
  split at h <;> first | exact ⟨_, _, _, rfl, h⟩ | exact h.elim
theorem tp_chk_e {b : Bool} {P : Prop} (h : tp_chk b P) : b = true ∧ P := by cases b <;> first | exact h.elim | exact ⟨rfl, h⟩
theorem tp_a1_e {st : List Value} {f : Value → List Value → Prop} (h : tp_a1 st f) : ∃ x r, st = x :: r ∧ x.category = 1 ∧ f x r := by
  unfold tp_a1 at h
  split at h
  · obtain ⟨h1, h2⟩ := tp_chk_e h
    simp only [Bool.and_eq_true, beq_iff_eq] at h1
    exact ⟨_, _, rfl, h1, h2⟩
  · exact h.elim
theorem tp_a2_e {st : List Value} {f : Value → Value → List Value → Prop} (h : tp_a2 st f) : ∃ x y r, st = x :: y :: r ∧ x.category = 1 ∧ y.category = 1 ∧ f x y r := by
  unfold tp_a2 at h
  split at h
  · obtain ⟨h1, h2⟩ := tp_chk_e h
    simp only [Bool.and_eq_true, beq_iff_eq] at h1
    exact ⟨_, _, _, rfl, h1.1, h1.2, h2⟩
  · exact h.elim
theorem tp_a3_e {st : List Value} {f : Value → Value → Value → List Value → Prop} (h : tp_a3 st f) : ∃ x y z r, st = x :: y :: z :: r ∧ x.category = 1 ∧ y.category = 1 ∧ z.category = 1 ∧ f x y z r := by
  unfold tp_a3 at h
  split at h
  · obtain ⟨h1, h2⟩ := tp_chk_e h
    simp only [Bool.and_eq_true, beq_iff_eq] at h1
    exact ⟨_, _, _, _, rfl, h1.1.1, h1.1.2, h1.2, h2⟩
  · exact h.elim
theorem tp_gi_e {L : List Value} {k : Nat} {f : Int32 → Prop} (h : tp_gi L k f) : ∃ x, L[k]? = some (.int x) ∧ f x := by
  unfold tp_gi at h
  split at h
  · rename_i x hx
    exact ⟨x, hx, h⟩
  · exact h.elim
theorem tp_gl_e {L : List Value} {k : Nat} {f : Int64 → Prop} (h : tp_gl L k f) : ∃ x, L[k]? = some (.long x) ∧ f x := by
  unfold tp_gl at h
  split at h
  · rename_i x hx
    exact ⟨x, hx, h⟩
  · exact h.elim
theorem tp_gr_e {L : List Value} {k : Nat} {f : Nat → Prop} (h : tp_gr L k f) : ∃ x, L[k]? = some (.ref x) ∧ f x := by
  unfold tp_gr at h
  split at h
  · rename_i x hx
    exact ⟨x, hx, h⟩
  · exact h.elim
/-- what is only read is the same, and how many objects there are -/
def tp_eq (σ σ0 : tp_St) : Prop := (∀ o, 82 ≤ o → σ.1 o = σ0.1 o) ∧ σ.2 = σ0.2
theorem tp_eq.tr {a b c : tp_St} (h : tp_eq a b) (h2 : tp_eq b c) : tp_eq a c := ⟨fun o ho => (h.1 o ho).trans (h2.1 o ho), h.2.trans h2.2⟩
theorem tp_eq.set {σ σ0 : tp_St} {q k : Nat} {v : Int32} (hq : q < 82) (h : tp_eq σ σ0) : tp_eq (tp_set σ q k v) σ0 := ⟨fun o ho => (tp_set_big hq ho).trans (h.1 o ho), h.2⟩
def tp_Wd (D : va_G) (cs : tp_CS) (ad : Nat → Nat) (A : Nat → Prop) (s : State) (σ0 σ : tp_St) (H : Heap) (locs : List Loc) : Prop := va_P D vwCl (tp_ws cs ad σ) H ∧ tp_eq σ σ0 ∧ va_S A s.heap H locs
def tp_G (p : Program) (l : Launch) (e : Env) (R : Room) (s : State) (m : MethodId) (args : Array Value) (below : List Frame) (meth : Method) (c : Code) (cells slots : Nat) (Q : State → Prop) (D : va_G) (cs : tp_CS) (ad : Nat → Nat) (A : Nat → Prop) (σ0 : tp_St) (n pc : Nat) (L st : List Value) (σ : tp_St) : Prop :=
  ∀ H locs ls, tp_Wd D cs ad A s σ0 σ H locs → tp_lv ad ls n L → W p l e R s m args below meth c H locs cells slots Q (F0 m pc ls (st.map (tp_v ad)))
def tp_Cx (p : Program) (R : Room) (s : State) (m : MethodId) (args : Array Value) (c : Code) (cells slots : Nat) (D : va_G) (cs : tp_CS) (ad : Nat → Nat) (A : Nat → Prop) (σ0 : tp_St) (mid : Nat) : Prop :=
  p.tables.exec = Jvm.exec ∧ c.code = tp_cc mid ∧ c.maxLocals = tp_n mid ∧ s.vm.findClass (tp_cls mid) = some m.cls ∧ (∀ w ∈ tp_gt, w.before args s = true) ∧ va_K D vwCl (tp_tys cs) s ∧ tp_ap ad A σ0.2.1 ∧ (∀ q, s.heap.size ≤ q → A q) ∧ tp_ro ad A s s.heap σ0 ∧ tp_rf mid ≤ R.frames ∧ tp_rl mid ≤ R.locals ∧ cells ≤ R.cells ∧ slots ≤ R.slots
def tp_Pre (D : va_G) (cs : tp_CS) (ad : Nat → Nat) (σ : tp_St) (sz : Nat) (U : State) : Prop := U.heap.size = sz ∧ va_P D vwCl (tp_ws cs ad σ) U.heap ∧ va_K D vwCl (tp_tys cs) U ∧ ((58 ≤ σ.2.1 ∧ σ.2.1 ≤ 82) ∧ ∀ i j, i < σ.2.1 → j < σ.2.1 → ad i = ad j → i = j) ∧ tp_ro ad (va_A (tp_ws cs ad σ) sz) U U.heap σ
def tp_Bq (D : va_G) (cs : tp_CS) (ad : Nat → Nat) (σ : tp_St) (σ' : tp_St) (t : State) : Prop := va_P D vwCl (tp_ws cs ad σ') t.heap ∧ tp_eq σ' σ
def tp_Qc (D : va_G) (cs : tp_CS) (ad : Nat → Nat) (σ : tp_St) (sz : Nat) (rt : Option FieldType) (post : Int32 → tp_St → Prop) : Array Value → State → Outcome → State → Prop := match rt with
  | none => va_Qv (fun σ' => post 0 σ') (tp_Bq D cs ad σ) (va_A (tp_ws cs ad σ) sz)
  | some _ => va_Qi post (tp_Bq D cs ad σ) (va_A (tp_ws cs ad σ) sz)
def tp_MO (l : Launch) (D : va_G) (cs : tp_CS) (ad : Nat → Nat) (a : Nat) (av : List Value) (σ : tp_St) (post : Int32 → tp_St → Prop) : Prop :=
  ∀ sz, Met l (tp_y a) (tp_wl a) (tp_rm a) (va_Pc (av.map (tp_v ad)) (tp_Pre D cs ad σ sz)) (tp_Qc D cs ad σ sz (tp_ret a) post) 0 0 (va_A (tp_ws cs ad σ) sz)
theorem tp_ro.go {ad : Nat → Nat} {A B : Nat → Prop} {u U : State} {H H1 : Heap} {σ σ' : tp_St} (h : tp_ro ad A u H σ) (hvm : u.vm.Alike U.vm)
    (hk : ∀ a : Nat, a < H.size → ¬ A a → H1[a]? = H[a]?) (hAB : ∀ q, B q → A q) (hσ : tp_eq σ' σ) : tp_ro ad B U H1 σ' := by
  unfold tp_ro
  rw [hσ.1 89 (by decide), hσ.1 90 (by decide)]
  exact ((va_T.moved hvm h).kept hk).narrow hAB
theorem tp_blind {D : va_G} {cs : tp_CS} {ad : Nat → Nat} {σ : tp_St} {sz : Nat} {av : List Value} : FrameBlind (va_Pc av (tp_Pre D cs ad σ sz)) := fun a U g mk q => by
  obtain ⟨q0, q1, qP, qK, qD, qR⟩ := q
  exact ⟨q0, q1, qP, va_K.moved (u := U) (U := U.calling g mk a) (Vm.Alike.refl U.vm) qK, qD, qR.go (u := U) (U := U.calling g mk a) (Vm.Alike.refl U.vm) (fun _ _ _ => rfl) (fun _ z => z) ⟨fun _ _ => rfl, rfl⟩⟩

theorem tp_clf : ∀ (a : Nat) (C : String) (T : u_T) (N : Nat), vwCl[a]? = some (C, T, N) → (∀ w ∈ u_ws C T N, w ∈ tp_gt) ∧ (∃ ty0 : Nat → FieldType, ∀ k, k < N → parseFieldDescriptor (T k).2.2.1 = some (ty0 k)) ∧ (∀ a, a < N → ∀ b, b < N → a ≠ b → (T a).2.1 ≠ (T b).2.1) ∧ N = tp_nf a
  | 0, C, T, N, h => by
    cases h
    exact ⟨fun w hw => tp_cl0 w hw, ⟨tyX0, tyX0_ok⟩, nmX0, rfl⟩
  | 1, C, T, N, h => by
    cases h
    exact ⟨fun w hw => tp_cl1 w hw, ⟨tyX1, tyX1_ok⟩, nmX1, rfl⟩
  | 2, C, T, N, h => by
    cases h
    exact ⟨fun w hw => tp_cl2 w hw, ⟨tyX2, tyX2_ok⟩, nmX2, rfl⟩
  | 3, C, T, N, h => by
    cases h
    exact ⟨fun w hw => tp_cl3 w hw, ⟨tyX3, tyX3_ok⟩, nmX3, rfl⟩
  | 4, C, T, N, h => by
    cases h
    exact ⟨fun w hw => tp_cl4 w hw, ⟨tyX4, tyX4_ok⟩, nmX4, rfl⟩
  | 5, C, T, N, h => by
    cases h
    exact ⟨fun w hw => tp_cl5 w hw, ⟨tyX5, tyX5_ok⟩, nmX5, rfl⟩
  | 6, C, T, N, h => by
    cases h
    exact ⟨fun w hw => tp_cl6 w hw, ⟨tyX6, tyX6_ok⟩, nmX6, rfl⟩
  | 7, C, T, N, h => by
    cases h
    exact ⟨fun w hw => tp_cl7 w hw, ⟨tyX7, tyX7_ok⟩, nmX7, rfl⟩
  | 8, C, T, N, h => by
    cases h
    exact ⟨fun w hw => tp_cl8 w hw, ⟨tyX8, tyX8_ok⟩, nmX8, rfl⟩
  | 9, C, T, N, h => by
    cases h
    exact ⟨fun w hw => tp_cl9 w hw, ⟨tyX9, tyX9_ok⟩, nmX9, rfl⟩
  | k + 10, C, T, N, h => by
    rw [List.getElem?_eq_none (by rw [tp_vwcl]; omega)] at h
    cases h
theorem tp_lens {v : Option Value} {k : Nat} (h : tp_rcv v k = true) : ∃ o, v = some (.ref o) ∧ tp_kd o = k := by
  unfold tp_rcv at h
  split at h
  · rename_i o
    exact ⟨o, rfl, by simpa using h⟩
  · cases h
theorem tp_cell_cls {cs : tp_CS} {ad : Nat → Nat} {σ : tp_St} {o : Nat} (h : tp_kd o < 20) : tp_cell cs ad σ o = .inr (tp_kd o, tp_fs ad σ o) := if_pos h
theorem tp_cell_20 {cs : tp_CS} {ad : Nat → Nat} {σ : tp_St} {o : Nat} (h : tp_kd o = 20) : tp_cell cs ad σ o = .inl (cs.1, tp_ln o, .inl (σ.1 o)) := by simp [tp_cell, h]
theorem tp_cell_21 {cs : tp_CS} {ad : Nat → Nat} {σ : tp_St} {o : Nat} (h : tp_kd o = 21) : tp_cell cs ad σ o = .inl (cs.2.1, tp_ln o, .inl (σ.1 o)) := by simp [tp_cell, h]
theorem tp_cell_22 {cs : tp_CS} {ad : Nat → Nat} {σ : tp_St} {o : Nat} (h : tp_kd o = 22) : tp_cell cs ad σ o = .inl (cs.2.2.1, tp_ln o, .inl (σ.1 o)) := by simp [tp_cell, h]
theorem tp_cell_23 {cs : tp_CS} {ad : Nat → Nat} {σ : tp_St} {o : Nat} (h : tp_kd o = 23) : tp_cell cs ad σ o = .inl (cs.2.2.2.1, tp_ln o, .inr (.inr (.inr (.inr (fun j => some (ad (tp_rr σ o j))))))) := by simp [tp_cell, h]
theorem tp_cell_24 {cs : tp_CS} {ad : Nat → Nat} {σ : tp_St} {o : Nat} (h : tp_kd o = 24) : tp_cell cs ad σ o = .inl (cs.2.2.2.2, tp_ln o, .inr (.inr (.inr (.inr (fun j => some (ad (tp_rr σ o j))))))) := by simp [tp_cell, h]
theorem tp_fs_at {ad : Nat → Nat} {σ : tp_St} {o k : Nat} (h : k < tp_nf (tp_kd o)) : (tp_fs ad σ o)[k]? = some (tp_fv ad σ o k) := by
  unfold tp_fs
  rw [List.getElem?_map, List.getElem?_range h]
  rfl
theorem tp_fs_len {ad : Nat → Nat} {σ : tp_St} {o : Nat} : (tp_fs ad σ o).length = tp_nf (tp_kd o) := by simp [tp_fs]
section VRB
variable {p : Program} {l : Launch} {e : Env} {R : Room} {s : State} {m : MethodId} {args : Array Value} {below : List Frame} {meth : Method} {c : Code} {H : Heap} {locs : List Loc} {cells slots : Nat} {Q : State → Prop}
variable {cc : ByteArray} {pc : Nat} {ls : Array Slot} {rest : List Value} {D : va_G} {cl : List vw_C} {A : Nat → Prop} {a : Nat} {tys : List (ClassId × FieldType)} {ws : va_W} {H0 : Heap}
theorem tp_alda (hexec : p.tables.exec = Jvm.exec) (hb : c.code = cc) (hK : va_K D cl tys s) (hP : va_P D cl ws H) (q0 t0 : Nat) {cA : ClassId} {ty : FieldType} {n : Nat} {f : Nat → Option Nat} (ha : ws[q0]? = some (a, .inl (cA, n, .inr (.inr (.inr (.inr f)))))) (ht : tys[t0]? = some (cA, ty)) (hty : ty.isReference = true) {i : Int32} (hin : vp_in i n) (hdg : decode cc pc = .ok (.aaload, 1))
    (kk : W p l e R s m args below meth c H locs cells slots Q (F0 m (pc + 1) ls (va_rf (f i.toNatClampNeg) :: rest))) : W p l e R s m args below meth c H locs cells slots Q (F0 m pc ls (.int i :: .ref a :: rest)) := by
  have hlt : i.toNatClampNeg < n := Nat.not_le.mp fun q => hin (Or.inr q)
  exact W.aald (v := va_rf (f i.toNatClampNeg)) (ty := ty) hexec hb (hP q0 _ ha) ((hK.2 t0 _ ht).1 n (fun j => va_rf (f j))) hty (fun q => by cases q) (by show ¬ (i < 0 ∨ (arrV _ _ _).slots.size ≤ _); rw [arrV_size]; exact hin) (by show (arrV _ _ _).slots[_]? = _; rw [arrV_read _ _ hlt]) rfl rfl hdg kk
end VRB
theorem tp_cwA : ∀ a, a < tp_law → Cond.code (tp_y a) (tp_cc a) (tp_n a) (tp_ret a) ∈ tp_gt
  | 0, _ => List.mem_filter.mpr ⟨List.mem_of_getElem? tp_cw0, rfl⟩
  | 1, _ => List.mem_filter.mpr ⟨List.mem_of_getElem? tp_cw1, rfl⟩
  | 2, _ => List.mem_filter.mpr ⟨List.mem_of_getElem? tp_cw2, rfl⟩
  | 3, _ => List.mem_filter.mpr ⟨List.mem_of_getElem? tp_cw3, rfl⟩
  | 4, _ => List.mem_filter.mpr ⟨List.mem_of_getElem? tp_cw4, rfl⟩
  | 5, _ => List.mem_filter.mpr ⟨List.mem_of_getElem? tp_cw5, rfl⟩
  | 6, _ => List.mem_filter.mpr ⟨List.mem_of_getElem? tp_cw6, rfl⟩
  | 7, _ => List.mem_filter.mpr ⟨List.mem_of_getElem? tp_cw7, rfl⟩
  | 8, _ => List.mem_filter.mpr ⟨List.mem_of_getElem? tp_cw8, rfl⟩
  | 9, _ => List.mem_filter.mpr ⟨List.mem_of_getElem? tp_cw9, rfl⟩
  | 10, _ => List.mem_filter.mpr ⟨List.mem_of_getElem? tp_cw10, rfl⟩
  | 11, _ => List.mem_filter.mpr ⟨List.mem_of_getElem? tp_cw11, rfl⟩
  | 12, _ => List.mem_filter.mpr ⟨List.mem_of_getElem? tp_cw12, rfl⟩
  | 13, _ => List.mem_filter.mpr ⟨List.mem_of_getElem? tp_cw13, rfl⟩
  | 14, _ => List.mem_filter.mpr ⟨List.mem_of_getElem? tp_cw14, rfl⟩
  | 15, _ => List.mem_filter.mpr ⟨List.mem_of_getElem? tp_cw15, rfl⟩
  | 16, _ => List.mem_filter.mpr ⟨List.mem_of_getElem? tp_cw16, rfl⟩
  | 17, _ => List.mem_filter.mpr ⟨List.mem_of_getElem? tp_cw17, rfl⟩
  | 18, _ => List.mem_filter.mpr ⟨List.mem_of_getElem? tp_cw18, rfl⟩
  | 19, _ => List.mem_filter.mpr ⟨List.mem_of_getElem? tp_cw19, rfl⟩
  | 20, _ => List.mem_filter.mpr ⟨List.mem_of_getElem? tp_cw20, rfl⟩
  | 21, _ => List.mem_filter.mpr ⟨List.mem_of_getElem? tp_cw21, rfl⟩
  | 22, _ => List.mem_filter.mpr ⟨List.mem_of_getElem? tp_cw22, rfl⟩
  | 23, _ => List.mem_filter.mpr ⟨List.mem_of_getElem? tp_cw23, rfl⟩
  | 24, _ => List.mem_filter.mpr ⟨List.mem_of_getElem? tp_cw24, rfl⟩
  | 25, _ => List.mem_filter.mpr ⟨List.mem_of_getElem? tp_cw25, rfl⟩
  | 26, _ => List.mem_filter.mpr ⟨List.mem_of_getElem? tp_cw26, rfl⟩
  | 27, _ => List.mem_filter.mpr ⟨List.mem_of_getElem? tp_cw27, rfl⟩
  | 28, _ => List.mem_filter.mpr ⟨List.mem_of_getElem? tp_cw28, rfl⟩
  | 29, _ => List.mem_filter.mpr ⟨List.mem_of_getElem? tp_cw29, rfl⟩
  | 30, _ => List.mem_filter.mpr ⟨List.mem_of_getElem? tp_cw30, rfl⟩
  | 31, _ => List.mem_filter.mpr ⟨List.mem_of_getElem? tp_cw31, rfl⟩
  | 32, _ => List.mem_filter.mpr ⟨List.mem_of_getElem? tp_cw32, rfl⟩
  | 33, _ => List.mem_filter.mpr ⟨List.mem_of_getElem? tp_cw33, rfl⟩
  | 34, _ => List.mem_filter.mpr ⟨List.mem_of_getElem? tp_cw34, rfl⟩
  | 35, _ => List.mem_filter.mpr ⟨List.mem_of_getElem? tp_cw35, rfl⟩
  | 36, _ => List.mem_filter.mpr ⟨List.mem_of_getElem? tp_cw36, rfl⟩
  | 37, _ => List.mem_filter.mpr ⟨List.mem_of_getElem? tp_cw37, rfl⟩
  | 38, _ => List.mem_filter.mpr ⟨List.mem_of_getElem? tp_cw38, rfl⟩
  | 39, _ => List.mem_filter.mpr ⟨List.mem_of_getElem? tp_cw39, rfl⟩
  | 40, _ => List.mem_filter.mpr ⟨List.mem_of_getElem? tp_cw40, rfl⟩
  | 41, _ => List.mem_filter.mpr ⟨List.mem_of_getElem? tp_cw41, rfl⟩
  | 42, _ => List.mem_filter.mpr ⟨List.mem_of_getElem? tp_cw42, rfl⟩
  | k + 43, h => absurd h (by show ¬ k + 43 < 43; omega)
