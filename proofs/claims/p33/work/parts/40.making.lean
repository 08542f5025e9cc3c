/-! MAKING: rows for the constructors, whose world grows: the object made stands at place 0, behind it what it has made -/
def ct_nl : List (String × Nat × MethodName) := [("TramPence", 9, yX8_init), ("TramPence", 18, yX2_init), ("TramPence", 25, yX7_init), ("TramPence", 32, yX4_init), ("TramPence", 43, yX5_init), ("TramPence", 46, yX0_init), ("TramPence$LawBook", 11, yX6_init), ("TramPence$LawBook", 20, yX1_init), ("TramPence", 53, yX3_init)]
/-- what doesn't ride along as a word -/
def ct_E (U : State) : Prop := (∀ q ∈ ct_nl, va_Nw (.methodLinkNest q.1 q.2.1 q.2.2 "TramPence") U) ∧ va_AO "TramPence$Sheet" U ∧ va_AOA .int U
theorem ct_E.warm {s U : State} (hW : s.WarmedH U.vm) (h : ct_E s) : ct_E U := ⟨fun q hq => va_Nw.warmM hW (h.1 q hq), va_AO.moved hW.alike h.2.1, va_AOA.moved hW.alike h.2.2⟩
theorem ct_E.blind {U : State} {g : JFrame} {mk : MethodId} {a : Array Value} (h : ct_E U) : ct_E (U.calling g mk a) :=
  ⟨fun q hq => va_Nw.same (u := U) (U := U.calling g mk a) rfl rfl (h.1 q hq), va_AO.moved (u := U) (U := U.calling g mk a) (Vm.Alike.refl U.vm) h.2.1, va_AOA.moved (u := U) (U := U.calling g mk a) (Vm.Alike.refl U.vm) h.2.2⟩
def ct_S (p : Program) (s : State) (m : MethodId) (args : Array Value) (c : Code) (cc : ByteArray) (nL : Nat) (own : String) (D : va_G) (cs : tp_CS) (A : Nat → Prop) : Prop :=
  p.tables.exec = Jvm.exec ∧ c.code = cc ∧ c.maxLocals = nL ∧ s.vm.findClass own = some m.cls ∧ (∀ w ∈ tp_gt, w.before args s = true) ∧ va_K D vwCl (tp_tys cs) s ∧ (∀ q, s.heap.size ≤ q → A q) ∧ ct_E s
def ct_W (D : va_G) (A : Nat → Prop) (s : State) (ws : va_W) (H : Heap) (locs : List Loc) : Prop := va_P D vwCl ws H ∧ va_D A ws ∧ va_S A s.heap H locs
def ct_Pre (D : va_G) (cs : tp_CS) (ws : va_W) (sz : Nat) (U : State) : Prop := U.heap.size = sz ∧ va_P D vwCl ws U.heap ∧ va_K D vwCl (tp_tys cs) U ∧ ct_E U
/-- a constructor's contract: what it makes has the shape Sh -/
def ct_Met (l : Launch) (y : MethodName) (cc : ByteArray) (nL fr lo mc ms ci : Nat) (fs : List Value) (Sh : Nat → tp_CS → va_W → Prop) : Prop :=
  ∀ (D : va_G) (cs : tp_CS) (h0 sz : Nat), Met l y (.code y cc nL none :: tp_gt) { frames := fr, cells := mc, slots := ms, locals := lo } (va_Pc [.ref h0] (ct_Pre D cs [(h0, .inr (ci, fs))] sz)) (va_Qv (Sh h0 cs) (fun w1 t => va_P D vwCl w1 t.heap ∧ va_D (va_A [(h0, .inr (ci, fs))] sz) w1) (va_A [(h0, .inr (ci, fs))] sz)) mc ms (va_A [(h0, .inr (ci, fs))] sz)
theorem ct_good {y : MethodName} {cc : ByteArray} {nL : Nat} (h : Cond.code y cc nL none ∈ tp_gt) : GoodIn tp_gt (.code y cc nL none :: tp_gt) := fun w hw => by
  rcases List.mem_cons.mp hw with rfl | hw
  · exact tp_good h
  · exact tp_good hw
theorem ct_join {A0 : Nat → Prop} {D : va_G} {cl : List vw_C} {ws w1 : va_W} {x : Nat × va_E} {H H1 : Heap} (hP : va_P D cl (ws ++ [x]) H) (hD : va_D A0 (ws ++ [x])) (hk : ∀ q : Nat, q < H.size → ¬ va_A [x] H.size q → H1[q]? = H[q]?) (hF : ∀ q, va_A [x] H.size q → A0 q) (hP1 : va_P D cl w1 H1) (hD1 : va_D (va_A [x] H.size) w1) : va_P D cl (ws ++ w1) H1 ∧ va_D A0 (ws ++ w1) := by
  have left : ∀ (k : Nat) (q : Nat × va_E), ws[k]? = some q → (ws ++ [x])[k]? = some q := fun k q hq => by
    rw [List.getElem?_append_left (List.getElem?_eq_some_iff.mp hq).1]
    exact hq
  have last : (ws ++ [x])[ws.length]? = some x := by
    rw [List.getElem?_append_right (Nat.le_refl _), Nat.sub_self]
    rfl
  have apart : ∀ (k : Nat) (q : Nat × va_E), ws[k]? = some q → q.1 < H.size ∧ ¬ va_A [x] H.size q.1 := by
    intro k q hq
    have hkl : k < ws.length := (List.getElem?_eq_some_iff.mp hq).1
    have hl := (hP k q (left k q hq)).lt
    refine ⟨hl, fun h => ?_⟩
    rcases h with ⟨k2, e, h⟩ | h
    · have h0 : k2 < 1 := (List.getElem?_eq_some_iff.mp h).1
      rw [show k2 = 0 by omega] at h
      cases h
      have := hD.1 k ws.length q (q.1, e) (left k q hq) last rfl
      omega
    · omega
  refine ⟨va_P.app (fun k q hq => ?_) hP1, va_D.app ⟨fun i j y z hi hj e => hD.1 i j y z (left i y hi) (left j z hj) e, fun k q hq => hD.2 k q (left k q hq)⟩ (hD1.weaken (fun k q _ h => hF q.1 h)) (fun i j y z hy hz e => (apart i y hy).2 (by rw [e]; exact hD1.2 j z hz))⟩
  obtain ⟨g1, g2⟩ := apart k q hq
  exact (hP k q (left k q hq)).kept (hk q.1 g1 g2)
section CTA
variable {p : Program} {l : Launch} {e : Env} {R : Room} {s : State} {m : MethodId} {args : Array Value} {below : List Frame} {meth : Method} {c : Code} {H : Heap} {locs : List Loc} {cells slots : Nat} {Q : State → Prop}
variable {cc : ByteArray} {nL pc : Nat} {own : String} {ls : Array Slot} {rest : List Value} {D : va_G} {cs : tp_CS} {A : Nat → Prop} {ws : va_W}
/-- Object's constructor, first of all -/
theorem ct_obj (Z : ct_S p s m args c cc nL own D cs A) {h0 k : Nat} (h00 : ls[0]? = some (.val (.ref h0))) (hsz : ls.size = nL) (d0 : decode cc 0 = .ok (.aload_n 0, 1)) (d1 : decode cc 1 = .ok (.invokespecial k, 3)) (h1 : Cond.methodLink own k objectInit ∈ tp_gt) (h2 : Cond.instanceMethod objectInit ∈ tp_gt) (h3 : Cond.code objectInit ⟨#[0xb1]⟩ 1 none ∈ tp_gt) (hfr : 1 ≤ R.frames) (hlo : 12 ≤ R.locals)
    (kk : W p l e R s m args below meth c H locs cells slots Q (F0 m 4 ls [])) : W p l e R s m args below meth c H locs cells slots Q (F0 m 0 ls []) := by
  obtain ⟨hx, hb, hml, hown, hts, -, -, -⟩ := Z
  refine lv_aload_n (i := 0) hx hb d0 rfl h00 ?_
  exact W.objInit hx hb hown (hts _ h1) (hts _ h2) (hts _ h3) rfl (by rw [hml]; exact hsz) rfl d1 hfr hlo kk
/-- a primitive array's class -/
def ct_ak (cs : tp_CS) (s : State) (atype : ArrayType) (ty : FieldType) (cA : ClassId) : Prop := newarray.typeOf atype = ty ∧ (∃ t0 : Nat, (tp_tys cs)[t0]? = some (cA, ty)) ∧ (∀ cB, va_RA s cA ty → va_RA s cB ty → cB = cA) ∧ Cond.arrayClass ty ∈ tp_gt ∧ defaultValue ty = .int 0 ∧ componentBytes ty ≤ 8 ∧ ∀ q, narrow (.array ty) (.ref q) = .ref q ∧ fits (.array ty) (.ref q) = true
theorem ct_aki : ct_ak cs s .int .int cs.1 := ⟨rfl, ⟨0, rfl⟩, fun _ h1 h2 => Option.some.inj (h2.symm.trans h1), tp_gt_in (i := 45) (by decide +kernel), rfl, by decide, fun _ => ⟨rfl, rfl⟩⟩
theorem ct_akb : ct_ak cs s .byte .byte cs.2.1 := ⟨rfl, ⟨1, rfl⟩, fun _ h1 h2 => Option.some.inj (h2.symm.trans h1), tp_gt_in (i := 152) (by decide +kernel), rfl, by decide, fun _ => ⟨rfl, rfl⟩⟩
theorem ct_akz : ct_ak cs s .boolean .boolean cs.2.2.1 := ⟨rfl, ⟨2, rfl⟩, fun _ h1 h2 => Option.some.inj (h2.symm.trans h1), tp_gt_in (i := 84) (by decide +kernel), rfl, by decide, fun _ => ⟨rfl, rfl⟩⟩
theorem ct_newa (Z : ct_S p s m args c cc nL own D cs A) {atype : ArrayType} {ty : FieldType} {cA : ClassId} (ak : ct_ak cs s atype ty cA) (N' : Nat) {n : Int32} (hn : ¬ n < 0) (hN : n.toNatClampNeg = N') (hle : N' ≤ 1000) (hcells : cells + 1 ≤ R.cells) (hslots : slots + N' ≤ R.slots) (hdg : decode cc pc = .ok (.newarray atype, 2)) (hW : ct_W D A s ws H locs)
    (kk : ∀ (q : Nat) (H1 : Heap), ct_W D A s (ws ++ [(q, .inl (cA, N', .inl fun _ => 0))]) H1 locs → W p l e R s m args below meth c H1 locs (cells + 1) (slots + N') Q (F0 m (pc + 2) ls (.ref q :: rest))) : W p l e R s m args below meth c H locs cells slots Q (F0 m pc ls (.int n :: rest)) := by
  obtain ⟨hx, hb, -, -, hts, hK, hA, -⟩ := Z
  obtain ⟨hty, ⟨t0, ht⟩, hsm, harr, hdv, hcb, -⟩ := ak
  obtain ⟨hP, hD, hS⟩ := hW
  have hbytes : N' * componentBytes ty ≤ 536870912 := Nat.le_trans (Nat.mul_le_mul hle hcb) (Nat.le_of_ble_eq_true rfl)
  refine va_newa (atype := atype) (ty := ty) (a0 := (N', .inl fun _ => 0)) (N' := N') hx hb (by rw [hty]; exact hts _ harr) hty hK hP hD hS hA (fun cB => by rw [hdv]; rfl) hn hN hbytes hcells hslots hdg fun q cB H1 hK1 hP1 hD1 hS1 => ?_
  have hlast : (tp_tys cs ++ [(cB, ty)])[(tp_tys cs).length]? = some (cB, ty) := by
    rw [List.getElem?_append_right (Nat.le_refl _), Nat.sub_self]
    rfl
  have e9 : cB = cA := hsm cB (hK.2 t0 _ ht).2 (hK1.2 _ _ hlast).2
  subst e9
  exact kk q H1 ⟨hP1, hD1, hS1⟩
/-- a field of the object made -/
theorem ct_put (Z : ct_S p s m args c cc nL own D cs A) {ci : Nat} {T : u_T} {N : Nat} (k idx : Nat) (hc : vwCl[ci]? = some (own, T, N)) (hk : k < N) (hin2 : meth.name = "<init>") (hdecl : (T k).1 = own) (hlink : Cond.fieldLink own idx own (T k).2.1 (T k).2.2.1 ∈ tp_gt) {ty : FieldType} {v : Value} (hd : parseFieldDescriptor (T k).2.2.1 = some ty) (hn : narrow ty v = v) (hfit : fits ty v = true) {h0 : Nat} {fs : List Value} {X : va_W} (hl : fs.length = N) (hdg : decode cc pc = .ok (.putfield idx, 3)) (hW : ct_W D A s ((h0, .inr (ci, fs)) :: X) H locs)
    (kk : ∀ (H1 : Heap) (locs1 : List Loc), ct_W D A s ((h0, .inr (ci, fs.set k v)) :: X) H1 locs1 → W p l e R s m args below meth c H1 locs1 cells slots Q (F0 m (pc + 3) ls rest)) : W p l e R s m args below meth c H locs cells slots Q (F0 m pc ls (v :: .ref h0 :: rest)) := by
  obtain ⟨hin, ⟨ty0, hty⟩, hnm, -⟩ := tp_clf ci own T N hc
  obtain ⟨hx, hb, -, hown, hts, hK, -, -⟩ := Z
  obtain ⟨hP, hD, hS⟩ := hW
  have hsame : ∀ x, s.fieldFound? (T k).1 (T k).2.1 (T k).2.2.1 = some x → s.fieldFound? own (T k).2.1 (T k).2.2.1 = some x := fun x h => by rw [hdecl] at h; exact h
  have hlk : k < fs.length := by omega
  cases hf : (T k).2.2.2 with
  | false => exact va_put hx hb hts hin ty0 hty hnm hown hK hP hD hS 0 rfl hc k hk (hts _ hlink) hsame hf hd hn hfit hlk hdg (fun H1 locs1 a b d => kk H1 locs1 ⟨a, b, d⟩)
  | true => exact va_putF hx hb hts hin ty0 hty hnm hown hK hP hD hS 0 rfl hc k hk (hts _ hlink) hsame hf hin2 hdecl hd hn hfit hlk hdg (fun H1 locs1 a b d => kk H1 locs1 ⟨a, b, d⟩)
/-- a field gets a new primitive array: aload_0, its length, newarray, putfield -/
theorem ct_fa (Z : ct_S p s m args c cc nL own D cs A) {atype : ArrayType} {ty : FieldType} {cA : ClassId} (ak : ct_ak cs s atype ty cA) {h0 : Nat} (h00 : ls[0]? = some (.val (.ref h0))) (N' : Nat) {n : Int32} (hn : ¬ n < 0) (hN : n.toNatClampNeg = N') (hle : N' ≤ 1000) {p2 : Nat}
    (d0 : decode cc pc = .ok (.aload_n 0, 1)) (hpush : W p l e R s m args below meth c H locs cells slots Q (F0 m p2 ls (.int n :: .ref h0 :: [])) → W p l e R s m args below meth c H locs cells slots Q (F0 m (pc + 1) ls (.ref h0 :: []))) (d2 : decode cc p2 = .ok (.newarray atype, 2)) (k idx : Nat) (d3 : decode cc (p2 + 2) = .ok (.putfield idx, 3))
    {ci : Nat} {T : u_T} {N : Nat} (hc : vwCl[ci]? = some (own, T, N)) (hk : k < N) (hin2 : meth.name = "<init>") (hdecl : (T k).1 = own) (hlink : Cond.fieldLink own idx own (T k).2.1 (T k).2.2.1 ∈ tp_gt) (hd : parseFieldDescriptor (T k).2.2.1 = some (.array ty)) {fs : List Value} {X : va_W} (hl : fs.length = N) (hcells : cells + 1 ≤ R.cells) (hslots : slots + N' ≤ R.slots) (hW : ct_W D A s ((h0, .inr (ci, fs)) :: X) H locs)
    (kk : ∀ (q : Nat) (H1 : Heap) (locs1 : List Loc), ct_W D A s ((h0, .inr (ci, fs.set k (.ref q))) :: (X ++ [(q, .inl (cA, N', .inl fun _ => 0))])) H1 locs1 → W p l e R s m args below meth c H1 locs1 (cells + 1) (slots + N') Q (F0 m (p2 + 5) ls [])) : W p l e R s m args below meth c H locs cells slots Q (F0 m pc ls []) := by
  refine lv_aload_n (i := 0) Z.1 Z.2.1 d0 rfl h00 (hpush ?_)
  refine ct_newa Z ak N' hn hN hle hcells hslots d2 hW fun q H1 hW1 => ?_
  have hW1' : ct_W D A s ((h0, .inr (ci, fs)) :: (X ++ [(q, .inl (cA, N', .inl fun _ => 0))])) H1 locs := hW1
  exact ct_put Z k idx hc hk hin2 hdecl hlink hd ((ak.2.2.2.2.2.2 q).1) ((ak.2.2.2.2.2.2 q).2) hl d3 hW1' fun H2 locs2 hW2 => kk q H2 locs2 hW2
/-- a field gets a number -/
theorem ct_fi (Z : ct_S p s m args c cc nL own D cs A) {h0 : Nat} (h00 : ls[0]? = some (.val (.ref h0))) (n : Int32) {p2 : Nat}
    (d0 : decode cc pc = .ok (.aload_n 0, 1)) (hpush : W p l e R s m args below meth c H locs cells slots Q (F0 m p2 ls (.int n :: .ref h0 :: [])) → W p l e R s m args below meth c H locs cells slots Q (F0 m (pc + 1) ls (.ref h0 :: []))) (k idx : Nat) (d3 : decode cc p2 = .ok (.putfield idx, 3))
    {ci : Nat} {T : u_T} {N : Nat} (hc : vwCl[ci]? = some (own, T, N)) (hk : k < N) (hin2 : meth.name = "<init>") (hdecl : (T k).1 = own) (hlink : Cond.fieldLink own idx own (T k).2.1 (T k).2.2.1 ∈ tp_gt) (hd : parseFieldDescriptor (T k).2.2.1 = some .int) {fs : List Value} {X : va_W} (hl : fs.length = N) (hW : ct_W D A s ((h0, .inr (ci, fs)) :: X) H locs)
    (kk : ∀ (H1 : Heap) (locs1 : List Loc), ct_W D A s ((h0, .inr (ci, fs.set k (.int n))) :: X) H1 locs1 → W p l e R s m args below meth c H1 locs1 cells slots Q (F0 m (p2 + 3) ls [])) : W p l e R s m args below meth c H locs cells slots Q (F0 m pc ls []) := by
  refine lv_aload_n (i := 0) Z.1 Z.2.1 d0 rfl h00 (hpush ?_)
  exact ct_put Z k idx hc hk hin2 hdecl hlink hd (vp_nar_int n) rfl hl d3 hW fun H2 locs2 hW2 => kk H2 locs2 hW2
/-- a new object: new, dup, its constructor -/
theorem ct_make (Z : ct_S p s m args c cc nL own D cs A) {C' : String} {T' : u_T} {y : MethodName} {cc' : ByteArray} {N' nL' fr lo mc ms ci' : Nat} {fs' : List Value} {Sh : Nat → tp_CS → va_W → Prop} (hM : ct_Met l y cc' nL' fr lo mc ms ci' fs' Sh) (idx1 idx2 : Nat) (hc : vwCl[ci']? = some (C', T', N')) {ty0 : Nat → FieldType} (hty : ∀ k, k < N' → parseFieldDescriptor (T' k).2.2.1 = some (ty0 k)) (hfs : ∀ j, j < N' → defaultValue (ty0 j) = vp_V fs' j)
    (h1 : Cond.classLink own idx1 C' ∈ tp_gt) (h2 : Cond.instantiable C' N' ∈ tp_gt) (h3 : Cond.initialized C' ∈ tp_gt) (hy : y = ⟨C', "<init>", "()V"⟩) (hyp : C' ≠ "java/lang/invoke/MethodHandle" ∧ C' ≠ "java/lang/invoke/VarHandle") (h4 : Cond.instanceMethod y ∈ tp_gt) (h5 : Cond.code y cc' nL' none ∈ tp_gt) (h6 : va_Nw (.methodLinkNest own idx2 y "TramPence") s ∨ Cond.methodLink own idx2 y ∈ tp_gt)
    (hroom : fr + 1 ≤ R.frames ∧ 8 + (nL' + 11) + lo ≤ R.locals) (hcells : cells + 1 + mc ≤ R.cells) (hslots : slots + N' + ms ≤ R.slots) (hsz : ls.size = nL) (hrest : (rest.map fun v => v.category).sum + 1 ≤ 8) (d0 : decode cc pc = .ok (.new idx1, 3)) (d1 : decode cc (pc + 3) = .ok (.dup, 1)) (d2 : decode cc (pc + 4) = .ok (.invokespecial idx2, 3)) (hW : ct_W D A s ws H locs)
    (kk : ∀ (q : Nat) (w1 : va_W) (H1 : Heap) (locs1 : List Loc), Sh q cs w1 → ct_W D A s (ws ++ w1) H1 locs1 → W p l e R s m args below meth c H1 locs1 (cells + 1 + mc) (slots + N' + ms) Q (F0 m (pc + 7) ls (.ref q :: rest))) : W p l e R s m args below meth c H locs cells slots Q (F0 m pc ls rest) := by
  obtain ⟨hin, -, -, -⟩ := tp_clf ci' C' T' N' hc
  obtain ⟨hx, hb, hml, hown, hts, hK, hA, hE⟩ := Z
  obtain ⟨hP, hD, hS⟩ := hW
  refine va_new hx hb hts hin ty0 hty hown (hts _ h1) (hts _ h2) (hts _ h3) hK hP hD hS hA hc hfs (by omega) (by omega) d0 fun q H1 hP1 hD1 hS1 => ?_
  refine lv_dup hx hb d1 rfl ?_
  have hPc : va_P D vwCl [(q, .inr (ci', fs'))] H1 := fun k x hx9 => by
    have h0 : k < 1 := (List.getElem?_eq_some_iff.mp hx9).1
    rw [show k = 0 by omega] at hx9
    cases hx9
    exact hP1 ws.length (q, .inr (ci', fs')) (by rw [List.getElem?_append_right (Nat.le_refl _), Nat.sub_self]; rfl)
  have hFc : ∀ x, va_A [(q, .inr (ci', fs'))] H1.size x → A x := fun x hx9 => by
    rcases hx9 with ⟨k, e9, hk⟩ | hk
    · have h0 : k < 1 := (List.getElem?_eq_some_iff.mp hk).1
      rw [show k = 0 by omega] at hk
      cases hk
      exact hD1.2 ws.length (q, .inr (ci', fs')) (by rw [List.getElem?_append_right (Nat.le_refl _), Nat.sub_self]; rfl)
    · exact hA x (Nat.le_trans hS1.1 hk)
  have hpre : PreS s H1 (va_Pc [.ref q] (ct_Pre D cs [(q, .inr (ci', fs'))] H1.size)) (.ref q :: []) := ⟨fun a U g mk z => by
    obtain ⟨z0, z1, zP, zK, zE⟩ := z
    exact ⟨z0, z1, zP, va_K.moved (u := U) (U := U.calling g mk a) (Vm.Alike.refl U.vm) zK, zE.blind⟩, fun U hU hWm => ⟨rfl, by rw [hU], by rw [hU]; exact hPc, va_K.moved hWm.alike hK, hE.warm hWm⟩⟩
  have hd : y.cls ≠ "java/lang/invoke/MethodHandle" ∧ y.cls ≠ "java/lang/invoke/VarHandle" ∧ (parseMethodDescriptor y.desc).map (fun d => d.parameters.length) = some 0 := by
    rw [hy]
    exact ⟨hyp.1, hyp.2, (by decide +kernel : (parseMethodDescriptor "()V").map (fun d => d.parameters.length) = some 0)⟩
  have hini : (Cond.initialized y.cls).before args s = true := by
    rw [hy]
    exact hts _ h3
  have hname : y.name = "<init>" := by rw [hy]
  have hrun : va_Run p l e R s m args below meth c H1 locs (cells + 1) (slots + N') mc ms (F0 m (pc + 4) ls (.ref q :: .ref q :: rest)) (.ref q :: rest) (va_Qv (Sh q cs) (fun w1 t => va_P D vwCl w1 t.heap ∧ va_D (va_A [(q, .inr (ci', fs'))] H1.size) w1) (va_A [(q, .inr (ci', fs'))] H1.size) (Value.ref q :: []).toArray) (va_A [(q, .inr (ci', fs'))] H1.size) := by
    have hroom2 : 2 * (F0 m (pc + 4) ls (.ref q :: .ref q :: rest)).monitorRoom + ((Value.ref q :: rest).map fun v => v.category).sum ≤ 8 := by
      refine lv_room ?_
      simp only [List.map_cons, List.sum_cons]
      show 1 + _ ≤ 8
      omega
    rcases h6 with h6 | h6
    · exact va_runIN ⟨hx, hb, hml, hown, hts⟩ (hM D cs q H1.size) ⟨va_cnB 0 hts (ct_good h5) rfl rfl rfl h6 hini hd hroom, hname, hts _ h4⟩ hpre rfl rfl hsz rfl hroom2 d2 ⟨hcells, hslots⟩
    · exact va_runI ⟨hx, hb, hml, hown, hts⟩ (hM D cs q H1.size) (cwI 0 hts (ct_good h5) rfl rfl rfl hini (hts _ h6) (hts _ h4) hname hd hroom) hpre rfl rfl hsz rfl hroom2 d2 ⟨hcells, hslots⟩
  refine va_callv hrun hS1 (fun x _ h => hFc x h) hFc fun w1 t H2 locs2 ht hvm hSh hB hz1 hk1 hS2 => ?_
  obtain ⟨hP2, hD2⟩ := hB
  rw [ht] at hP2
  obtain ⟨hP3, hD3⟩ := ct_join hP1 hD1 hk1 hFc hP2 hD2
  exact kk q w1 H2 locs2 hSh ⟨hP3, hD3, hS2⟩
/-- a field gets a new object -/
theorem ct_fo (Z : ct_S p s m args c cc nL own D cs A) {h0 : Nat} (h00 : ls[0]? = some (.val (.ref h0))) {C' : String} {T' : u_T} {y : MethodName} {cc' : ByteArray} {N' nL' fr lo mc ms ci' : Nat} {fs' : List Value} {Sh : Nat → tp_CS → va_W → Prop} (hM : ct_Met l y cc' nL' fr lo mc ms ci' fs' Sh) (idx1 idx2 : Nat) (hc' : vwCl[ci']? = some (C', T', N')) {ty0 : Nat → FieldType} (hty : ∀ k, k < N' → parseFieldDescriptor (T' k).2.2.1 = some (ty0 k)) (hfs : ∀ j, j < N' → defaultValue (ty0 j) = vp_V fs' j)
    (h1 : Cond.classLink own idx1 C' ∈ tp_gt) (h2 : Cond.instantiable C' N' ∈ tp_gt) (h3 : Cond.initialized C' ∈ tp_gt) (hy : y = ⟨C', "<init>", "()V"⟩) (hyp : C' ≠ "java/lang/invoke/MethodHandle" ∧ C' ≠ "java/lang/invoke/VarHandle") (h4 : Cond.instanceMethod y ∈ tp_gt) (h5 : Cond.code y cc' nL' none ∈ tp_gt) (h6 : (own, idx2, y) ∈ ct_nl)
    (hroom : fr + 1 ≤ R.frames ∧ 8 + (nL' + 11) + lo ≤ R.locals) (hcells : cells + 1 + mc ≤ R.cells) (hslots : slots + N' + ms ≤ R.slots) (hsz : ls.size = nL)
    (d00 : decode cc pc = .ok (.aload_n 0, 1)) (d0 : decode cc (pc + 1) = .ok (.new idx1, 3)) (d1 : decode cc (pc + 4) = .ok (.dup, 1)) (d2 : decode cc (pc + 5) = .ok (.invokespecial idx2, 3)) (k idx : Nat) (d3 : decode cc (pc + 8) = .ok (.putfield idx, 3))
    {ci : Nat} {T : u_T} {N : Nat} (hc : vwCl[ci]? = some (own, T, N)) (hk : k < N) (hin2 : meth.name = "<init>") (hdecl : (T k).1 = own) (hlink : Cond.fieldLink own idx own (T k).2.1 (T k).2.2.1 ∈ tp_gt) (hd : parseFieldDescriptor (T k).2.2.1 = some (.object C')) {fs : List Value} {X : va_W} (hl : fs.length = N) (hW : ct_W D A s ((h0, .inr (ci, fs)) :: X) H locs)
    (kk : ∀ (q : Nat) (w1 : va_W) (H1 : Heap) (locs1 : List Loc), Sh q cs w1 → ct_W D A s ((h0, .inr (ci, fs.set k (.ref q))) :: (X ++ w1)) H1 locs1 → W p l e R s m args below meth c H1 locs1 (cells + 1 + mc) (slots + N' + ms) Q (F0 m (pc + 11) ls [])) : W p l e R s m args below meth c H locs cells slots Q (F0 m pc ls []) := by
  refine lv_aload_n (i := 0) Z.1 Z.2.1 d00 rfl h00 ?_
  refine ct_make Z hM idx1 idx2 hc' hty hfs h1 h2 h3 hy hyp h4 h5 (Or.inl (Z.2.2.2.2.2.2.2.1 _ h6)) hroom hcells hslots hsz (by show 1 + 0 + 1 ≤ 8; omega) d0 d1 d2 hW fun q w1 H1 locs1 hSh hW1 => ?_
  have hW1' : ct_W D A s ((h0, .inr (ci, fs)) :: (X ++ w1)) H1 locs1 := hW1
  exact ct_put Z k idx hc hk hin2 hdecl hlink hd rfl rfl hl d3 hW1' fun H2 locs2 hW2 => kk q w1 H2 locs2 hSh hW2
end CTA
/-- a constructor's contract out of the walk of its body -/
theorem ct_of {l : Launch} {y : MethodName} {cc : ByteArray} {nL fr lo mc ms ci : Nat} {fs : List Value} {Sh : Nat → tp_CS → va_W → Prop} (hplain : plainName y.cls = true) (hname : y.name = "<init>") (hn1 : 1 ≤ nL)
    (body : ∀ (p : Program) (e : Env) (s : State) (m : MethodId) (args : Array Value) (below : List Frame) (meth : Method) (c : Code) (D : va_G) (cs : tp_CS) (A : Nat → Prop) (h0 : Nat) (ls : Array Slot) (Q : State → Prop), ct_S p s m args c cc nL y.cls D cs A → meth.name = "<init>" → ls[0]? = some (.val (.ref h0)) → lv_has ls nL [(0, .ref h0)] → ct_W D A s [(h0, .inr (ci, fs))] s.heap [] →
      (∀ (pc : Nat) (w1 : va_W) (H : Heap) (locs : List Loc) (ls : Array Slot), decode cc pc = .ok (.return_, 1) → Sh h0 cs w1 → ct_W D A s w1 H locs → W p l e { frames := fr, cells := mc, slots := ms, locals := lo } s m args below meth c H locs mc ms Q (F0 m pc ls [])) →
      W p l e { frames := fr, cells := mc, slots := ms, locals := lo } s m args below meth c s.heap [] 0 0 Q (F0 m 0 ls [])) : ct_Met l y cc nL fr lo mc ms ci fs Sh := by
  intro D cs h0 sz
  refine Met.ofW (cc := cc) (maxL := nL) (ret := none) hplain rfl ?_
  intro p e s m args below meth c s₁ B hml hv
  obtain ⟨rfl, hsz, hP, hK, hE⟩ := hv
  subst hsz
  have hts := atoms_spec (ws := .code y cc nL none :: tp_gt) B.pre
  have hown : s.vm.findClass y.cls = some m.cls := findClass_of_methodNamed B.named
  have hin : meth.name = "<init>" := (name_of_methodNamed B.named B.method).1.trans hname
  have hlocks := B.notSynchronized
  have hr := B.returns
  have hl := lv_entry ([.ref h0]) (n := nL) hn1
  rw [lg_entry_eq]
  generalize (lg_sl ([.ref h0]) ++ List.replicate (nL - (lg_sl ([.ref h0])).length) Slot.unset).toArray = ls at hl ⊢
  have hl : lv_has ls nL [(0, .ref h0)] := hl
  have hD : va_D (va_A [(h0, .inr (ci, fs))] s.heap.size) [(h0, .inr (ci, fs))] := ⟨fun i j x z hi hj _ => by
    have h1 : i < 1 := (List.getElem?_eq_some_iff.mp hi).1
    have h2 : j < 1 := (List.getElem?_eq_some_iff.mp hj).1
    omega, fun k q hk => va_A.in hk⟩
  refine body p e s m _ below meth c D cs (va_A [(h0, .inr (ci, fs))] s.heap.size) h0 ls _ ⟨B.exec, B.bytes, hml, hown, fun w hw => hts w (List.mem_cons_of_mem _ hw), hK, fun q hq => Or.inr hq, hE⟩ hin (lv_at hl 0 rfl) hl ⟨hP, hD, va_S.rf⟩ ?_
  intro pc w1 H locs ls hdg hSh hW
  exact W.vret B.exec B.bytes hr (fun t ht hWm => ⟨⟨w1, rfl, hSh, by rw [ht]; exact hW.1, hW.2.1⟩, hW.2.2.F ht⟩) hW.2.2.2.2 hdg hlocks
