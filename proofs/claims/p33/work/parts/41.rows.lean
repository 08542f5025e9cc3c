/-! MAKING: arrays of references, the row of lanes, the sheets -/
theorem ct_arr {cA : ClassId} {n : Nat} {f g : Nat → Value} (h : ∀ j, j < n → f j = g j) : arrV cA n f = arrV cA n g := by
  unfold arrV
  congr 1
  exact congrArg Array.ofFn (funext fun j => h j.val j.isLt)
section CTB
variable {p : Program} {l : Launch} {e : Env} {R : Room} {s : State} {m : MethodId} {args : Array Value} {below : List Frame} {meth : Method} {c : Code} {H : Heap} {locs : List Loc} {cells slots : Nat} {Q : State → Prop}
variable {cc : ByteArray} {nL pc : Nat} {own : String} {ls : Array Slot} {rest : List Value} {D : va_G} {cs : tp_CS} {A : Nat → Prop} {ws : va_W}
/-- a field gets a new array of int arrays -/
theorem ct_fm (Z : ct_S p s m args c cc nL own D cs A) {h0 : Nat} (h00 : ls[0]? = some (.val (.ref h0))) (N' K' : Nat) {n n2 : Int32} (hn : ¬ n < 0) (hN : n.toNatClampNeg = N') (hk2 : ¬ n2 < 0) (hK2 : n2.toNatClampNeg = K') (hle : N' ≤ 1000) (hle2 : K' ≤ 1000) {p2 : Nat} (mi : Nat) (hcl : Cond.classLink own mi "[[I" ∈ tp_gt)
    (d0 : decode cc pc = .ok (.aload_n 0, 1)) (hpush : W p l e R s m args below meth c H locs cells slots Q (F0 m p2 ls (.int n2 :: .int n :: .ref h0 :: [])) → W p l e R s m args below meth c H locs cells slots Q (F0 m (pc + 1) ls (.ref h0 :: []))) (d2 : decode cc p2 = .ok (.multianewarray mi 2, 4)) (k idx : Nat) (d3 : decode cc (p2 + 4) = .ok (.putfield idx, 3))
    {ci : Nat} {T : u_T} {N : Nat} (hc : vwCl[ci]? = some (own, T, N)) (hk : k < N) (hin2 : meth.name = "<init>") (hdecl : (T k).1 = own) (hlink : Cond.fieldLink own idx own (T k).2.1 (T k).2.2.1 ∈ tp_gt) (hd : parseFieldDescriptor (T k).2.2.1 = some (.array (.array .int))) {fs : List Value} {X : va_W} (hl : fs.length = N) (hcells : cells + (1 + N') ≤ R.cells) (hslots : slots + (N' + N' * K') ≤ R.slots) (hW : ct_W D A s ((h0, .inr (ci, fs)) :: X) H locs)
    (kk : ∀ (q : Nat) (r : Nat → Nat) (H1 : Heap) (locs1 : List Loc), ct_W D A s ((h0, .inr (ci, fs.set k (.ref q))) :: ((X ++ [(q, .inl (cs.2.2.2.2, N', .inr (.inr (.inr (.inr (fun i => if i < N' then some (r i) else none))))))]) ++ ((List.range N').map r).map (fun a => (a, .inl (cs.1, K', .inl fun _ => 0))))) H1 locs1 → W p l e R s m args below meth c H1 locs1 (cells + 1 + N') (slots + N' + N' * K') Q (F0 m (p2 + 7) ls [])) : W p l e R s m args below meth c H locs cells slots Q (F0 m pc ls []) := by
  have Z0 := Z
  obtain ⟨hx, hb, -, hown, hts, hK, hA, hE⟩ := Z
  refine lv_aload_n (i := 0) hx hb d0 rfl h00 (hpush ?_)
  obtain ⟨hP, hD, hS⟩ := hW
  have e0 : ((h0, .inr (ci, fs)) :: X : va_W) = ((h0, .inr (ci, fs)) :: X) ++ va_pl [] (fun _ => .inl (cs.1, K', .inl fun _ => 0)) := (List.append_nil _).symm
  rw [e0] at hP hD
  have hcy : s.vm.findClass (FieldType.array .int).toString = some cs.1 := (hK.2 0 _ rfl).2
  have hb2 : K' * componentBytes .int ≤ 536870912 := Nat.le_trans (Nat.mul_le_mul hle2 (show componentBytes .int ≤ 8 by decide)) (Nat.le_of_ble_eq_true rfl)
  refine va_mna (X := (h0, .inr (ci, fs)) :: X) (L := []) (ty := .int) (cy := cs.1) (N' := N') (K' := K') (z := (K', .inl fun _ => 0)) hx hb hown (hts _ hcl) hE.2.2 (hts _ (ct_aki (cs := cs) (s := s)).2.2.2.1) hcy hK hP hD hS hA hn hk2 hN hK2 (by omega) hb2 (by omega) rfl rfl hcells hslots (fun cB => ?_) d2 fun q r cA H1 hr1 hr2 hK1 hP1 hD1 hS1 => ?_
  · show ({ cls := cB, slots := Array.replicate K' (.int 0), vm := .none } : Cell) = _
    rw [arrV_new]
    rfl
  · have hlast : (tp_tys cs ++ [(cA, FieldType.array .int)])[(tp_tys cs).length]? = some (cA, FieldType.array .int) := by
      rw [List.getElem?_append_right (Nat.le_refl _), Nat.sub_self]
      rfl
    have e9 : cA = cs.2.2.2.2 := Option.some.inj ((hK1.2 _ _ hlast).2.symm.trans (hK.2 4 _ rfl).2)
    subst e9
    rw [← vr_rows (fun a _ h => by cases h)] at hP1 hD1
    have hW1 : ct_W D A s ((h0, .inr (ci, fs)) :: ((X ++ [(q, .inl (cs.2.2.2.2, N', .inr (.inr (.inr (.inr (fun i => if i < N' then some (r i) else none))))))]) ++ ((List.range N').map r).map (fun a => (a, .inl (cs.1, K', .inl fun _ => 0))))) H1 locs := ⟨hP1, hD1, hS1⟩
    exact ct_put Z0 k idx hc hk hin2 hdecl hlink hd rfl rfl hl d3 hW1 fun H2 locs2 hW2 => kk q r H2 locs2 hW2
/-- a field gets a new row for sheets -/
theorem ct_fq (Z : ct_S p s m args c cc nL own D cs A) {h0 : Nat} (h00 : ls[0]? = some (.val (.ref h0))) (N' : Nat) {n : Int32} (hn : ¬ n < 0) (hN : n.toNatClampNeg = N') (hle : N' ≤ 1000) {p2 : Nat} (mi : Nat) (hcl : Cond.classLink own mi "TramPence$Sheet" ∈ tp_gt)
    (d0 : decode cc pc = .ok (.aload_n 0, 1)) (hpush : W p l e R s m args below meth c H locs cells slots Q (F0 m p2 ls (.int n :: .ref h0 :: [])) → W p l e R s m args below meth c H locs cells slots Q (F0 m (pc + 1) ls (.ref h0 :: []))) (d2 : decode cc p2 = .ok (.anewarray mi, 3)) (k idx : Nat) (d3 : decode cc (p2 + 3) = .ok (.putfield idx, 3))
    {ci : Nat} {T : u_T} {N : Nat} (hc : vwCl[ci]? = some (own, T, N)) (hk : k < N) (hin2 : meth.name = "<init>") (hdecl : (T k).1 = own) (hlink : Cond.fieldLink own idx own (T k).2.1 (T k).2.2.1 ∈ tp_gt) (hd : parseFieldDescriptor (T k).2.2.1 = some (.array (.object "TramPence$Sheet"))) {fs : List Value} {X : va_W} (hl : fs.length = N) (hcells : cells + 1 ≤ R.cells) (hslots : slots + N' ≤ R.slots) (hW : ct_W D A s ((h0, .inr (ci, fs)) :: X) H locs)
    (kk : ∀ (q : Nat) (H1 : Heap) (locs1 : List Loc), ct_W D A s ((h0, .inr (ci, fs.set k (.ref q))) :: (X ++ [(q, .inl (cs.2.2.2.1, N', .inr (.inr (.inr (.inr (fun _ => none))))))])) H1 locs1 → W p l e R s m args below meth c H1 locs1 (cells + 1) (slots + N') Q (F0 m (p2 + 6) ls [])) : W p l e R s m args below meth c H locs cells slots Q (F0 m pc ls []) := by
  have Z0 := Z
  obtain ⟨hx, hb, -, hown, hts, hK, hA, hE⟩ := Z
  refine lv_aload_n (i := 0) hx hb d0 rfl h00 (hpush ?_)
  obtain ⟨hP, hD, hS⟩ := hW
  refine va_newq (C := "TramPence$Sheet") hx hb hown (hts _ hcl) hE.2.1 hK hP hD hS hA hn hN (by omega) hcells hslots d2 fun q cA H1 hK1 hP1 hD1 hS1 => ?_
  have hlast : (tp_tys cs ++ [(cA, FieldType.object "TramPence$Sheet")])[(tp_tys cs).length]? = some (cA, FieldType.object "TramPence$Sheet") := by
    rw [List.getElem?_append_right (Nat.le_refl _), Nat.sub_self]
    rfl
  obtain ⟨_, _, _, _, _, w1⟩ := (hK1.2 _ _ hlast).2
  obtain ⟨_, _, _, _, _, w2⟩ := (hK.2 3 _ rfl).2
  have e9 : cA = cs.2.2.2.1 := Option.some.inj (w1.symm.trans w2)
  subst e9
  have hW1 : ct_W D A s ((h0, .inr (ci, fs)) :: (X ++ [(q, .inl (cs.2.2.2.1, N', .inr (.inr (.inr (.inr (fun _ => none))))))])) H1 locs := ⟨hP1, hD1, hS1⟩
  exact ct_put Z0 k idx hc hk hin2 hdecl hlink hd rfl rfl hl d3 hW1 fun H2 locs2 hW2 => kk q H2 locs2 hW2
/-- dup, place, number, iastore: into the array that was made last -/
theorem ct_lane (Z : ct_S p s m args c cc nL own D cs A) {q : Nat} {x : Nat × va_E} {X : va_W} {n : Nat} {f : Nat → Int32} (i v : Int32) (t : Nat) (hit : i.toNatClampNeg = t) (hin : vp_in i n) {p2 : Nat} (d0 : decode cc pc = .ok (.dup, 1))
    (hpush : W p l e R s m args below meth c H locs cells slots Q (F0 m p2 ls (.int v :: .int i :: .ref q :: .ref q :: rest)) → W p l e R s m args below meth c H locs cells slots Q (F0 m (pc + 1) ls (.ref q :: .ref q :: rest))) (d2 : decode cc p2 = .ok (.iastore, 1)) (hW : ct_W D A s (x :: (X ++ [(q, .inl (cs.1, n, .inl f))])) H locs)
    (kk : ∀ (H1 : Heap) (locs1 : List Loc), ct_W D A s (x :: (X ++ [(q, .inl (cs.1, n, .inl (upd f t v)))])) H1 locs1 → W p l e R s m args below meth c H1 locs1 cells slots Q (F0 m (p2 + 1) ls (.ref q :: rest))) : W p l e R s m args below meth c H locs cells slots Q (F0 m pc ls (.ref q :: rest)) := by
  obtain ⟨hx, hb, -, hown, hts, hK, hA, hE⟩ := Z
  obtain ⟨hP, hD, hS⟩ := hW
  refine lv_dup hx hb d0 rfl (hpush ?_)
  have hat : (x :: (X ++ [(q, .inl (cs.1, n, .inl f))]) : va_W)[X.length + 1]? = some (q, .inl (cs.1, n, .inl f)) := by
    rw [List.getElem?_cons_succ, List.getElem?_append_right (Nat.le_refl _), Nat.sub_self]
    rfl
  have hset : ∀ e9, (x :: (X ++ [(q, .inl (cs.1, n, .inl f))]) : va_W).set (X.length + 1) (q, e9) = x :: (X ++ [(q, e9)]) := fun e9 => by
    rw [List.set_cons_succ, List.set_append_right _ _ (Nat.le_refl _), Nat.sub_self]
    rfl
  refine va_iast hx hb hK hP hD hS (X.length + 1) 0 hat rfl hin d2 fun H1 locs1 hP1 hD1 hS1 => ?_
  rw [hset, hit] at hP1 hD1
  exact kk H1 locs1 ⟨hP1, hD1, hS1⟩
end CTB
