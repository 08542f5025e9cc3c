/-! THE CLAIM OUT OF ONE WALK OF THE LAW'S BODY. Your part is whole_start (and what it stands on); all else here is the same for every law, but numbers. -/
def R_law : String := "TramPenceLaw"
def lw_P (b : Addr) (xs : List Int32) (args : Array Value) (s : State) : Prop := args = #[.ref b] ∧ s.IntsAt b xs ∧ xs.length ≤ 260 ∧ (Jvm.Cond.and given_1 narrow_1).before args s = true
def lw_Q (_ : Array Value) (s : State) (o : Outcome) (t : State) : Prop := o = .returned (some (.int 1)) ∧ Framed s o t [] 600000 7302250
def lw_Z (below : List Frame) (a : Array Value) (s : State) : State → Prop := fun t => ∃ o, t.status = .running ∧ Ended t below o ∧ lw_Q a s o t
/-- the law's own end, with 1 on the stack, nothing written that was there before, its room as the claim has it -/
theorem lw_ret {p : Program} {l : Launch} {e : Env} {s : State} {m : MethodId} {below : List Frame} {meth : Method} {c : Code} {b : Nat} (hx : p.tables.exec = Jvm.exec) (hb : c.code = code) (hr : meth.sig.returnType = ret) (hlocks : meth.locks = false) {pc : Nat} {H : Heap} {ls : Array Slot} (hdg : decode code pc = .ok (.ireturn, 1)) : W p l e room_1 s m #[Value.ref b] below meth c H [] 600000 7302250 (lw_Z below #[Value.ref b] s) (F0 m pc ls [.int 1]) := by
  intro T hT X
  obtain ⟨fs, hret, hrun, hended, hW, hframe⟩ := X.leave (v := some (.int 1)) (hlocks := hlocks) (fun h => by rw [hr] at h; cases h)
  have hmeth' : T.vm.method? m = some meth := X.method'
  refine ⟨T.setFrames fs, ?_, .returned (some (.int 1)), hrun, hended, rfl, ⟨_, rfl⟩, hW, hframe⟩
  jvm_step X.here [X.here.top, hx, hb, hdg, hmeth', hr, ret, narrow_b1]
  (try refine ⟨rfl, ?_⟩); (try refine ⟨rfl, ?_⟩)
  first | (intro acts; rw [hret _ acts rfl rfl rfl]) | rw [hret _ _ rfl rfl rfl]
  exact Steps.refl _
/-- what holds at the law's entry: the machine, the code, the tables' words (any of lw_tbl by 'hts w (by decide +kernel)'), the script of L ints xs at the cell b, what the Statement gives of the start (any of its parts by flat_of_before) -/
def lw_At (p : Program) (s : State) (m : MethodId) (meth : Method) (c : Code) (b L : Nat) (xs : Nat → Int32) : Prop :=
  p.tables.exec = Jvm.exec ∧ c.code = code ∧ meth.sig.returnType = ret ∧ c.maxLocals = 24 ∧ s.vm.findClass R_law = some m.cls ∧ (∀ w ∈ lw_tbl, w.before #[Value.ref b] s = true) ∧ va_X b L xs s s.heap ∧ b < s.heap.size ∧ meth.locks = false ∧ (Jvm.Cond.and given_1 narrow_1).before #[Value.ref b] s = true
-- ===== YOUR PART BEGINS =====
theorem sl_0 : decode code 0 = .ok (.new 20, 3) := by decide +kernel
theorem sl_3 : decode code 3 = .ok (.dup, 1) := by decide +kernel
theorem sl_4 : decode code 4 = .ok (.invokespecial 25, 3) := by decide +kernel
theorem sl_7 : decode code 7 = .ok (.astore_n 1, 1) := by decide +kernel
theorem sl_8 : decode code 8 = .ok (.iconst 2, 1) := by decide +kernel
theorem sl_9 : decode code 9 = .ok (.newarray .int, 2) := by decide +kernel
theorem sl_43 : decode code 43 = .ok (.newarray .int, 2) := by decide +kernel
theorem sl_110 : decode code 110 = .ok (.newarray .int, 2) := by decide +kernel
theorem sl_115 : decode code 115 = .ok (.newarray .int, 2) := by decide +kernel
theorem sl_141 : decode code 141 = .ok (.newarray .int, 2) := by decide +kernel
theorem sl_147 : decode code 147 = .ok (.newarray .int, 2) := by decide +kernel
theorem sl_321 : decode code 321 = .ok (.newarray .int, 2) := by decide +kernel
/-- what is only read: the script and its length -/
def sl_ro (L : Nat) (xs : Nat → Int32) : Nat → Nat → Int32 := fun o k => if o = 89 then nI L else if o = 90 then xs k else 0
theorem sl_X {b L : Nat} {xs : Nat → Int32} {s : State} {A : Nat → Prop} (hL : L < 2 ^ 31) (h : va_X b L xs s s.heap) (hA : ¬ A b) : va_T .int b L (fun j => .int (xs j)) A s s.heap := by
  obtain ⟨scr, h1, h2, h3, h4, h5⟩ := h
  exact ⟨scr, h1, h2, h3, by rw [h4]; exact Nat.le_refl _, by rw [h4], h5, hA⟩
theorem sl_exL {pc N : Nat} (h : ((tp_exL pc).all fun v => match v with
  | .ref o => o != N
  | _ => true) = true) : ∀ o, .ref o ∈ tp_exL pc → ¬ o = N := fun o ho => by
  have := List.all_eq_true.mp h _ ho
  simpa using this
set_option maxHeartbeats 4000000 in
set_option maxRecDepth 100000 in
/-- YOUR PART: from the entry, for every script of at most 260 ints, the law comes to its end with true -/
theorem whole_start {p : Program} {e : Env} {s : State} {m : MethodId} {below : List Frame} {meth : Method} {c : Code} (l : Launch) (hflags : l.flags = flags0) {b L : Nat} {xs : Nat → Int32} (hL : L ≤ 260) (C0 : lw_At p s m meth c b L xs) : W p l e room_1 s m #[Value.ref b] below meth c s.heap [] 0 0 (lw_Z below #[Value.ref b] s) (entryFrame m ([Value.ref b] : List Value).toArray 24) := by
  obtain ⟨hx, hb, hr, hml, hown, htbl, hX, hbl, hlocks, hgv⟩ := C0
  have hts : ∀ w ∈ tp_gt, w.before #[.ref b] s = true := fun w hw => htbl w (List.mem_filter.mp hw).1
  obtain ⟨D, hD0⟩ := bg_classes hts
  obtain ⟨cs, hcs⟩ := bg_arr htbl
  have hK : va_K D vwCl (tp_tys cs) s := ⟨hD0, hcs⟩
  generalize hAe : (fun q : Nat => s.heap.size ≤ q) = A
  have hA : ∀ q : Nat, s.heap.size ≤ q → A q := fun q h => by rw [← hAe]; exact h
  have hA2 : ∀ q : Nat, A q → s.heap.size ≤ q := fun q h => by rw [← hAe] at h; exact h
  have hA3 : ∀ a : Nat, a < s.heap.size → ¬ A a := fun a h h2 => by have := hA2 a h2; omega
  have Z : ct_S p s m #[.ref b] c code 24 R_law D cs A := ⟨hx, hb, hml, hown, hts, hK, hA, bg_E htbl⟩
  have hl := lv_entry ([.ref b]) (n := 24) (Nat.le_of_ble_eq_true rfl)
  rw [lg_entry_eq]
  generalize (lg_sl ([.ref b]) ++ List.replicate (24 - (lg_sl ([.ref b])).length) Slot.unset).toArray = ls at hl ⊢
  have hl : lv_has ls 24 [(0, .ref b)] := hl
  have hW : ct_W D A s [] s.heap [] := ⟨fun k q h => (by cases h), ⟨fun i j x y h => (by cases h), fun k q h => (by cases h)⟩, va_S.rf⟩
  refine ct_make Z (ctor_X9 l) 20 25 (C' := RX9) (T' := TX9) (N' := 7) rfl (ty0 := tyX9) tyX9_ok (by decide +kernel) (tp_gt_in (i := 19) (by decide +kernel)) (tp_gt_in (i := 20) (by decide +kernel)) (tp_gt_in (i := 8) (by decide +kernel)) rfl ⟨by decide +kernel, by decide +kernel⟩ (tp_gt_in (i := 22) (by decide +kernel)) (tp_gt_in (i := 23) (by decide +kernel)) (Or.inr (tp_gt_in (i := 21) (by decide +kernel))) ⟨Nat.le_of_ble_eq_true rfl, Nat.le_of_ble_eq_true rfl⟩ (Nat.le_of_ble_eq_true rfl) (Nat.le_of_ble_eq_true rfl) hl.1 (show 0 + 1 ≤ 8 by decide) sl_0 sl_3 sl_4 hW fun q1 w1 H locs hS1 hW => ?_
  obtain ⟨r, u1, u2, rfl, rfl⟩ := hS1
  have hW : ct_W D A s (sw_X9 cs r u1 u2) H locs := hW
  refine lv_astore_n (i := 1) hx hb sl_7 rfl hl (by decide) rfl fun ls hl => ?_
  refine lv_iconst (v := 2) hx hb sl_8 rfl ?_
  have hW := bg_fwW hW
  obtain ⟨hP, hap⟩ := bg_ws (b := b) (ro := sl_ro L xs) hW
  have h89 : (s_i (sl_ro L xs)).1 89 0 = nI L := s_i_ro (by decide)
  have hcl : ((s_i (sl_ro L xs)).1 89 0).toNatClampNeg = L := by
    rw [h89]
    exact nI_clamp (by omega)
  have hro : tp_ro (bg_ad r u1 u2 b) A s s.heap (s_i (sl_ro L xs)) := by
    unfold tp_ro
    rw [hcl]
    exact bg_T (sl_X (by omega) hX (hA3 b hbl)) (fun j _ => by rw [show (s_i (sl_ro L xs)).1 90 j = xs j from s_i_ro (by decide)])
  have hlv : tp_lv (bg_ad r u1 u2 b) ls 24 (tp_exL 9) := ⟨lv_sub hl [1, 0] rfl, rfl⟩
  have hown2 : s.vm.findClass (tp_cls 43) = some m.cls := hown
  have g7 : al_Go p l e s m #[.ref b] below meth c (lw_Z below #[Value.ref b] s) D cs A 321 (R6 L) 1 :=
    al_end Z hown2 (N := 64) sl_321 (by omega) (by decide +kernel) (by decide +kernel) (sl_exL (by decide +kernel)) (fun σ h => ⟨by obtain ⟨_, _, _, _, h, _⟩ := h; rw [h], r_7 h⟩) (fun pc H locs ls cells slots hdg hS hc hs => by
      refine va_forget (fun q hq => hA2 _ (hS.2.2 q hq)) ?_
      refine W.widen (k := 600000) (n := 7302250) hc hs ?_
      exact lw_ret hx hb hr hlocks hdg)
  have g6 := al_go Z hown2 (N := 63) (pn := 321) (R := R5 L) sl_147 (by omega) (by decide +kernel) (by decide +kernel) (sl_exL (by decide +kernel)) (by omega) (by decide +kernel) (fun σ h => ⟨by rw [h.1], r_6 h⟩) g7
  have g5 := al_go Z hown2 (N := 62) (pn := 147) (R := R4 L) sl_141 (by omega) (by decide +kernel) (by decide +kernel) (sl_exL (by decide +kernel)) (by omega) (by decide +kernel) (fun σ h => ⟨by rw [h.1], r_5 h⟩) g6
  have g4 := al_go Z hown2 (N := 61) (pn := 141) (R := R3 L) sl_115 (by omega) (by decide +kernel) (by decide +kernel) (sl_exL (by decide +kernel)) (by omega) (by decide +kernel) (fun σ h => ⟨by rw [h.1], r_4 h⟩) g5
  have g3 := al_go Z hown2 (N := 60) (pn := 115) (R := R2 L) sl_110 (by omega) (by decide +kernel) (by decide +kernel) (sl_exL (by decide +kernel)) (by omega) (by decide +kernel) (fun σ h => ⟨by rw [h.1], r_3 h⟩) g4
  have g2 := al_go Z hown2 (N := 59) (pn := 110) (R := R1 L) sl_43 (by omega) (by decide +kernel) (by decide +kernel) (sl_exL (by decide +kernel)) (by omega) (by decide +kernel) (fun σ h => ⟨by rw [h.1], r_2 h⟩) g3
  have g1 := al_go Z hown2 (N := 58) (pn := 43) (R := R0 L) sl_9 (by omega) (by decide +kernel) (by decide +kernel) (sl_exL (by decide +kernel)) (by omega) (by decide +kernel) (fun σ h => ⟨by rw [h.1], r_0 h⟩) g2
  exact g1 (bg_ad r u1 u2 b) (s_i (sl_ro L xs)) (s_i (sl_ro L xs)) H locs ls _ _ ⟨hP, ⟨fun _ _ => rfl, rfl⟩, hW.2.2⟩ hap hro hlv (s_i_R rfl (by omega)) (Nat.le_of_ble_eq_true rfl) (Nat.le_of_ble_eq_true rfl)
-- ===== YOUR PART ENDS =====
set_option maxHeartbeats 4000000 in
theorem lw_walk (l : Launch) (hflags : l.flags = flags0) (b : Addr) (xs : List Int32) : MetFree l x (headSpec (Jvm.Cond.code x code maxLocals ret :: tables_1) room_1) (lw_P b xs) (fun _ _ _ _ _ => True) lw_Q := by
  refine MetFree.of_bodyS (code := code) (maxLocals := maxLocals) (ret := ret) (by decide) ?_ ?_
  · intro args s m h hn
    obtain ⟨meth, c, h1, h2, h3, h4, h5, h6, -, -⟩ := Cond.code_spec hn (atoms_spec (ws := Jvm.Cond.code x code maxLocals ret :: tables_1) h _ List.mem_cons_self)
    exact ⟨meth, c, h1, h2, h3, h4, h5, h6⟩
  · intro p e s m args below meth c s₁ B hml0 hP _
    obtain ⟨rfl, hx, hbd, hgv⟩ := hP
    obtain ⟨scr, harrAt, hlist, hof, hsmall⟩ := hx
    obtain ⟨hcb, hkn, -, -⟩ := State.arrayAt?_spec harrAt
    have hown : s.vm.findClass R_law = some m.cls := findClass_of_methodNamed B.named
    have hts0 : ∀ c ∈ (Jvm.Cond.code x code maxLocals ret :: tables_1), c.before #[Value.ref b] s = true := atoms_spec (ws := Jvm.Cond.code x code maxLocals ret :: tables_1) B.pre
    have hts : ∀ w ∈ lw_tbl, w.before #[Value.ref b] s = true := k2_hts_sels lw_privs (fun w hw => hts0 w (List.mem_cons_of_mem _ hw)) lw_privs_ok
    have hml : c.maxLocals = 24 := B.maxLocals_eq (hts0 _ List.mem_cons_self)
    have X₀ : Stand p l e room_1 s m #[Value.ref b] below meth c s₁ [] 0 0 := Stand.of_body B
    have hh0 : s₁.heap = s.heap := by rw [B.state]; rfl
    have hsz : scr.slots.size = xs.length := by rw [← Array.length_toList, hlist, List.length_map]
    have hval : ∀ j : Nat, j < xs.length → scr.slots[j]? = some (.int (xs.getD j 0)) := fun j hj => by
      rw [← Array.getElem?_toList, hlist]
      simp [hj]
    have hbl : b < s.heap.size := (Array.getElem?_eq_some_iff.mp hcb).1
    have hX : va_X b xs.length (fun j => xs.getD j 0) s s.heap := ⟨scr, hcb, hof, hkn, hsz, hval⟩
    have K : W p l e room_1 s m #[Value.ref b] below meth c s₁.heap [] 0 0 (lw_Z below #[Value.ref b] s) (entryFrame m ([Value.ref b] : List Value).toArray 24) := by
      rw [hh0]
      exact whole_start l hflags hbd ⟨B.exec, B.bytes, B.returns, hml, hown, hts, hX, hbl, B.notSynchronized, hgv⟩
    obtain ⟨t, a1, o, b1, b2, b3⟩ := K s₁ rfl X₀
    exact ⟨t, o, a1, b1, b2, b3⟩
theorem lw_pre_spec {args : Array Value} {s : State} (h : (Jvm.Cond.and given_1 narrow_1).before args s = true) (hr : rest_1_c.before args s = true) : ∃ (b : Addr) (xs : List Int32), lw_P b xs args s := by
  have hs := flat_of_before _ h
  have hq := flat_of_before _ hr
  have hc : (Cond.count 1).before args s = true := hs _ (by decide +kernel)
  have harr : (Cond.arrayOf (.arg 0) .int).before args s = true := hs _ (by decide +kernel)
  have hle : (Cond.le (.length (.arg 0)) (.int 260)).before args s = true := hs _ (by decide +kernel)
  have hlen : (Cond.isInt (.length (.arg 0))).before args s = true := hq _ (by decide +kernel)
  have hall : (Cond.all (.arg 0) (.isInt (.elem (.arg 0) (.index 0)))).before args s = true := hq _ (by decide +kernel)
  obtain ⟨b, xs, hb, hx⟩ := State.ints_of_pre rfl harr hlen hall
  have hsm : xs.length < 2 ^ 31 := hx.choose_spec.2.2.2
  have hev : (Term.length (.arg 0)).eval args s none [] s = some (.int xs.length.toInt32) := hx.length_eval hb
  have hv := Cond.le_ints hev (show (Term.int 260).eval args s none [] s = some (.int 260) from rfl)
  have hd : xs.length.toInt32 ≤ 260 := by
    simpa [Cond.before, Cond.holds, hv] using hle
  have hN : xs.length ≤ 260 := (Int32.ofNat_le_ofNat hsm (by decide)).mp (show Int32.ofNat xs.length ≤ Int32.ofNat 260 from hd)
  exact ⟨b, xs, Cond.one_arg hc (show args[0]? = some (.ref b) from hb), hx, hN, h⟩
theorem lw_comes (l : Launch) (hflags : l.flags = flags0) : Comes l x (Jvm.Cond.code x code maxLocals ret :: tables_1) room_1 (fun tb e args s => Calls_1 tb e args s ∧ rest_1 tb e args s ∧ Pre_1 tb e args s)
    (fun _ _ args s o t => lw_Q args s o t) := by
  intro p e ha hc hk s m args below hf hfit hheap happ hpre
  obtain ⟨b, xs, hP⟩ := lw_pre_spec hpre.2.2 hpre.2.1
  obtain ⟨k, o, h1, h2, h3, hQ⟩ := lw_walk l hflags b xs p e ha hc hk s m args below hf ((Spec.applies_iff_loose hf).mp happ).1 hP trivial
  exact ⟨k, o, h1, h2, h3, hQ⟩
theorem lw_frame {s t : State} {o : Outcome} {args : Array Value} (h : Framed s o t [] 600000 7302250) :
    Framed s o t (fieldLocs frame_1_writes args s ++ arrayLocs frame_1_arrays args s ++ staticLocs frame_1_statics s) 600000 7302250 := h
theorem lw_limb (L : Cond) (hL : ∀ (args : Array Value) (s t : State), L.after args s (.returned (some (.int 1))) t = true) :
    ArmFor flags0 classFile x code maxLocals ret World_1 tables_1 room_1 Calls_1 rest_1 Pre_1
      (fun tb e a s o t => postC L tb e a s o t ∧ Framed s o t (fieldLocs frame_1_writes a s ++ arrayLocs frame_1_arrays a s ++ staticLocs frame_1_statics s) 600000 7302250) := by
  intro l hflags _ _ p e ha hc hk s m args below hf hfit hheap happ hpre
  obtain ⟨k, o, h1, h2, h3, rfl, hF⟩ := lw_comes l hflags p e ha hc hk s m args below hf hfit hheap happ hpre
  exact ⟨k, _, h1, h2, h3, hL args s _, lw_frame hF⟩
theorem i_vc : Claimed_1_1 ∧ Claimed_1_2 := ⟨lw_limb limb_1_1 (fun args s t => by simp [limb_1_1, Cond.after, Cond.holds, Cond.value]), lw_limb limb_1_2 (fun args s t => Cond.after_iff.mpr (by
  first | (rw [show limb_1_2 = Cond.eq .result (.int 1) from rfl, Cond.eq_ints (x := 1) (y := 1) rfl rfl]; simp; done) | (simp [limb_1_2, Cond.value, Term.eval]; done)))⟩
