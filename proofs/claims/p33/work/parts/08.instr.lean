section TPI
variable {p : Program} {l : Launch} {e : Env} {R : Room} {s : State} {m : MethodId} {args : Array Value} {below : List Frame} {meth : Method} {c : Code} {cells slots : Nat} {Q : State → Prop}
variable {D : va_G} {cs : tp_CS} {ad : Nat → Nat} {A : Nat → Prop} {σ0 : tp_St} {mid : Nat}
theorem tp_wk_len : ∀ {L L' : List Value}, tp_wk L' L → L'.length = L.length
  | [], [], _ => rfl
  | _ :: L, _ :: L', h => by rw [List.length_cons, List.length_cons, tp_wk_len h.2]
  | [], _ :: _, h => h.elim
  | _ :: _, [], h => h.elim
theorem tp_wk_at : ∀ {L L' : List Value} {k : Nat} {v : Value}, tp_wk L' L → L'[k]? = some v → tp_nn v = true → L[k]? = some v
  | [], [], _, _, _, h, _ => h
  | _ :: L, _ :: L', 0, v, h, hv, hn => by
    cases hv
    rcases h.1 with rfl | rfl
    · cases hn
    · rfl
  | _ :: L, _ :: L', k + 1, v, h, hv, hn => tp_wk_at (k := k) h.2 hv hn
  | [], _ :: _, _, _, h, _, _ => h.elim
  | _ :: _, [], _, _, h, _, _ => h.elim
theorem tp_lv_wk {ls : Array Slot} {n : Nat} {L L' : List Value} (hw : tp_wk L' L) (h : tp_lv ad ls n L) : tp_lv ad ls n L' := by
  refine ⟨⟨h.1.1, h.1.2.1, fun q hq => ?_⟩, (tp_wk_len hw).trans h.2⟩
  obtain ⟨v, h1, h2, h3⟩ := tp_al_mem.mp hq
  exact h.1.2.2 q (tp_al_mem.mpr ⟨v, tp_wk_at hw h1 h2, h2, h3⟩)
theorem tp_tl_in {K : Nat → Prop} {pc : Nat} {x : Int32} : ∀ (os : List Int) (lo : Int), tp_tl K pc x lo os → ¬ x.toInt < lo → x.toInt < lo + os.length → ∃ off, os[(x.toInt - lo).toNat]? = some off ∧ K ((pc : Int) + off).toNat
  | [], lo, _, h1, h2 => by simp at h2; omega
  | o :: os, lo, h, h1, h2 => by
    by_cases hx : x.toInt = lo
    · exact ⟨o, by rw [hx, Int.sub_self]; rfl, h.1 hx⟩
    · obtain ⟨off, g1, g2⟩ := tp_tl_in os (lo + 1) h.2 (by omega) (by simp at h2; omega)
      refine ⟨off, ?_, g2⟩
      rw [show (x.toInt - lo).toNat = (x.toInt - (lo + 1)).toNat + 1 by omega, List.getElem?_cons_succ]
      exact g1
theorem tp_lk_in {K : Nat → Prop} {pc : Nat} {x : Int32} {d : Int} : ∀ (ps : List (Int × Int)), tp_lk K pc x d ps → ∃ off, Op.lookupswitch.offset ps d x.toInt = off ∧ (off = d ∨ ∃ q ∈ ps, off = q.2) ∧ K ((pc : Int) + off).toNat
  | [], h => ⟨d, rfl, Or.inl rfl, h⟩
  | q :: ps, h => by
    by_cases hx : x.toInt = q.1
    · refine ⟨q.2, ?_, Or.inr ⟨q, List.mem_cons_self, rfl⟩, h.1 hx⟩
      obtain ⟨q1, q2⟩ := q
      rw [Op.lookupswitch.offset_cons, if_pos]
      exact hx.symm
    · obtain ⟨off, g1, g2, g3⟩ := tp_lk_in ps (h.2 hx)
      refine ⟨off, ?_, ?_, g3⟩
      · obtain ⟨q1, q2⟩ := q
        rw [Op.lookupswitch.offset_cons, if_neg]
        · exact g1
        · exact fun z => hx z.symm
      · rcases g2 with g2 | ⟨q', g2, g4⟩
        · exact Or.inl g2
        · exact Or.inr ⟨q', List.mem_cons_of_mem _ g2, g4⟩
theorem tp_kd_big {q k : Nat} (h : tp_kd q = k) (hk : k < 99) : q < 101 := by
  by_cases hq : q < 101
  · exact hq
  · have h2 : tp_kd q = 99 := by
      unfold tp_kd
      rw [List.getD_eq_getElem?_getD, List.getElem?_eq_none (by show 101 ≤ q; omega)]
      rfl
    omega
theorem tp_kd_26 {q : Nat} (h : tp_kd q = 26) : q = 90 := (by decide +kernel : ∀ q, q < 101 → tp_kd q = 26 → q = 90) q (tp_kd_big h (by decide)) h
theorem tp_good {w : Cond} (h : w ∈ tp_gt) : w ∈ tp_gt ∧ ((w.onTables && w.keeps) = true ∨ ∃ ty, w = .arrayClass ty) := ⟨h, good_of_word (List.mem_filter.mp h).2⟩
theorem tp_goodW {a : Nat} (ha : a < tp_law) : GoodIn tp_gt (tp_wl a) := fun w hw => by
  rcases List.mem_cons.mp hw with rfl | hw
  · exact tp_good (tp_cwA a ha)
  · exact tp_good hw
theorem tp_goodV {a : Nat} {own : String} {k : Nat} (ha : a < tp_law) (h1 : Cond.instanceMethod (tp_y a) ∈ tp_gt) (h2 : Cond.selects (tp_y a).cls (tp_y a) (tp_y a) ∈ tp_gt) (h3 : Cond.initialized (tp_y a).cls ∈ tp_gt) (h4 : Cond.methodLink own k (tp_y a) ∈ tp_gt) : GoodIn tp_gt (wsV own k (tp_y a).cls (tp_y a) (tp_wl a)) := fun w hw => by
  rcases List.mem_append.mp hw with hw | hw
  · simp only [List.mem_cons, List.not_mem_nil, or_false] at hw
    rcases hw with rfl | rfl | rfl | rfl
    · exact tp_good h4
    · exact tp_good h1
    · exact tp_good h2
    · exact tp_good h3
  · exact tp_goodW ha w hw
theorem tp_goodS {a : Nat} {own : String} {k : Nat} (ha : a < tp_law) (h1 : Cond.static (tp_y a) ∈ tp_gt) (h3 : Cond.initialized (tp_y a).cls ∈ tp_gt) (h4 : Cond.methodLink own k (tp_y a) ∈ tp_gt) : GoodIn tp_gt (va_wsS own k (tp_y a) (tp_wl a)) := fun w hw => by
  rcases List.mem_append.mp hw with hw | hw
  · simp only [List.mem_cons, List.not_mem_nil, or_false] at hw
    rcases hw with rfl | rfl | rfl
    · exact tp_good h4
    · exact tp_good h1
    · exact tp_good h3
  · exact tp_goodW ha w hw
theorem tp_okM_at {a : Nat} (ha : a < tp_law) : tp_okM a = true := List.all_eq_true.mp tp_okMs a (List.mem_range.mpr ha)
theorem tp_okM_v {a : Nat} (ha : a < tp_law) (hk : tp_rk a < 11) : Cond.instanceMethod (tp_y a) ∈ tp_gt ∧ Cond.selects (tp_y a).cls (tp_y a) (tp_y a) ∈ tp_gt ∧ (parseMethodDescriptor (tp_y a).desc).map (fun d => d.parameters.length) = some (tp_na a - 1) ∧ 0 < tp_na a ∧ Cond.initialized (tp_y a).cls ∈ tp_gt ∧ ((tp_y a).cls ≠ "java/lang/invoke/MethodHandle" ∧ (tp_y a).cls ≠ "java/lang/invoke/VarHandle") ∧ (tp_y a).cls = tp_cls a ∧ plainName (tp_y a).cls = true ∧ (tp_rk a < 11 → (vwCl[tp_rk a]?).map (fun q => q.1) = some (tp_y a).cls) := by
  have h := tp_okM_at ha
  unfold tp_okM at h
  simp only [Bool.and_eq_true, decide_eq_true_eq] at h
  obtain ⟨h1, h2, h3, h4, h5, h6⟩ := h
  split at h1
  · rename_i hr
    omega
  · simp only [Bool.and_eq_true, decide_eq_true_eq] at h1
    refine ⟨tp_gt_in h1.1, tp_gt_in h1.2.1, h1.2.2.1, h1.2.2.2, tp_gt_in h2, h3, h4, h5, fun hr => ?_⟩
    rw [if_pos hr] at h6
    simpa using h6
theorem tp_okM_s {a : Nat} (ha : a < tp_law) (hk : tp_rk a = 50) : Cond.static (tp_y a) ∈ tp_gt ∧ (parseMethodDescriptor (tp_y a).desc).map (fun d => d.parameters.length) = some (tp_na a) ∧ Cond.initialized (tp_y a).cls ∈ tp_gt ∧ ((tp_y a).cls ≠ "java/lang/invoke/MethodHandle" ∧ (tp_y a).cls ≠ "java/lang/invoke/VarHandle") := by
  have h := tp_okM_at ha
  unfold tp_okM at h
  simp only [Bool.and_eq_true, decide_eq_true_eq] at h
  obtain ⟨h1, h2, h3, h4, h5, h6⟩ := h
  split at h1
  · simp only [Bool.and_eq_true, decide_eq_true_eq] at h1
    exact ⟨tp_gt_in h1.1, h1.2, tp_gt_in h2, h3⟩
  · rename_i hr
    exact absurd hk hr
theorem tp_recv {a q : Nat} {σ : tp_St} {H : Heap} {locs : List Loc} (cx : tp_Cx p R s m args c cells slots D cs ad A σ0 mid) (hW : tp_Wd D cs ad A s σ0 σ H locs) (ha : a < tp_law) (hk : tp_rk a < 11) (hq : tp_kd q = tp_rk a) : ∃ cell : Cell, H[ad q]? = some cell ∧ cell.vm.isStatics = false ∧ s.vm.findClass (tp_y a).cls = some cell.cls := by
  obtain ⟨hx, hb, hml, hown, hts, hK0, hap, hA, hro, hrf, hrl, hcl, hsl⟩ := cx
  obtain ⟨hP, hσ, hS⟩ := hW
  rw [← hσ.2] at hap
  obtain ⟨m1, m2, m3, m4, m5, m6, m7, m8, m9⟩ := tp_okM_v ha hk
  cases hc : vwCl[tp_rk a]? with
  | none =>
    have h9 := m9 hk
    rw [hc] at h9
    cases h9
  | some t =>
    have h9 := m9 hk
    rw [hc] at h9
    have h10 : t.1 = (tp_y a).cls := Option.some.inj h9
    rw [← h10]
    have hq58 : q < 58 := tp_kd_58 (by omega) (by omega)
    exact va_recv hK0 hP (ci := tp_rk a) (q0 := q) hc (by rw [tp_ws_at (Nat.lt_of_lt_of_le hq58 hap.1.1), tp_cell_cls (by omega), hq])
theorem tp_pre {σ : tp_St} {H : Heap} {locs : List Loc} {U : State} (cx : tp_Cx p R s m args c cells slots D cs ad A σ0 mid) (hW : tp_Wd D cs ad A s σ0 σ H locs) (hU : U.heap = H) (hWm : s.WarmedH U.vm) : tp_Pre D cs ad σ H.size U := by
  obtain ⟨hx, hb, hml, hown, hts, hK0, hap, hA, hro, hrf, hrl, hcl, hsl⟩ := cx
  obtain ⟨hP, hσ, hS⟩ := hW
  rw [← hσ.2] at hap
  refine ⟨by rw [hU], by rw [hU]; exact hP, va_K.moved hWm.alike hK0, ⟨hap.1, hap.2.1⟩, ?_⟩
  refine hro.go hWm.alike (fun q h1 h2 => by rw [hU]; exact hS.2.1 q h1 h2) (fun q hq => ?_) hσ
  rcases tp_A_iff.mp hq with ⟨i, hi, rfl⟩ | hq
  · exact hap.2.2 i hi
  · exact hA q (Nat.le_trans hS.1 hq)
theorem tp_after {a pc : Nat} {av : Array Value} {σ : tp_St} {H : Heap} {locs : List Loc} {ls : Array Slot} {st0 rest L : List Value} {post : Int32 → tp_St → Prop}
    (hr : va_Run p l e R s m args below meth c H locs cells slots 0 0 (F0 m pc ls st0) (rest.map (tp_v ad)) (tp_Qc D cs ad σ H.size (tp_ret a) post av) (va_A (tp_ws cs ad σ) H.size)) (hap : tp_ap ad A σ0.2.1) (hA : ∀ q, s.heap.size ≤ q → A q)
    (hW : tp_Wd D cs ad A s σ0 σ H locs) (hl : tp_lv ad ls (tp_n mid) L) (kk : ∀ r σ', post r σ' → tp_G p l e R s m args below meth c cells slots Q D cs ad A σ0 (tp_n mid) (pc + 3) L (tp_push a r rest) σ') :
    W p l e R s m args below meth c H locs cells slots Q (F0 m pc ls st0) := by
  obtain ⟨hP, hσ, hS⟩ := hW
  rw [← hσ.2] at hap
  have hAA : ∀ q, va_A (tp_ws cs ad σ) H.size q → A q := fun q hq => by
    rcases tp_A_iff.mp hq with ⟨i, hi, rfl⟩ | hq
    · exact hap.2.2 i hi
    · exact hA q (Nat.le_trans hS.1 hq)
  unfold tp_Qc at hr
  unfold tp_push at kk
  cases hret : tp_ret a with
  | none =>
    rw [hret] at hr kk
    exact va_callv hr hS (fun q _ h => hAA q h) hAA (fun u t H1 locs1 ht hvm hw hB hz1 hk1 hS1 => kk 0 u hw H1 locs1 ls ⟨by rw [← ht]; exact hB.1, hB.2.tr hσ, hS1⟩ hl)
  | some t0 =>
    rw [hret] at hr kk
    exact va_calli hr hS (fun q _ h => hAA q h) hAA (fun r u t H1 locs1 ht hvm hw hB hz1 hk1 hS1 => kk r u hw H1 locs1 ls ⟨by rw [← ht]; exact hB.1, hB.2.tr hσ, hS1⟩ hl)
set_option maxHeartbeats 4000000 in
theorem tp_snI {K : tp_KT} {C : tp_CT} {post : Int32 → tp_St → Prop} {nx : List Value → List Value → tp_St → Prop} {x : tp_Ins} {pc : Nat} {L st : List Value} {σ : tp_St}
    (cx : tp_Cx p R s m args c cells slots D cs ad A σ0 mid) (hok : tp_ok mid pc x = true) (h : tp_I mid K C post nx x pc L st σ)
    (hnx : ∀ L st σ, nx L st σ → tp_G p l e R s m args below meth c cells slots Q D cs ad A σ0 (tp_n mid) (pc + x.2.1) L st σ)
    (hK : ∀ t L st σ, K t L st σ → tp_G p l e R s m args below meth c cells slots Q D cs ad A σ0 (tp_n mid) t L st σ)
    (hC : ∀ a av σ p', a < tp_law → (tp_ent1 av).length ≤ tp_n a → C a av σ p' → tp_MO l D cs ad a av σ p')
    (hRi : ∀ pc v t σ' H locs ls, tp_ret mid = some t → decode (tp_cc mid) pc = .ok (.ireturn, 1) → narrow t (.int v) = .int v → post v σ' → tp_Wd D cs ad A s σ0 σ' H locs → W p l e R s m args below meth c H locs cells slots Q (F0 m pc ls [.int v]))
    (hRv : ∀ pc σ' H locs ls, tp_ret mid = none → decode (tp_cc mid) pc = .ok (.return_, 1) → post 0 σ' → tp_Wd D cs ad A s σ0 σ' H locs → W p l e R s m args below meth c H locs cells slots Q (F0 m pc ls []))
    (hRx : ∀ pc σ' H locs ls, mid = tp_law → pc < 1000000 → decode (tp_cc mid) pc = .ok (.newarray .int, 2) → post (Int32.ofNat pc) σ' → tp_Wd D cs ad A s σ0 σ' H locs → tp_lv ad ls (tp_n mid) (tp_exL pc) → W p l e R s m args below meth c H locs cells slots Q (F0 m pc ls [.int (Int32.ofNat (tp_ln σ'.2.1))])) :
    tp_G p l e R s m args below meth c cells slots Q D cs ad A σ0 (tp_n mid) pc L st σ := by
  obtain ⟨i, n, v, a, b, w⟩ := x
  obtain ⟨hx, hb, hml, hown, hts, hK0, hap, hA, hro, hrf, hrl, hcl, hsl⟩ := id cx
  simp only [tp_ok, Bool.and_eq_true, decide_eq_true_eq] at hok
  obtain ⟨hdg, hok⟩ := hok
  intro H locs ls hW hl
  obtain ⟨hP, hσ, hS⟩ := id hW
  have hap0 := hap
  rw [← hσ.2] at hap
  have hlt : ∀ q, tp_kd q < 25 → ¬ tp_kd q = 20 → q < σ.2.1 := fun q h1 h2 => Nat.lt_of_lt_of_le (tp_kd_58 h1 h2) hap.1.1
  have hon : ∀ q, tp_kd q = 20 → tp_on σ q → q < σ.2.1 := fun q h1 h2 => by
    rcases h2 with h2 | h2 | h2
    · exact Nat.lt_of_lt_of_le h2 hap.1.1
    · exact h2
    · subst h2
      exact absurd h1 (by decide +kernel)
  cases i
  all_goals try exact False.elim h
  case iload_n k =>
    have hn : n = 1 := by simpa [tp_ok2] using hok
    subst hn
    obtain ⟨z, hz, h⟩ := tp_gi_e (L := L) (k := k.val) h
    exact lv_iload_n hx hb hdg rfl (tp_lv_get hl hz rfl) (hnx _ _ _ h H locs ls hW hl)
  case iload k =>
    have hn : n = 2 := by simpa [tp_ok2] using hok
    subst hn
    obtain ⟨z, hz, h⟩ := tp_gi_e (L := L) (k := k) h
    exact lv_iload hx hb hdg (tp_lv_get hl hz rfl) (hnx _ _ _ h H locs ls hW hl)
  case lload_n k =>
    have hn : n = 1 := by simpa [tp_ok2] using hok
    subst hn
    obtain ⟨z, hz, h⟩ := tp_gl_e (L := L) (k := k.val) h
    exact lv_lload_n hx hb hdg rfl (tp_lv_get hl hz rfl) (hnx _ _ _ h H locs ls hW hl)
  case lload k =>
    have hn : n = 2 := by simpa [tp_ok2] using hok
    subst hn
    obtain ⟨z, hz, h⟩ := tp_gl_e (L := L) (k := k) h
    exact lv_lload hx hb hdg (tp_lv_get hl hz rfl) (hnx _ _ _ h H locs ls hW hl)
  case aload_n k =>
    have hn : n = 1 := by simpa [tp_ok2] using hok
    subst hn
    obtain ⟨z, hz, h⟩ := tp_gr_e (L := L) (k := k.val) h
    exact lv_aload_n hx hb hdg rfl (tp_lv_get hl hz rfl) (hnx _ _ _ h H locs ls hW hl)
  case aload k =>
    have hn : n = 2 := by simpa [tp_ok2] using hok
    subst hn
    obtain ⟨z, hz, h⟩ := tp_gr_e (L := L) (k := k) h
    exact lv_aload hx hb hdg (tp_lv_get hl hz rfl) (hnx _ _ _ h H locs ls hW hl)
  case iconst k =>
    simp only [tp_ok2, Bool.and_eq_true, beq_iff_eq, decide_eq_true_eq] at hok
    obtain ⟨hn, hok⟩ := hok
    subst hn
    exact lv_iconst hx hb hdg hok (hnx _ _ _ h H locs ls hW hl)
  case bipush k =>
    simp only [tp_ok2, Bool.and_eq_true, beq_iff_eq, decide_eq_true_eq] at hok
    obtain ⟨hn, hok⟩ := hok
    subst hn
    exact lv_bipush hx hb hdg hok (hnx _ _ _ h H locs ls hW hl)
  case sipush k =>
    simp only [tp_ok2, Bool.and_eq_true, beq_iff_eq, decide_eq_true_eq] at hok
    obtain ⟨hn, hok⟩ := hok
    subst hn
    exact lv_sipush hx hb hdg hok (hnx _ _ _ h H locs ls hW hl)
  case lconst k =>
    have hn : n = 1 := by simpa [tp_ok2] using hok
    subst hn
    exact lv_lconst hx hb hdg rfl (hnx _ _ _ h H locs ls hW hl)
  case ldc2_w k =>
    simp only [tp_ok2, Bool.and_eq_true, beq_iff_eq, decide_eq_true_eq] at hok
    obtain ⟨hn, hok⟩ := hok
    subst hn
    exact lv_ldc2 hx hb hown (hts _ (tp_gt_in hok)) hdg (hnx _ _ _ h H locs ls hW hl)
  case ldc k =>
    simp only [tp_ok2, Bool.and_eq_true, beq_iff_eq] at hok
    obtain ⟨hn, hok⟩ := hok
    subst hn
    exact lv_ldc hx hb hown (hts _ (tp_gt_in hok)) hdg (hnx _ _ _ h H locs ls hW hl)
  case istore_n k =>
    have hn : n = 1 := by simpa [tp_ok2] using hok
    subst hn
    obtain ⟨z, r, rfl, h⟩ := tp_i1_e (st := st) h
    obtain ⟨h1, h⟩ := tp_chk_e h
    exact lv_istore_n hx hb hdg rfl hl.1 (by have := tp_ok1_lt h1; have := hl.2; omega) rfl (fun ls' hl' => hnx _ _ _ h H locs ls' hW (tp_lv_set1 (v := .int z) hl h1 hl'))
  case istore k =>
    have hn : n = 2 := by simpa [tp_ok2] using hok
    subst hn
    obtain ⟨z, r, rfl, h⟩ := tp_i1_e (st := st) h
    obtain ⟨h1, h⟩ := tp_chk_e h
    exact lv_istore hx hb hdg hl.1 (by have := tp_ok1_lt h1; have := hl.2; omega) rfl (fun ls' hl' => hnx _ _ _ h H locs ls' hW (tp_lv_set1 (v := .int z) hl h1 hl'))
  case astore_n k =>
    have hn : n = 1 := by simpa [tp_ok2] using hok
    subst hn
    obtain ⟨z, r, rfl, h⟩ := tp_r1_e (st := st) h
    obtain ⟨h1, h⟩ := tp_chk_e h
    exact lv_astore_n hx hb hdg rfl hl.1 (by have := tp_ok1_lt h1; have := hl.2; omega) rfl (fun ls' hl' => hnx _ _ _ h H locs ls' hW (tp_lv_set1 (v := .ref z) hl h1 hl'))
  case astore k =>
    have hn : n = 2 := by simpa [tp_ok2] using hok
    subst hn
    obtain ⟨z, r, rfl, h⟩ := tp_r1_e (st := st) h
    obtain ⟨h1, h⟩ := tp_chk_e h
    exact lv_astore hx hb hdg hl.1 (by have := tp_ok1_lt h1; have := hl.2; omega) rfl (fun ls' hl' => hnx _ _ _ h H locs ls' hW (tp_lv_set1 (v := .ref z) hl h1 hl'))
  case lstore k =>
    have hn : n = 2 := by simpa [tp_ok2] using hok
    subst hn
    obtain ⟨z, r, rfl, h⟩ := tp_l1_e (st := st) h
    obtain ⟨h1, h⟩ := tp_chk_e h
    simp only [Bool.and_eq_true, decide_eq_true_eq] at h1
    exact lv_lstore hx hb hdg hl.1 (by have := h1.2; have := hl.2; omega) rfl (fun ls' hl' => hnx _ _ _ h H locs ls' hW (tp_lv_set2 hl h1.1 hl'))
  case iinc k q =>
    simp only [tp_ok2, Bool.and_eq_true, beq_iff_eq, decide_eq_true_eq] at hok
    obtain ⟨hn, hok⟩ := hok
    subst hn
    obtain ⟨z, hz, h⟩ := tp_gi_e (L := L) (k := k) h
    obtain ⟨h1, h⟩ := tp_chk_e h
    have hmem : (k, Value.int z) ∈ tp_al ad L := tp_al_mem.mpr ⟨.int z, hz, rfl, rfl⟩
    obtain ⟨j, hj⟩ := List.getElem?_of_mem hmem
    refine lv_iinc (v := z + v) hx hb hdg hl.1 hj (by rw [hok]) (by have := tp_ok1_lt h1; have := hl.2; omega) rfl (fun ls' hl' => hnx _ _ _ h H locs ls' hW (tp_lv_set1 (v := .int (z + v)) hl h1 hl'))
  case iadd =>
    have hn : n = 1 := by simpa [tp_ok2] using hok
    subst hn
    obtain ⟨z1, z2, r, rfl, h⟩ := tp_i2_e (st := st) h
    exact lv_iadd hx hb hdg (hnx _ _ _ h H locs ls hW hl)
  case isub =>
    have hn : n = 1 := by simpa [tp_ok2] using hok
    subst hn
    obtain ⟨z1, z2, r, rfl, h⟩ := tp_i2_e (st := st) h
    exact lv_isub hx hb hdg (hnx _ _ _ h H locs ls hW hl)
  case imul =>
    have hn : n = 1 := by simpa [tp_ok2] using hok
    subst hn
    obtain ⟨z1, z2, r, rfl, h⟩ := tp_i2_e (st := st) h
    exact lv_imul hx hb hdg (hnx _ _ _ h H locs ls hW hl)
  case iand =>
    have hn : n = 1 := by simpa [tp_ok2] using hok
    subst hn
    obtain ⟨z1, z2, r, rfl, h⟩ := tp_i2_e (st := st) h
    exact lv_iand hx hb hdg (hnx _ _ _ h H locs ls hW hl)
  case ior =>
    have hn : n = 1 := by simpa [tp_ok2] using hok
    subst hn
    obtain ⟨z1, z2, r, rfl, h⟩ := tp_i2_e (st := st) h
    exact lv_ior hx hb hdg (hnx _ _ _ h H locs ls hW hl)
  case ixor =>
    have hn : n = 1 := by simpa [tp_ok2] using hok
    subst hn
    obtain ⟨z1, z2, r, rfl, h⟩ := tp_i2_e (st := st) h
    exact lv_ixor hx hb hdg (hnx _ _ _ h H locs ls hW hl)
  case ishl =>
    have hn : n = 1 := by simpa [tp_ok2] using hok
    subst hn
    obtain ⟨z1, z2, r, rfl, h⟩ := tp_i2_e (st := st) h
    exact lv_ishl hx hb hdg (hnx _ _ _ h H locs ls hW hl)
  case ishr =>
    have hn : n = 1 := by simpa [tp_ok2] using hok
    subst hn
    obtain ⟨z1, z2, r, rfl, h⟩ := tp_i2_e (st := st) h
    exact lv_ishr hx hb hdg (hnx _ _ _ h H locs ls hW hl)
  case idiv =>
    have hn : n = 1 := by simpa [tp_ok2] using hok
    subst hn
    obtain ⟨z1, z2, r, rfl, h1, h⟩ := tp_i2_e (st := st) h
    exact lv_idiv hx hb hdg h1 (hnx _ _ _ h H locs ls hW hl)
  case irem =>
    have hn : n = 1 := by simpa [tp_ok2] using hok
    subst hn
    obtain ⟨z1, z2, r, rfl, h1, h⟩ := tp_i2_e (st := st) h
    exact lv_irem hx hb hdg h1 (hnx _ _ _ h H locs ls hW hl)
  case i2l =>
    have hn : n = 1 := by simpa [tp_ok2] using hok
    subst hn
    obtain ⟨z1, r, rfl, h⟩ := tp_i1_e (st := st) h
    exact lv_i2l hx hb hdg rfl (hnx _ _ _ h H locs ls hW hl)
  case i2b =>
    have hn : n = 1 := by simpa [tp_ok2] using hok
    subst hn
    obtain ⟨z1, r, rfl, h⟩ := tp_i1_e (st := st) h
    exact lv_i2b hx hb hdg rfl (hnx _ _ _ h H locs ls hW hl)
  case i2s =>
    have hn : n = 1 := by simpa [tp_ok2] using hok
    subst hn
    obtain ⟨z1, r, rfl, h⟩ := tp_i1_e (st := st) h
    exact lv_i2s hx hb hdg rfl (hnx _ _ _ h H locs ls hW hl)
  case i2c =>
    have hn : n = 1 := by simpa [tp_ok2] using hok
    subst hn
    obtain ⟨z1, r, rfl, h⟩ := tp_i1_e (st := st) h
    exact lv_i2c hx hb hdg rfl (hnx _ _ _ h H locs ls hW hl)
  case l2i =>
    have hn : n = 1 := by simpa [tp_ok2] using hok
    subst hn
    obtain ⟨z1, r, rfl, h⟩ := tp_l1_e (st := st) h
    exact lv_l2i hx hb hdg rfl (hnx _ _ _ h H locs ls hW hl)
  case ladd =>
    have hn : n = 1 := by simpa [tp_ok2] using hok
    subst hn
    obtain ⟨z1, z2, r, rfl, h⟩ := tp_l2_e (st := st) h
    exact lv_ladd hx hb hdg (hnx _ _ _ h H locs ls hW hl)
  case land =>
    have hn : n = 1 := by simpa [tp_ok2] using hok
    subst hn
    obtain ⟨z1, z2, r, rfl, h⟩ := tp_l2_e (st := st) h
    exact lv_land hx hb hdg (hnx _ _ _ h H locs ls hW hl)
  case lor =>
    have hn : n = 1 := by simpa [tp_ok2] using hok
    subst hn
    obtain ⟨z1, z2, r, rfl, h⟩ := tp_l2_e (st := st) h
    exact lv_lor hx hb hdg (hnx _ _ _ h H locs ls hW hl)
  case lcmp =>
    have hn : n = 1 := by simpa [tp_ok2] using hok
    subst hn
    obtain ⟨z1, z2, r, rfl, h⟩ := tp_l2_e (st := st) h
    exact W.lcmp hx hb hdg (hnx _ _ _ h H locs ls hW hl)
  case lshl =>
    have hn : n = 1 := by simpa [tp_ok2] using hok
    subst hn
    obtain ⟨z1, z2, r, rfl, h⟩ := tp_il_e (st := st) h
    exact lv_lshl hx hb hdg rfl (hnx _ _ _ h H locs ls hW hl)
  case lshr =>
    have hn : n = 1 := by simpa [tp_ok2] using hok
    subst hn
    obtain ⟨z1, z2, r, rfl, h⟩ := tp_il_e (st := st) h
    exact lv_lshr hx hb hdg rfl (hnx _ _ _ h H locs ls hW hl)
  case lushr =>
    have hn : n = 1 := by simpa [tp_ok2] using hok
    subst hn
    obtain ⟨z1, z2, r, rfl, h⟩ := tp_il_e (st := st) h
    exact lv_lushr hx hb hdg rfl (hnx _ _ _ h H locs ls hW hl)
  case dup =>
    have hn : n = 1 := by simpa [tp_ok2] using hok
    subst hn
    obtain ⟨z1, r, rfl, h1, h⟩ := tp_a1_e (st := st) h
    exact lv_dup hx hb hdg (tp_v_cat.trans h1) (hnx _ _ _ h H locs ls hW hl)
  case pop =>
    have hn : n = 1 := by simpa [tp_ok2] using hok
    subst hn
    obtain ⟨z1, r, rfl, h1, h⟩ := tp_a1_e (st := st) h
    exact lv_pop hx hb hdg (tp_v_cat.trans h1) (hnx _ _ _ h H locs ls hW hl)
  case dup_x1 =>
    have hn : n = 1 := by simpa [tp_ok2] using hok
    subst hn
    obtain ⟨z1, z2, r, rfl, h1, h2, h⟩ := tp_a2_e (st := st) h
    exact lv_dup_x1 hx hb hdg (tp_v_cat.trans h1) (tp_v_cat.trans h2) (hnx _ _ _ h H locs ls hW hl)
  case dup2 =>
    have hn : n = 1 := by simpa [tp_ok2] using hok
    subst hn
    obtain ⟨z1, z2, r, rfl, h1, h2, h⟩ := tp_a2_e (st := st) h
    exact lv_dup2_11 hx hb hdg (tp_v_cat.trans h1) (tp_v_cat.trans h2) (hnx _ _ _ h H locs ls hW hl)
  case dup_x2 =>
    have hn : n = 1 := by simpa [tp_ok2] using hok
    subst hn
    obtain ⟨z1, z2, z3, r, rfl, h1, h2, h3, h⟩ := tp_a3_e (st := st) h
    exact lv_dup_x2 hx hb hdg (tp_v_cat.trans h1) (tp_v_cat.trans h2) (tp_v_cat.trans h3) (hnx _ _ _ h H locs ls hW hl)
  case ifCond cd off =>
    simp only [tp_ok2, Bool.and_eq_true, beq_iff_eq, decide_eq_true_eq] at hok
    obtain ⟨hn, hok⟩ := hok
    subst hn
    cases cd
    case eq =>
      obtain ⟨z1, r, rfl, h1, h2⟩ := tp_i1_e (st := st) h
      exact lv_if_eq hx hb hdg hok (fun q => hK _ _ _ _ (h1 q) H locs ls hW hl) (fun q => hnx _ _ _ (h2 q) H locs ls hW hl)
    case ne =>
      obtain ⟨z1, r, rfl, h1, h2⟩ := tp_i1_e (st := st) h
      exact lv_if_ne hx hb hdg hok (fun q => hK _ _ _ _ (h2 q) H locs ls hW hl) (fun q => hnx _ _ _ (h1 q) H locs ls hW hl)
    case lt =>
      obtain ⟨z1, r, rfl, h1, h2⟩ := tp_i1_e (st := st) h
      exact lv_if_lt hx hb hdg hok (fun q => hK _ _ _ _ (h1 q) H locs ls hW hl) (fun q => hnx _ _ _ (h2 q) H locs ls hW hl)
    case ge =>
      obtain ⟨z1, r, rfl, h1, h2⟩ := tp_i1_e (st := st) h
      exact lv_if_ge hx hb hdg hok (fun q => hK _ _ _ _ (h1 q) H locs ls hW hl) (fun q => hnx _ _ _ (h2 q) H locs ls hW hl)
    case gt =>
      obtain ⟨z1, r, rfl, h1, h2⟩ := tp_i1_e (st := st) h
      exact lv_if_gt hx hb hdg hok (fun q => hK _ _ _ _ (h1 q) H locs ls hW hl) (fun q => hnx _ _ _ (h2 q) H locs ls hW hl)
    case le =>
      obtain ⟨z1, r, rfl, h1, h2⟩ := tp_i1_e (st := st) h
      exact lv_if_le hx hb hdg hok (fun q => hK _ _ _ _ (h1 q) H locs ls hW hl) (fun q => hnx _ _ _ (h2 q) H locs ls hW hl)
  case if_icmp cd off =>
    simp only [tp_ok2, Bool.and_eq_true, beq_iff_eq, decide_eq_true_eq] at hok
    obtain ⟨hn, hok⟩ := hok
    subst hn
    cases cd
    case eq =>
      obtain ⟨z1, z2, r, rfl, h1, h2⟩ := tp_i2_e (st := st) h
      exact lv_icmp_eq hx hb hdg hok (fun q => hK _ _ _ _ (h1 q) H locs ls hW hl) (fun q => hnx _ _ _ (h2 q) H locs ls hW hl)
    case ne =>
      obtain ⟨z1, z2, r, rfl, h1, h2⟩ := tp_i2_e (st := st) h
      exact lv_icmp_ne hx hb hdg hok (fun q => hK _ _ _ _ (h2 q) H locs ls hW hl) (fun q => hnx _ _ _ (h1 q) H locs ls hW hl)
    case lt =>
      obtain ⟨z1, z2, r, rfl, h1, h2⟩ := tp_i2_e (st := st) h
      exact lv_icmp_lt hx hb hdg hok (fun q => hK _ _ _ _ (h1 q) H locs ls hW hl) (fun q => hnx _ _ _ (h2 q) H locs ls hW hl)
    case ge =>
      obtain ⟨z1, z2, r, rfl, h1, h2⟩ := tp_i2_e (st := st) h
      exact lv_icmp_ge hx hb hdg hok (fun q => hK _ _ _ _ (h1 q) H locs ls hW hl) (fun q => hnx _ _ _ (h2 q) H locs ls hW hl)
    case gt =>
      obtain ⟨z1, z2, r, rfl, h1, h2⟩ := tp_i2_e (st := st) h
      exact lv_icmp_gt hx hb hdg hok (fun q => hK _ _ _ _ (h1 q) H locs ls hW hl) (fun q => hnx _ _ _ (h2 q) H locs ls hW hl)
    case le =>
      obtain ⟨z1, z2, r, rfl, h1, h2⟩ := tp_i2_e (st := st) h
      exact lv_icmp_le hx hb hdg hok (fun q => hK _ _ _ _ (h1 q) H locs ls hW hl) (fun q => hnx _ _ _ (h2 q) H locs ls hW hl)
  case goto off =>
    simp only [tp_ok2, Bool.and_eq_true, beq_iff_eq, decide_eq_true_eq] at hok
    obtain ⟨hn, hok⟩ := hok
    subst hn
    exact lv_goto hx hb hdg hok (hK _ _ _ _ h H locs ls hW hl)
  case tableswitch d lo hi os =>
    simp only [tp_ok2, Bool.and_eq_true, List.all_eq_true, decide_eq_true_eq] at hok
    obtain ⟨h0, h1, h2, h3⟩ := hok
    obtain ⟨z, r, rfl, h4, h5⟩ := tp_i1_e (st := st) h
    by_cases hz : z.toInt < lo ∨ hi < z.toInt
    · exact lv_tableOut hx hb hdg hz (tgt := ((pc : Int) + d).toNat) (by omega) (hK _ _ _ _ (h4 hz) H locs ls hW hl)
    · obtain ⟨off, g1, g2⟩ := tp_tl_in os.toList lo h5 (fun q => hz (Or.inl q)) (by rw [Array.length_toList]; omega)
      have g3 := h1 off (List.mem_of_getElem? g1)
      exact lv_tableIn hx hb hdg (fun q => hz (Or.inl q)) (fun q => hz (Or.inr q)) (off := off) (tgt := ((pc : Int) + off).toNat) (by rw [← Array.getElem?_toList]; exact g1) (by omega) (hK _ _ _ _ g2 H locs ls hW hl)
  case lookupswitch d ps =>
    simp only [tp_ok2, Bool.and_eq_true, List.all_eq_true (l := ps.toList), decide_eq_true_eq] at hok
    obtain ⟨h0, h1, h2⟩ := hok
    obtain ⟨z, r, rfl, h4⟩ := tp_i1_e (st := st) h
    obtain ⟨off, g1, g2, g3⟩ := tp_lk_in ps.toList h4
    have g4 : 0 ≤ (pc : Int) + off := by
      rcases g2 with g2 | ⟨q, g2, g5⟩
      · rw [g2]; exact h0
      · rw [g5]; exact h1 q g2
    exact lv_lookup hx hb hdg h2 g1 (tgt := ((pc : Int) + off).toNat) (by omega) (hK _ _ _ _ g3 H locs ls hW hl)
  case getfield k =>
    simp only [tp_ok2, Bool.and_eq_true, beq_iff_eq] at hok
    obtain ⟨hn, hok⟩ := hok
    subst hn
    obtain ⟨q, r, rfl, h⟩ := tp_r1_e (st := st) h
    obtain ⟨h1, h⟩ := tp_chk_e h
    simp only [Bool.and_eq_true, beq_iff_eq, decide_eq_true_eq] at h1
    obtain ⟨h1, ha20⟩ := h1
    have h1 : tp_kd q = a := h1
    have h : (match tp_isR a b with
          | false => nx L (.int (σ.1 q b) :: r) σ
          | true => nx L (.ref (tp_rr σ q b) :: r) σ) := h
    cases hc : vwCl[a]? with
    | none => rw [hc] at hok; cases hok
    | some t =>
      obtain ⟨Cn, T, N⟩ := t
      rw [hc] at hok
      simp only [Bool.and_eq_true, decide_eq_true_eq] at hok
      obtain ⟨f1, ⟨ty0, f2⟩, f3, f4⟩ := tp_clf a Cn T N hc
      have ha11 : a < 20 := by have := (List.getElem?_eq_some_iff.mp hc).1; rw [tp_vwcl] at this; omega
      have hcell := tp_cell_cls (cs := cs) (ad := ad) (σ := σ) (o := q) (by omega)
      rw [h1] at hcell
      refine va_get hx hb hts f1 hown hK0 hP q (by rw [tp_ws_at (hlt q (by omega) (by omega)), hcell]) hc b hok.1 (hts _ (tp_gt_in hok.2)) (fun _ z => z) (v := tp_fv ad σ q b) (tp_fs_at (by rw [h1, ← f4]; exact hok.1)) hdg ?_
      unfold tp_fv
      rw [h1]
      cases hr : tp_isR a b with
      | false =>
        rw [hr] at h
        exact hnx _ _ _ h H locs ls hW hl
      | true =>
        rw [hr] at h
        exact hnx _ _ _ h H locs ls hW hl
  case putfield k =>
    simp only [tp_ok2, Bool.and_eq_true, beq_iff_eq] at hok
    obtain ⟨hn, hok⟩ := hok
    subst hn
    cases hc : vwCl[a]? with
    | none => rw [hc] at hok; cases hok
    | some t =>
      obtain ⟨Cn, T, N⟩ := t
      rw [hc] at hok
      simp only [Bool.and_eq_true, decide_eq_true_eq] at hok
      obtain ⟨k1, k2, k3, k4⟩ := hok
      obtain ⟨f1, ⟨ty0, f2⟩, f3, f4⟩ := tp_clf a Cn T N hc
      have ha11 : a < 20 := by have := (List.getElem?_eq_some_iff.mp hc).1; rw [tp_vwcl] at this; omega
      cases hr : tp_isR a b with
      | false =>
        rw [hr] at k4
        simp only [tp_I, hr] at h
        obtain ⟨q, z, r, rfl, h⟩ := tp_ri_e (st := st) h
        obtain ⟨h1, h⟩ := tp_chk_e h
        have h1 : tp_kd q = a := by simpa using h1
        have hq82 : q < 82 := tp_kd_lt (by omega)
        have hqN : q < σ.2.1 := hlt q (by omega) (by omega)
        have hcell := tp_cell_cls (cs := cs) (ad := ad) (σ := σ) (o := q) (by omega)
        rw [h1] at hcell
        refine va_put (D := D) (v := .int z) (ty := .int) hx hb hts f1 ty0 f2 f3 hown hK0 hP (tp_ap_D hap) hS q (by rw [tp_ws_at hqN, hcell]) hc b k1 (hts _ (tp_gt_in k2)) (fun _ z => z) k3 k4 rfl rfl (by rw [tp_fs_len, h1, ← f4]; exact k1) hdg (fun H1 locs1 hP1 hD1 hS1 => ?_)
        refine hnx _ _ _ h H1 locs1 ls ⟨?_, hσ.set hq82, hS1⟩ hl
        rw [tp_ws_set (σ' := tp_set σ q b z) hqN rfl ?_ (fun o' ho' => tp_cell_ne ho')] at hP1
        · exact hP1
        · rw [tp_cell_cls (by omega), h1, tp_fs_set (by rw [h1]; exact hr)]
      | true =>
        simp only [tp_I, hr] at h
  case iaload =>
    have hn : n = 1 := by simpa [tp_ok2] using hok
    subst hn
    obtain ⟨q, j, r, rfl, h⟩ := tp_ri_e (st := st) h
    obtain ⟨h1, hqo, h2, h⟩ := tp_chk_e h
    simp only [Bool.or_eq_true, beq_iff_eq] at h1
    rcases h1 with h1 | h1
    · have h2 : vp_in j (tp_ln q) := by simpa [tp_len, h1] using h2
      exact va_iald hx hb hK0 hP q 0 (by rw [tp_ws_at (hon q h1 hqo), tp_cell_20 h1]) rfl h2 hdg (hnx _ _ _ h H locs ls hW hl)
    · have hq := tp_kd_26 h1
      subst hq
      have h2 : vp_in j (σ0.1 89 0).toNatClampNeg := by
        rw [← hσ.1 89 (by decide)]
        simpa [tp_len, h1] using h2
      refine va_ti hx hb hro hS h2 (v := .int (σ.1 90 j.toNatClampNeg)) (by rw [hσ.1 90 (by decide)]) hdg (hnx _ _ _ h H locs ls hW hl)
  case newarray t =>
    simp only [tp_ok2, Bool.and_eq_true, beq_iff_eq] at hok
    obtain ⟨hn, hok⟩ := hok
    subst hn
    obtain ⟨z, r, rfl, h⟩ := tp_i1_e (st := st) h
    obtain ⟨h1, h2, h3, h4⟩ := tp_chk_e h
    simp only [Bool.and_eq_true, beq_iff_eq, decide_eq_true_eq] at h1
    cases r with
    | cons y r => exact absurd h1.2.1 (by simp)
    | nil =>
      subst h2
      cases t <;> first
        | exact hRx pc σ H locs ls h1.1 h1.2.2 hdg h4 hW (tp_lv_wk h3 hl)
        | exact absurd hok (by decide)
  case baload =>
    have hn : n = 1 := by simpa [tp_ok2] using hok
    subst hn
    obtain ⟨q, j, r, rfl, h⟩ := tp_ri_e (st := st) h
    obtain ⟨h1, h2, h⟩ := tp_chk_e h
    simp only [Bool.or_eq_true, beq_iff_eq] at h1
    rcases h1 with h1 | h1
    · exact va_bald hx hb hK0 hP q 1 (by rw [tp_ws_at (hlt q (by omega) (by omega)), tp_cell_21 h1]) rfl h2 hdg (hnx _ _ _ h H locs ls hW hl)
    · exact va_zald hx hb hK0 hP q 2 (by rw [tp_ws_at (hlt q (by omega) (by omega)), tp_cell_22 h1]) rfl h2 hdg (hnx _ _ _ h H locs ls hW hl)
  case aaload =>
    have hn : n = 1 := by simpa [tp_ok2] using hok
    subst hn
    obtain ⟨q, j, r, rfl, h⟩ := tp_ri_e (st := st) h
    have h : (match tp_kd q with
      | 23 => vp_in j 4 ∧ tp_four j (fun t => nx L (.ref t :: r) σ)
      | _ => tp_chk (tp_kd q == 24) (vp_in j (tp_ln q) ∧ nx L (.ref (tp_rr σ q j.toNatClampNeg) :: r) σ)) := h
    by_cases h1 : tp_kd q = 23
    · rw [h1] at h
      obtain ⟨h2, h3⟩ : vp_in j 4 ∧ tp_four j (fun t => nx L (.ref t :: r) σ) := h
      have hq : q = 5 := (by decide +kernel : ∀ q, q < 82 → tp_kd q = 23 → q = 5) q (tp_kd_lt (by omega)) h1
      subst hq
      refine tp_alda hx hb hK0 hP 5 3 (by rw [tp_ws_at (hlt 5 (by rw [h1]; decide) (by rw [h1]; decide)), tp_cell_23 h1]; rfl) rfl rfl h2 hdg ?_
      obtain ⟨i, hi, rfl⟩ := vp_in_of h2 (by decide)
      rcases (show i = 0 ∨ i = 1 ∨ i = 2 ∨ i = 3 by omega) with rfl | rfl | rfl | rfl
      · exact hnx _ _ _ (h3.1 rfl) H locs ls hW hl
      · exact hnx _ _ _ (h3.2.1 rfl) H locs ls hW hl
      · exact hnx _ _ _ (h3.2.2.1 rfl) H locs ls hW hl
      · exact hnx _ _ _ (h3.2.2.2 rfl) H locs ls hW hl
    · have h : tp_chk (tp_kd q == 24) (vp_in j (tp_ln q) ∧ nx L (.ref (tp_rr σ q j.toNatClampNeg) :: r) σ) := by
        revert h
        split
        · exact absurd ‹_› h1
        · exact id
      obtain ⟨h1, h2, h⟩ := tp_chk_e h
      have h1 : tp_kd q = 24 := by simpa using h1
      exact tp_alda (f := fun j => some (ad (tp_rr σ q j))) hx hb hK0 hP q 4 (by rw [tp_ws_at (hlt q (by omega) (by omega)), tp_cell_24 h1]) rfl rfl h2 hdg (hnx _ _ _ h H locs ls hW hl)
  case iastore =>
    have hn : n = 1 := by simpa [tp_ok2] using hok
    subst hn
    obtain ⟨q, j, z, r, rfl, h⟩ := tp_rii_e (st := st) h
    obtain ⟨h1, hqo, h2, h⟩ := tp_chk_e h
    have h1 : tp_kd q = 20 := by simpa using h1
    have hq82 : q < 82 := tp_kd_lt (by omega)
    have hqN := hon q h1 hqo
    refine va_iast hx hb hK0 hP (tp_ap_D hap) hS q 0 (by rw [tp_ws_at hqN, tp_cell_20 h1]) rfl h2 hdg (fun H1 locs1 hP1 hD1 hS1 => ?_)
    refine hnx _ _ _ h H1 locs1 ls ⟨?_, hσ.set hq82, hS1⟩ hl
    rw [tp_ws_set (σ' := tp_set σ q j.toNatClampNeg z) hqN rfl ?_ (fun o' ho' => tp_cell_ne ho')] at hP1
    · exact hP1
    · rw [tp_cell_20 h1]
      show _ = Sum.inl (_, _, Sum.inl (tp_up _ _ _ _ _))
      rw [tp_up_self]
  case bastore =>
    have hn : n = 1 := by simpa [tp_ok2] using hok
    subst hn
    obtain ⟨q, j, z, r, rfl, h⟩ := tp_rii_e (st := st) h
    obtain ⟨h1, h2, h⟩ := tp_chk_e h
    simp only [Bool.or_eq_true, beq_iff_eq] at h1
    have hq82 : q < 82 := tp_kd_lt (by omega)
    have hqN : q < σ.2.1 := hlt q (by omega) (by omega)
    rcases h1 with h1 | h1
    · refine va_bast hx hb hK0 hP (tp_ap_D hap) hS q 1 (by rw [tp_ws_at hqN, tp_cell_21 h1]) rfl h2 hdg (fun H1 locs1 hP1 hD1 hS1 => ?_)
      refine hnx _ _ _ h H1 locs1 ls ⟨?_, hσ.set hq82, hS1⟩ hl
      rw [tp_ws_set (σ' := tp_set σ q j.toNatClampNeg (vp_nar (tp_bt (tp_kd q)) z)) hqN rfl ?_ (fun o' ho' => tp_cell_ne ho')] at hP1
      · exact hP1
      · rw [tp_cell_21 h1]
        show _ = Sum.inl (_, _, Sum.inl (tp_up _ _ _ _ _))
        rw [tp_up_self, h1]
        rfl
    · refine va_zast hx hb hK0 hP (tp_ap_D hap) hS q 2 (by rw [tp_ws_at hqN, tp_cell_22 h1]) rfl h2 hdg (fun H1 locs1 hP1 hD1 hS1 => ?_)
      refine hnx _ _ _ h H1 locs1 ls ⟨?_, hσ.set hq82, hS1⟩ hl
      rw [tp_ws_set (σ' := tp_set σ q j.toNatClampNeg (vp_nar (tp_bt (tp_kd q)) z)) hqN rfl ?_ (fun o' ho' => tp_cell_ne ho')] at hP1
      · exact hP1
      · rw [tp_cell_22 h1]
        show _ = Sum.inl (_, _, Sum.inl (tp_up _ _ _ _ _))
        rw [tp_up_self, h1]
        rfl
  case arraylength =>
    have hn : n = 1 := by simpa [tp_ok2] using hok
    subst hn
    obtain ⟨q, r, rfl, h⟩ := tp_r1_e (st := st) h
    obtain ⟨h1, h⟩ := tp_chk_e h
    simp only [beq_iff_eq] at h1
    have hq := tp_kd_26 h1
    subst hq
    refine va_tlen hx hb hro hS ?_ hdg (hnx _ _ _ h H locs ls hW hl)
    rw [← hσ.1 89 (by decide)]
    simp [tp_len, h1]
  case invokevirtual k =>
    simp only [tp_ok2, Bool.and_eq_true, beq_iff_eq, decide_eq_true_eq] at hok
    obtain ⟨hn, hok, hkind, hlink⟩ := hok
    subst hn
    simp only [tp_okc, Bool.and_eq_true, decide_eq_true_eq] at hok
    obtain ⟨haL, hroom1, hroom2⟩ := hok
    obtain ⟨h1, h⟩ := tp_chk_e h
    simp only [Bool.and_eq_true, decide_eq_true_eq] at h1
    obtain ⟨⟨hna, hlen, hsum, hent⟩, hrcv⟩ := h1
    have h : C a (st.take b).reverse σ (fun r σ' => nx L (tp_push a r (st.drop b)) σ') := h
    have hrcv : tp_rcv (st[b - 1]?) (tp_rk a) = true := hrcv
    obtain ⟨q, hq, hkq⟩ := tp_lens hrcv
    obtain ⟨m1, m2, m3, m4, m5, m6, m7, m8, m9⟩ := tp_okM_v haL hkind
    have hb1 : 0 < b := by rw [← hna]; exact m4
    have hst : st.take b = st.take (b - 1) ++ [.ref q] := by
      rw [show st.take b = st.take ((b - 1) + 1) by congr 1; omega, List.take_add_one, hq]
      rfl
    have hMO := hC a _ σ _ haL hent h H.size
    have hav : ((st.take b).reverse.map (tp_v ad)) = .ref (ad q) :: ((st.take (b - 1)).map (tp_v ad)).reverse := by
      rw [hst]
      simp [tp_v, List.map_reverse]
    rw [hav] at hMO
    have hrun := va_runV (e := e) (below := below) (meth := meth) (locs := locs) (cells := cells) (slots := slots) (rest := (st.drop b).map (tp_v ad)) (g := F0 m pc ls (st.map (tp_v ad))) (index := k) ⟨hx, hb, hml, hown, hts⟩ hMO
      (cwV (tp_na a - 1) hts (tp_goodV haL m1 m2 m5 (tp_gt_in hlink)) rfl rfl rfl ⟨rfl, m6.1, m6.2, m3⟩ ⟨Nat.le_trans hroom1 hrf, Nat.le_trans hroom2 hrl⟩)
      ⟨tp_blind, tp_recv cx hW haL hkind hkq, fun U hU hWm => ⟨rfl, tp_pre cx hW hU hWm⟩⟩
      rfl (by rw [List.length_reverse, List.length_map, List.length_take, hna]; omega) hl.1.1 (by
        show st.map (tp_v ad) = _
        rw [List.reverse_reverse]
        conv => lhs; rw [← List.take_append_drop b st, hst]
        simp [tp_v]) (lv_room (by rw [tp_v_cats]; exact hsum)) hdg ⟨hcl, hsl⟩
    exact tp_after hrun hap0 hA hW hl (fun r σ' hr => hnx _ _ _ hr)
  case invokestatic k =>
    simp only [tp_ok2, Bool.and_eq_true, beq_iff_eq] at hok
    obtain ⟨hn, hok⟩ := hok
    subst hn
    by_cases ha : a = 900
    · subst ha
      simp only [Bool.and_eq_true, decide_eq_true_eq] at hok
      obtain ⟨⟨r1, r2⟩, hlink⟩ := hok
      obtain ⟨z1, z2, r, rfl, h⟩ := tp_i2_e (st := st) h
      obtain ⟨h1, h⟩ := tp_chk_e h
      simp only [decide_eq_true_eq] at h1
      have mm := tp_mathmax
      simp only [Bool.and_eq_true] at mm
      exact va_mmax hx hb (hml.trans hl.1.1.symm) hown (hts _ (tp_gt_in hlink)) (hts _ (tp_gt_in mm.1)) (hts _ (tp_gt_in mm.2.1)) (hts _ (tp_gt_in mm.2.2)) (Nat.le_trans r1 hrf) (by
        have e : ((r.map (tp_v ad)).map fun v => v.category).sum = (r.map fun v => v.category).sum := tp_v_cats
        rw [e]
        omega) hcl hsl hdg (hnx _ _ _ h H locs ls hW hl)
    · by_cases ha2 : a = 901
      · subst ha2
        simp only [Bool.and_eq_true, decide_eq_true_eq] at hok
        obtain ⟨⟨r1, r2⟩, hlink⟩ := hok
        obtain ⟨z1, z2, r, rfl, h⟩ := tp_i2_e (st := st) h
        obtain ⟨h1, h⟩ := tp_chk_e h
        simp only [decide_eq_true_eq] at h1
        have mm := tp_mathmin
        simp only [Bool.and_eq_true] at mm
        exact va_mmin hx hb (hml.trans hl.1.1.symm) hown (hts _ (tp_gt_in hlink)) (hts _ (tp_gt_in mm.1)) (hts _ (tp_gt_in mm.2.1)) (hts _ (tp_gt_in mm.2.2)) (Nat.le_trans r1 hrf) (by
          have e : ((r.map (tp_v ad)).map fun v => v.category).sum = (r.map fun v => v.category).sum := tp_v_cats
          rw [e]
          omega) hcl hsl hdg (hnx _ _ _ h H locs ls hW hl)
      · have hok : (tp_okc mid a && (decide (tp_rk a = 50) && tp_wd (.methodLink (tp_cls mid) k (tp_y a)) w)) = true := by
          revert hok
          split
          · exact fun _ => absurd rfl ha
          · exact fun _ => absurd rfl ha2
          · exact id
        have h : tp_chk (decide (tp_na a = b ∧ b ≤ st.length ∧ ((st.drop b).map fun v => v.category).sum ≤ 8 ∧ (tp_ent1 (st.take b).reverse).length ≤ tp_n a)) (C a (st.take b).reverse σ (fun r σ' => nx L (tp_push a r (st.drop b)) σ')) := tp_is_e h ha ha2
        simp only [Bool.and_eq_true, decide_eq_true_eq, Bool.or_eq_true, tp_okc] at hok
        obtain ⟨⟨haL, hroom1, hroom2⟩, hkind, hlink⟩ := hok
        obtain ⟨h1, h⟩ := tp_chk_e h
        simp only [decide_eq_true_eq] at h1
        obtain ⟨hna, hlen, hsum, hent⟩ := h1
        obtain ⟨m1, m3, m5, m6⟩ := tp_okM_s haL hkind
        have hMO := hC a _ σ _ haL hent h H.size
        rw [List.map_reverse] at hMO
        have hn1 : ((st.take b).map (tp_v ad)).reverse.length = tp_na a := by rw [List.length_reverse, List.length_map, List.length_take, hna]; omega
        have hst : (F0 m pc ls (st.map (tp_v ad))).stack = ((st.take b).map (tp_v ad)).reverse.reverse ++ (st.drop b).map (tp_v ad) := by
          show st.map (tp_v ad) = _
          rw [List.reverse_reverse, ← List.map_append, List.take_append_drop]
        have hrun := va_runS (e := e) (below := below) (meth := meth) (locs := locs) (cells := cells) (slots := slots) (rest := (st.drop b).map (tp_v ad)) (g := F0 m pc ls (st.map (tp_v ad))) (index := k) ⟨hx, hb, hml, hown, hts⟩ hMO
            (va_cwS (tp_na a) hts (tp_goodS haL m1 m5 (tp_gt_in hlink)) rfl rfl rfl ⟨m6.1, m6.2, m3⟩ ⟨Nat.le_trans hroom1 hrf, Nat.le_trans hroom2 hrl⟩)
            ⟨tp_blind, fun U hU hWm => ⟨rfl, tp_pre cx hW hU hWm⟩⟩ rfl hn1 hl.1.1 hst (lv_room (by rw [tp_v_cats]; exact hsum)) hdg ⟨hcl, hsl⟩
        exact tp_after hrun hap0 hA hW hl (fun r σ' hr => hnx _ _ _ hr)
  case ireturn =>
    have hn : n = 1 := by simpa [tp_ok2] using hok
    subst hn
    simp only [tp_I] at h
    cases hret : tp_ret mid with
    | none => rw [hret] at h; exact h.elim
    | some t =>
      rw [hret] at h
      have h : tp_i1 st (fun v r => tp_chk r.isEmpty (narrow t (.int v) = .int v ∧ post v σ)) := h
      obtain ⟨z, r, rfl, hz⟩ := tp_i1_e h
      obtain ⟨h1, h2, h3⟩ := tp_chk_e hz
      cases r with
      | nil => exact hRi pc z t σ H locs ls hret hdg h2 h3 hW
      | cons y r => cases h1
  case return_ =>
    have hn : n = 1 := by simpa [tp_ok2] using hok
    subst hn
    simp only [tp_I] at h
    cases hret : tp_ret mid with
    | some t => rw [hret] at h; exact h.elim
    | none =>
      rw [hret] at h
      have h : tp_chk st.isEmpty (post 0 σ) := h
      obtain ⟨h1, h2⟩ := tp_chk_e h
      cases st with
      | nil => exact hRv pc σ H locs ls hret hdg h2 hW
      | cons y r => cases h1
end TPI
