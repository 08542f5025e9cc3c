theorem tp_okLaw : ∀ k : Nat, ((tp_prg 43)[k]?).all (fun q => tp_okL 43 q.1 q.2) = true
  | 0 => tp_okq0
  | 1 => tp_okq1
  | 2 => tp_okq2
  | 3 => tp_okq3
  | 4 => tp_okq4
  | 5 => tp_okq5
  | 6 => tp_okq6
  | 7 => tp_okq7
  | 8 => tp_okq8
  | 9 => tp_okq9
  | 10 => tp_okq10
  | 11 => tp_okq11
  | 12 => tp_okq12
  | 13 => tp_okq13
  | 14 => tp_okq14
  | 15 => tp_okq15
  | 16 => tp_okq16
  | 17 => tp_okq17
  | 18 => tp_okq18
  | 19 => tp_okq19
  | 20 => tp_okq20
  | 21 => tp_okq21
  | 22 => tp_okq22
  | 23 => tp_okq23
  | 24 => tp_okq24
  | 25 => tp_okq25
  | 26 => tp_okq26
  | 27 => tp_okq27
  | 28 => tp_okq28
  | 29 => tp_okq29
  | 30 => tp_okq30
  | 31 => tp_okq31
  | 32 => tp_okq32
  | 33 => tp_okq33
  | 34 => tp_okq34
  | 35 => tp_okq35
  | 36 => tp_okq36
  | 37 => tp_okq37
  | 38 => tp_okq38
  | 39 => tp_okq39
  | 40 => tp_okq40
  | 41 => tp_okq41
  | 42 => tp_okq42
  | 43 => tp_okq43
  | 44 => tp_okq44
  | 45 => tp_okq45
  | 46 => tp_okq46
  | 47 => tp_okq47
  | 48 => tp_okq48
  | 49 => tp_okq49
  | 50 => tp_okq50
  | 51 => tp_okq51
  | 52 => tp_okq52
  | 53 => tp_okq53
  | 54 => tp_okq54
  | 55 => tp_okq55
  | 56 => tp_okq56
  | 57 => tp_okq57
  | 58 => tp_okq58
  | 59 => tp_okq59
  | 60 => tp_okq60
  | 61 => tp_okq61
  | 62 => tp_okq62
  | 63 => tp_okq63
  | 64 => tp_okq64
  | 65 => tp_okq65
  | 66 => tp_okq66
  | 67 => tp_okq67
  | 68 => tp_okq68
  | 69 => tp_okq69
  | 70 => tp_okq70
  | 71 => tp_okq71
  | 72 => tp_okq72
  | 73 => tp_okq73
  | 74 => tp_okq74
  | 75 => tp_okq75
  | k + 76 => by
    rw [List.getElem?_eq_none (by show 76 ≤ k + 76; omega)]
    rfl
theorem tp_all_of {α : Type} {f : α → Bool} {l : List α} (h : ∀ k : Nat, (l[k]?).all f = true) : l.all f = true := by
  rw [List.all_eq_true]
  intro x hx
  obtain ⟨k, hk⟩ := List.getElem?_of_mem hx
  have := h k
  rw [hk] at this
  exact this
theorem tp_okAll : ∀ mid : Nat, (tp_prg mid).all (fun q => tp_okL mid q.1 q.2) = true
  | 0 => tp_okp0
  | 1 => tp_okp1
  | 2 => tp_okp2
  | 3 => tp_okp3
  | 4 => tp_okp4
  | 5 => tp_okp5
  | 6 => tp_okp6
  | 7 => tp_okp7
  | 8 => tp_okp8
  | 9 => tp_okp9
  | 10 => tp_okp10
  | 11 => tp_okp11
  | 12 => tp_okp12
  | 13 => tp_okp13
  | 14 => tp_okp14
  | 15 => tp_okp15
  | 16 => tp_okp16
  | 17 => tp_okp17
  | 18 => tp_okp18
  | 19 => tp_okp19
  | 20 => tp_okp20
  | 21 => tp_okp21
  | 22 => tp_okp22
  | 23 => tp_okp23
  | 24 => tp_okp24
  | 25 => tp_okp25
  | 26 => tp_okp26
  | 27 => tp_okp27
  | 28 => tp_okp28
  | 29 => tp_okp29
  | 30 => tp_okp30
  | 31 => tp_okp31
  | 32 => tp_okp32
  | 33 => tp_okp33
  | 34 => tp_okp34
  | 35 => tp_okp35
  | 36 => tp_okp36
  | 37 => tp_okp37
  | 38 => tp_okp38
  | 39 => tp_okp39
  | 40 => tp_okp40
  | 41 => tp_okp41
  | 42 => tp_okp42
  | 43 => tp_all_of tp_okLaw
  | k + 44 => by
    rw [show tp_prg (k + 44) = [] by unfold tp_prg; rw [List.getD_eq_getElem?_getD, List.getElem?_eq_none (by show 44 ≤ k + 44; omega)]; rfl]
    rfl
theorem tp_lookup {β : Type} {k : Nat} {b : β} : ∀ {l : List (Nat × β)}, l.lookup k = some b → (k, b) ∈ l
  | [], h => by cases h
  | q :: l, h => by
    obtain ⟨a, c⟩ := q
    rw [List.lookup_cons] at h
    by_cases e : k == a
    · rw [e] at h
      cases h
      rw [beq_iff_eq] at e
      rw [e]
      exact List.mem_cons_self
    · rw [Bool.not_eq_true] at e
      rw [e] at h
      exact List.mem_cons_of_mem _ (tp_lookup h)
theorem tp_okB (mid pc : Nat) : tp_okL mid pc (tp_blk mid pc) = true := by
  unfold tp_blk
  cases h : (tp_prg mid).lookup pc with
  | none => rfl
  | some b => exact List.all_eq_true.mp (tp_okAll mid) _ (tp_lookup h)
section TPC
variable {p : Program} {l : Launch} {e : Env} {R : Room} {s : State} {m : MethodId} {args : Array Value} {below : List Frame} {meth : Method} {c : Code} {cells slots : Nat} {Q : State → Prop}
variable {D : va_G} {cs : tp_CS} {ad : Nat → Nat} {A : Nat → Prop} {σ0 : tp_St} {mid : Nat}
theorem tp_snB {K : tp_KT} {C : tp_CT} {post : Int32 → tp_St → Prop}
    (cx : tp_Cx p R s m args c cells slots D cs ad A σ0 mid)
    (hK : ∀ t L st σ, K t L st σ → tp_G p l e R s m args below meth c cells slots Q D cs ad A σ0 (tp_n mid) t L st σ)
    (hC : ∀ a av σ p', a < tp_law → (tp_ent1 av).length ≤ tp_n a → C a av σ p' → tp_MO l D cs ad a av σ p')
    (hRi : ∀ pc v t σ' H locs ls, tp_ret mid = some t → decode (tp_cc mid) pc = .ok (.ireturn, 1) → narrow t (.int v) = .int v → post v σ' → tp_Wd D cs ad A s σ0 σ' H locs → W p l e R s m args below meth c H locs cells slots Q (F0 m pc ls [.int v]))
    (hRv : ∀ pc σ' H locs ls, tp_ret mid = none → decode (tp_cc mid) pc = .ok (.return_, 1) → post 0 σ' → tp_Wd D cs ad A s σ0 σ' H locs → W p l e R s m args below meth c H locs cells slots Q (F0 m pc ls []))
    (hRx : ∀ pc σ' H locs ls, mid = tp_law → pc < 1000000 → decode (tp_cc mid) pc = .ok (.newarray .int, 2) → post (Int32.ofNat pc) σ' → tp_Wd D cs ad A s σ0 σ' H locs → tp_lv ad ls (tp_n mid) (tp_exL pc) → W p l e R s m args below meth c H locs cells slots Q (F0 m pc ls [.int (Int32.ofNat (tp_ln σ'.2.1))])) :
    ∀ (is : List tp_Ins) (pc : Nat) (L st : List Value) (σ : tp_St), tp_okL mid pc is = true → tp_B mid K C post is pc L st σ → tp_G p l e R s m args below meth c cells slots Q D cs ad A σ0 (tp_n mid) pc L st σ
  | [], _, _, _, _, _, h => hK _ _ _ _ h
  | x :: is, pc, L, st, σ, hok, h => by
    simp only [tp_okL, Bool.and_eq_true] at hok
    exact tp_snI cx hok.1 h (fun L st σ q => tp_snB cx hK hC hRi hRv hRx is _ L st σ hok.2 q) hK hC hRi hRv hRx
theorem tp_ent_len : ∀ av : List Value, (lg_sl (av.map (tp_v ad))).length = (tp_ent1 av).length
  | [] => rfl
  | v :: r => by
    have ih := tp_ent_len r
    rw [List.map_cons]
    unfold tp_ent1
    unfold lg_sl at ih ⊢
    rw [List.flatMap_cons, List.length_append, ih, tp_v_cat]
    by_cases h : v.category = 2
    · rw [if_pos h, if_pos h]
      simp
      omega
    · rw [if_neg h, if_neg h]
      simp
      omega
theorem tp_ent_mem : ∀ (av : List Value) (k i j : Nat) (v : Value), (tp_ent1 av ++ List.replicate k .null)[j]? = some v → tp_nn v = true → (i + j, tp_v ad v) ∈ lv_args i (av.map (tp_v ad))
  | [], k, i, j, v, h, hn => by
    have : v = .null := by
      have h2 := List.mem_of_getElem? h
      rw [show tp_ent1 [] ++ List.replicate k Value.null = List.replicate k Value.null from rfl] at h2
      exact List.eq_of_mem_replicate h2
    subst this
    cases hn
  | u :: r, k, i, j, v, h, hn => by
    have hd : tp_ent1 (u :: r) = if u.category = 2 then u :: .null :: tp_ent1 r else u :: tp_ent1 r := rfl
    have hd2 : lv_args i ((u :: r).map (tp_v ad)) = (i, tp_v ad u) :: lv_args (if u.category = 2 then i + 2 else i + 1) (r.map (tp_v ad)) := by
      show (i, tp_v ad u) :: lv_args (if (tp_v ad u).category = 2 then i + 2 else i + 1) (r.map (tp_v ad)) = _
      rw [tp_v_cat]
    rw [hd2]
    rw [hd] at h
    by_cases hc : u.category = 2
    · rw [if_pos hc] at h ⊢
      match j, h with
      | 0, h =>
        cases h
        exact List.mem_cons_self
      | 1, h =>
        cases h
        cases hn
      | j + 2, h =>
        have := tp_ent_mem r k (i + 2) j v h hn
        rw [show i + (j + 2) = i + 2 + j by omega]
        exact List.mem_cons_of_mem _ this
    · rw [if_neg hc] at h ⊢
      match j, h with
      | 0, h =>
        cases h
        exact List.mem_cons_self
      | j + 1, h =>
        have := tp_ent_mem r k (i + 1) j v h hn
        rw [show i + (j + 1) = i + 1 + j by omega]
        exact List.mem_cons_of_mem _ this
theorem tp_lv_entry {a : Nat} {av : List Value} (h : (tp_ent1 av).length ≤ tp_n a) : tp_lv ad ((lg_sl (av.map (tp_v ad)) ++ List.replicate (tp_n a - (lg_sl (av.map (tp_v ad))).length) Slot.unset).toArray) (tp_n a) (tp_ent a av) := by
  have h1 := lv_entry (av.map (tp_v ad)) (n := tp_n a) (by rw [tp_ent_len]; exact h)
  refine ⟨⟨h1.1, h1.2.1, fun q hq => ?_⟩, ?_⟩
  · obtain ⟨v, h2, h3, h4⟩ := tp_al_mem.mp hq
    have := tp_ent_mem (ad := ad) av _ 0 q.1 v h2 h3
    rw [Nat.zero_add, ← h4] at this
    exact h1.2.2 q this
  · unfold tp_ent
    rw [List.length_append, List.length_replicate]
    omega
end TPC
/-- what the machine does from here, for whoever called -/
def tp_X (l : Launch) (D : va_G) (cs : tp_CS) (ad : Nat → Nat) : tp_XT := fun mid pc L st σ post =>
  ∀ (p : Program) (e : Env) (R : Room) (s : State) (m : MethodId) (args : Array Value) (below : List Frame) (meth : Method) (c : Code) (cells slots : Nat) (Q : State → Prop) (A : Nat → Prop) (σ0 : tp_St),
    tp_Cx p R s m args c cells slots D cs ad A σ0 mid →
    (∀ pc v t σ' H locs ls, tp_ret mid = some t → decode (tp_cc mid) pc = .ok (.ireturn, 1) → narrow t (.int v) = .int v → post v σ' → tp_Wd D cs ad A s σ0 σ' H locs → W p l e R s m args below meth c H locs cells slots Q (F0 m pc ls [.int v])) →
    (∀ pc σ' H locs ls, tp_ret mid = none → decode (tp_cc mid) pc = .ok (.return_, 1) → post 0 σ' → tp_Wd D cs ad A s σ0 σ' H locs → W p l e R s m args below meth c H locs cells slots Q (F0 m pc ls [])) →
    (∀ pc σ' H locs ls, mid = tp_law → pc < 1000000 → decode (tp_cc mid) pc = .ok (.newarray .int, 2) → post (Int32.ofNat pc) σ' → tp_Wd D cs ad A s σ0 σ' H locs → tp_lv ad ls (tp_n mid) (tp_exL pc) → W p l e R s m args below meth c H locs cells slots Q (F0 m pc ls [.int (Int32.ofNat (tp_ln σ'.2.1))])) →
    tp_G p l e R s m args below meth c cells slots Q D cs ad A σ0 (tp_n mid) pc L st σ
theorem tp_X_mono {l : Launch} {D : va_G} {cs : tp_CS} {ad : Nat → Nat} : tp_Mono (tp_X l D cs ad) := fun _ _ _ _ _ _ _ hp h p e R s m args below meth c cells slots Q A σ0 cx h1 h2 h3 =>
  h p e R s m args below meth c cells slots Q A σ0 cx (fun pc v t σ' H locs ls q1 q2 q3 q4 => h1 pc v t σ' H locs ls q1 q2 q3 (hp _ _ q4)) (fun pc σ' H locs ls q1 q2 q4 => h2 pc σ' H locs ls q1 q2 (hp _ _ q4)) (fun pc σ' H locs ls q1 q5 q2 q4 => h3 pc σ' H locs ls q1 q5 q2 (hp _ _ q4))
theorem tp_clsA {a : Nat} (ha : a < tp_law) : (tp_y a).cls = tp_cls a ∧ plainName (tp_y a).cls = true := by
  have h := tp_okM_at ha
  unfold tp_okM at h
  simp only [Bool.and_eq_true, decide_eq_true_eq] at h
  obtain ⟨h1, h2, h3, h4, h5, h6⟩ := h
  exact ⟨h4, h5⟩
/-- A CONTRACT, out of the mini machine's -/
theorem tp_met {l : Launch} {D : va_G} {cs : tp_CS} {ad : Nat → Nat} {a : Nat} {av : List Value} {σ : tp_St} {post : Int32 → tp_St → Prop} (ha : a < tp_law) (hent : (tp_ent1 av).length ≤ tp_n a) (hX : tp_X l D cs ad a 0 (tp_ent a av) [] σ post) : tp_MO l D cs ad a av σ post := by
  intro sz
  refine Met.ofW (cc := tp_cc a) (maxL := tp_n a) (ret := tp_ret a) (tp_clsA ha).2 rfl ?_
  intro p e s m args below meth c s₁ B hml hv
  obtain ⟨rfl, hsz, hP, hK, hinj, hro⟩ := hv
  subst hsz
  have hts := atoms_spec (ws := tp_wl a) B.pre
  have hown : s.vm.findClass (tp_cls a) = some m.cls := (tp_clsA ha).1 ▸ findClass_of_methodNamed B.named
  have hlocks := B.notSynchronized
  have hr := B.returns
  rw [lg_entry_eq]
  refine hX p e (tp_rm a) s m _ below meth c 0 0 _ (va_A (tp_ws cs ad σ) s.heap.size) σ
    ⟨B.exec, B.bytes, hml, hown, fun w hw => hts w (List.mem_cons_of_mem _ hw), hK, ⟨hinj.1, hinj.2, fun i hi => tp_A_iff.mpr (Or.inl ⟨i, hi, rfl⟩)⟩, fun q hq => tp_A_iff.mpr (Or.inr hq), hro, Nat.le_refl _, Nat.le_refl _, Nat.zero_le _, Nat.zero_le _⟩
    ?_ ?_ (fun pc σ' H locs ls q => absurd (q ▸ ha) (Nat.lt_irrefl _)) s.heap [] _ ⟨hP, ⟨fun _ _ => rfl, rfl⟩, va_S.rf⟩ (tp_lv_entry hent)
  · intro pc v t σ' H locs ls hret hdg hn hpost hW
    refine W.zret (ty := t) B.exec B.bytes (hr.trans hret) hn (fun u hu hWm => ?_) hW.2.2.2.2 hdg hlocks
    unfold tp_Qc
    rw [hret]
    exact ⟨⟨v, σ', rfl, hpost, by rw [hu]; exact hW.1, hW.2.1⟩, hW.2.2.F hu⟩
  · intro pc σ' H locs ls hret hdg hpost hW
    refine W.vret B.exec B.bytes (hr.trans hret) (fun u hu hWm => ?_) hW.2.2.2.2 hdg hlocks
    unfold tp_Qc
    rw [hret]
    exact ⟨⟨σ', rfl, hpost, by rw [hu]; exact hW.1, hW.2.1⟩, hW.2.2.F hu⟩
theorem tp_X_cl {l : Launch} {D : va_G} {cs : tp_CS} {ad : Nat → Nat} : tp_Cl (tp_X l D cs ad) := fun mid pc L st σ post h p e R s m args below meth c cells slots Q A σ0 cx h1 h2 h3 =>
  tp_snB cx (fun t L st σ ⟨L', hw, hX⟩ H locs ls hW hl => hX p e R s m args below meth c cells slots Q A σ0 cx h1 h2 h3 H locs ls hW (tp_lv_wk hw hl)) (fun a av σ p' ha hent hX => tp_met ha hent hX) h1 h2 h3 _ _ _ _ _ (tp_okB mid pc) h
theorem tp_sound {l : Launch} {D : va_G} {cs : tp_CS} {ad : Nat → Nat} {mid pc : Nat} {L st : List Value} {σ : tp_St} {post : Int32 → tp_St → Prop} (h : tp_E mid pc L st σ post) : tp_X l D cs ad mid pc L st σ post := h _ tp_X_mono tp_X_cl
