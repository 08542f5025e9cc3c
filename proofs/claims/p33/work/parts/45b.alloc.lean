/-! THE LAW MAKES AN ARRAY: the world grows by one object; the runs between two of them -/
theorem al_kd : ∀ o, o < 65 → tp_kd o < 25 := by decide +kernel
theorem al_rrt : ∀ o, o < 65 → ∀ k, k < 10 → (tp_rrl.getD o []).getD k 0 < 58 := by decide +kernel
theorem al_nf : ∀ c, c < 10 → tp_nf c ≤ 8 := by decide +kernel
theorem al_cls : ∀ o, o < 65 → tp_kd o < 20 → tp_kd o < 10 := by decide +kernel
theorem al_row : ∀ o, o < 65 → ¬ tp_kd o < 20 → ¬ tp_kd o = 20 → ¬ tp_kd o = 21 → ¬ tp_kd o = 22 → (tp_rrl.getD o []).getD 0 0 + tp_ln o ≤ 58 := by decide +kernel
theorem al_rr1 {σ : tp_St} {o k : Nat} (h : o < 65) (hk : k < 8) (hc : tp_kd o < 20) : tp_rr σ o k < 58 := by
  unfold tp_rr
  rw [if_pos hc]
  exact al_rrt o h k (by omega)
theorem al_cell {D : va_G} {cs : tp_CS} {ad ad' : Nat → Nat} {σ σ' : tp_St} {H : Heap} {o : Nat} (ho : o < 65) (ha : ∀ i, i < 58 → ad' i = ad i) (hao : ad' o = ad o) (hs : σ'.1 o = σ.1 o) (h : va_at D vwCl (ad o, tp_cell cs ad σ o) H) : va_at D vwCl (ad' o, tp_cell cs ad' σ' o) H := by
  rw [hao]
  have hr : ∀ k, tp_rr σ' o k = tp_rr σ o k := fun _ => rfl
  by_cases h1 : tp_kd o < 20
  · rw [tp_cell_cls h1] at h ⊢
    have e : tp_fs ad' σ' o = tp_fs ad σ o := by
      unfold tp_fs
      refine List.map_congr_left fun k hk => ?_
      have hk8 : k < 8 := Nat.lt_of_lt_of_le (List.mem_range.mp hk) (al_nf _ (al_cls o ho h1))
      unfold tp_fv
      rw [hs, hr, ha _ (al_rr1 ho hk8 h1)]
    rw [e]
    exact h
  · by_cases h2 : tp_kd o = 20
    · rw [tp_cell_20 h2] at h ⊢
      rw [hs]
      exact h
    · by_cases h3 : tp_kd o = 21
      · rw [tp_cell_21 h3] at h ⊢
        rw [hs]
        exact h
      · by_cases h4 : tp_kd o = 22
        · rw [tp_cell_22 h4] at h ⊢
          rw [hs]
          exact h
        · have hrow := al_row o ho h1 h2 h3 h4
          have hlt : ∀ j, j < tp_ln o → tp_rr σ o j < 58 := fun j hj => by
            unfold tp_rr
            rw [if_neg h1]
            omega
          by_cases h5 : tp_kd o = 23
          · rw [tp_cell_23 h5] at h ⊢
            have h : H[ad o]? = some (vp_cell cs.2.2.2.1 (tp_ln o, .inr (.inr (.inr (.inr (fun j => some (ad (tp_rr σ o j)))))))) := h
            show H[ad o]? = some (vp_cell cs.2.2.2.1 (tp_ln o, .inr (.inr (.inr (.inr (fun j => some (ad' (tp_rr σ' o j))))))))
            rw [h, vp_cell_q, vp_cell_q]
            exact congrArg some (ct_arr fun j hj => by rw [hr, ha _ (hlt j hj)])
          · have h6 : tp_kd o = 24 := by have := al_kd o ho; omega
            rw [tp_cell_24 h6] at h ⊢
            have h : H[ad o]? = some (vp_cell cs.2.2.2.2 (tp_ln o, .inr (.inr (.inr (.inr (fun j => some (ad (tp_rr σ o j)))))))) := h
            show H[ad o]? = some (vp_cell cs.2.2.2.2 (tp_ln o, .inr (.inr (.inr (.inr (fun j => some (ad' (tp_rr σ' o j))))))))
            rw [h, vp_cell_q, vp_cell_q]
            exact congrArg some (ct_arr fun j hj => by rw [hr, ha _ (hlt j hj)])
/-- the new object's address is put in -/
def al_ad (ad : Nat → Nat) (N q : Nat) : Nat → Nat := fun o => if o = N then q else ad o
theorem al_ne {ad : Nat → Nat} {N q o : Nat} (h : ¬ o = N) : al_ad ad N q o = ad o := if_neg h
theorem al_eq {ad : Nat → Nat} {N q : Nat} : al_ad ad N q N = q := if_pos rfl
theorem al_lv {ad ad' : Nat → Nat} {ls : Array Slot} {n : Nat} {L : List Value} (h : tp_lv ad ls n L) (e : ∀ o, .ref o ∈ L → ad' o = ad o) : tp_lv ad' ls n L := by
  refine ⟨⟨h.1.1, h.1.2.1, fun q hq => ?_⟩, h.2⟩
  obtain ⟨v, h1, h2, h3⟩ := tp_al_mem.mp hq
  refine h.1.2.2 q (tp_al_mem.mpr ⟨v, h1, h2, ?_⟩)
  rw [h3]
  cases v with
  | ref o => exact congrArg Value.ref (e o (List.mem_of_getElem? h1))
  | _ => rfl
section ALN
variable {p : Program} {l : Launch} {e : Env} {s : State} {m : MethodId} {args : Array Value} {below : List Frame} {meth : Method} {c : Code} {cells slots : Nat} {Q : State → Prop}
variable {D : va_G} {cs : tp_CS} {A : Nat → Prop}
theorem al_new {R : Room} {cc : ByteArray} {nL n pc : Nat} {own : String} (Z : ct_S p s m args c cc nL own D cs A) {ad : Nat → Nat} {σ0 σ : tp_St} {H : Heap} {locs : List Loc} {ls : Array Slot} {L : List Value} (hW : tp_Wd D cs ad A s σ0 σ H locs) (hap : tp_ap ad A σ.2.1) (hN : σ.2.1 ≤ 64) (hkd : tp_kd σ.2.1 = 20) (hle : tp_ln σ.2.1 ≤ 100) (hcells : cells + 1 ≤ R.cells) (hslots : slots + tp_ln σ.2.1 ≤ R.slots) (hdg : decode cc pc = .ok (.newarray .int, 2)) (hl : tp_lv ad ls n L) (hL : ∀ o, .ref o ∈ L → ¬ o = σ.2.1)
    (kk : ∀ (q : Nat) (H1 : Heap), tp_Wd D cs (al_ad ad σ.2.1 q) A s (tp_new σ) (tp_new σ) H1 locs → tp_ap (al_ad ad σ.2.1 q) A (σ.2.1 + 1) → tp_lv (al_ad ad σ.2.1 q) ls n L → W p l e R s m args below meth c H1 locs (cells + 1) (slots + tp_ln σ.2.1) Q (F0 m (pc + 2) ls [.ref q])) : W p l e R s m args below meth c H locs cells slots Q (F0 m pc ls [.int (Int32.ofNat (tp_ln σ.2.1))]) := by
  obtain ⟨hP, hσ, hS⟩ := hW
  refine ct_newa Z ct_aki (tp_ln σ.2.1) (n := nI (tp_ln σ.2.1)) (nI_pos (by omega)) (nI_clamp (by omega)) (by omega) hcells hslots hdg ⟨hP, tp_ap_D hap, hS⟩ fun q H1 hW1 => ?_
  obtain ⟨hP1, hD1, hS1⟩ := hW1
  have hold : ∀ i, i < σ.2.1 → (tp_ws cs ad σ ++ [(q, .inl (cs.1, tp_ln σ.2.1, .inl fun _ => 0))])[i]? = some (ad i, tp_cell cs ad σ i) := fun i hi => by
    rw [List.getElem?_append_left (by rw [tp_ws_len]; exact hi), tp_ws_at hi]
  have hlast : (tp_ws cs ad σ ++ [(q, .inl (cs.1, tp_ln σ.2.1, .inl fun _ => 0))])[σ.2.1]? = some (q, .inl (cs.1, tp_ln σ.2.1, .inl fun _ => 0)) := by
    rw [List.getElem?_append_right (by rw [tp_ws_len]; exact Nat.le_refl _), tp_ws_len, Nat.sub_self]
    rfl
  have hat : ∀ i, i < σ.2.1 + 1 → ∃ x, (tp_ws cs ad σ ++ [(q, .inl (cs.1, tp_ln σ.2.1, .inl fun _ => 0))])[i]? = some (al_ad ad σ.2.1 q i, x) := fun i hi => by
    by_cases hi2 : i = σ.2.1
    · subst hi2
      rw [al_eq]
      exact ⟨_, hlast⟩
    · rw [al_ne hi2]
      exact ⟨_, hold i (by omega)⟩
  refine kk q H1 ⟨fun k x hk => ?_, ⟨fun _ _ => rfl, rfl⟩, hS1⟩ ⟨⟨by have := hap.1.1; omega, by omega⟩, fun i j hi hj hij => ?_, fun i hi => ?_⟩ (al_lv hl fun o ho => al_ne (hL o ho))
  · obtain ⟨hk1, rfl⟩ := tp_ws_q hk
    have hk2 : k < σ.2.1 + 1 := hk1
    by_cases hkN : k = σ.2.1
    · subst hkN
      rw [tp_cell_20 hkd, al_eq, show (tp_new σ).1 σ.2.1 = fun _ => 0 from funext fun _ => tp_new_eq]
      exact hP1 _ _ hlast
    · exact al_cell (by omega) (fun i hi => al_ne (by have := hap.1.1; omega)) (al_ne hkN) (funext fun j => tp_new_ne hkN) (hP1 k _ (hold k (by omega)))
  · obtain ⟨x, hx⟩ := hat i hi
    obtain ⟨y, hy⟩ := hat j hj
    exact hD1.1 i j _ _ hx hy hij
  · obtain ⟨x, hx⟩ := hat i hi
    exact hD1.2 i _ hx
/-- from a place where the law makes an array, the rest is done -/
def al_Go (p : Program) (l : Launch) (e : Env) (s : State) (m : MethodId) (args : Array Value) (below : List Frame) (meth : Method) (c : Code) (Q : State → Prop) (D : va_G) (cs : tp_CS) (A : Nat → Prop) (pc : Nat) (R : tp_St → Prop) (k : Nat) : Prop :=
  ∀ ad σ0 σ H locs ls cells slots, tp_Wd D cs ad A s σ0 σ H locs → tp_ap ad A σ.2.1 → tp_ro ad A s s.heap σ → tp_lv ad ls 24 (tp_exL pc) → R σ → cells + k ≤ 600000 → slots + 100 * k ≤ 7302250 → W p l e room_1 s m args below meth c H locs cells slots Q (F0 m pc ls [.int (Int32.ofNat (tp_ln σ.2.1))])
theorem al_go {own : String} (Z : ct_S p s m args c code 24 own D cs A) (hown : s.vm.findClass (tp_cls 43) = some m.cls) {pc pn N k : Nat} {R R' : tp_St → Prop} (hdg : decode code pc = .ok (.newarray .int, 2)) (hN : N ≤ 64) (hkd : tp_kd N = 20) (hle : tp_ln N ≤ 100) (hL : ∀ o, .ref o ∈ tp_exL pc → ¬ o = N) (hpn : pn < 1000000) (hnb : ¬ narrow .boolean (.int (nI pn)) = .int (nI pn))
    (hR : ∀ σ, R σ → σ.2.1 = N ∧ tp_E 43 (pc + 2) (tp_exL pc) [.ref N] (tp_new σ) (fun r σ' => r = nI pn ∧ R' σ')) (nx : al_Go p l e s m args below meth c Q D cs A pn R' k) : al_Go p l e s m args below meth c Q D cs A pc R (k + 1) := by
  intro ad σ0 σ H locs ls cells slots hW hap hro hl hRσ hc hs
  obtain ⟨hNσ, hE⟩ := hR σ hRσ
  obtain ⟨hx, hb, hml, hown0, hts, hK, hA, hEE⟩ := id Z
  rw [← hNσ] at hN hkd hle hL hE
  refine al_new (R := room_1) Z hW hap hN hkd hle (show cells + 1 ≤ 600000 by omega) (show slots + tp_ln σ.2.1 ≤ 7302250 by omega) hdg hl hL fun q H1 hW1 hap1 hl1 => ?_
  have hro1 : tp_ro (al_ad ad σ.2.1 q) A s s.heap (tp_new σ) := by
    unfold tp_ro at hro ⊢
    rw [al_ne (by omega), tp_new_ne (by omega), show (tp_new σ).1 90 = σ.1 90 from funext fun j => tp_new_ne (by omega)]
    exact hro
  have hst : [Value.ref q] = [Value.ref σ.2.1].map (tp_v (al_ad ad σ.2.1 q)) := by
    show _ = [Value.ref (al_ad ad σ.2.1 q σ.2.1)]
    rw [al_eq]
  rw [hst]
  refine tp_sound (l := l) (D := D) (cs := cs) (ad := al_ad ad σ.2.1 q) hE p e room_1 s m args below meth c _ _ _ A (tp_new σ) ⟨hx, hb, hml, hown, hts, hK, hap1, hA, hro1, Nat.le_of_ble_eq_true rfl, Nat.le_of_ble_eq_true rfl, (show cells + 1 ≤ 600000 by omega), (show slots + tp_ln σ.2.1 ≤ 7302250 by omega)⟩ ?_ ?_ ?_ H1 locs ls hW1 hl1
  · intro pc' v t σ' H locs ls hret hdg' hn hv hWd
    have ht : t = .boolean := by
      have : tp_ret 43 = some .boolean := by decide +kernel
      rw [this] at hret
      exact (Option.some.inj hret).symm
    rw [ht, hv.1] at hn
    exact absurd hn hnb
  · intro pc' σ' H locs ls hret
    exact absurd hret (by decide +kernel)
  · intro pc' σ' H2 locs2 ls2 _ hpc hdg' hv hWd hl2
    have hp : pc' = pn := (tp_ne (a := pc') (b := pn) hpc hpn).mp hv.1
    subst hp
    have e2 : σ'.2 = (tp_new σ).2 := hWd.2.1.2
    refine nx _ _ σ' H2 locs2 ls2 _ _ hWd (by rw [e2]; exact hap1) ?_ hl2 hv.2 (by omega) (by omega)
    unfold tp_ro at hro1 ⊢
    rw [hWd.2.1.1 89 (by decide), hWd.2.1.1 90 (by decide)]
    exact hro1
theorem al_end {own : String} (Z : ct_S p s m args c code 24 own D cs A) (hown : s.vm.findClass (tp_cls 43) = some m.cls) {pc N k : Nat} {R : tp_St → Prop} (hdg : decode code pc = .ok (.newarray .int, 2)) (hN : N ≤ 64) (hkd : tp_kd N = 20) (hle : tp_ln N ≤ 100) (hL : ∀ o, .ref o ∈ tp_exL pc → ¬ o = N)
    (hR : ∀ σ, R σ → σ.2.1 = N ∧ tp_E 43 (pc + 2) (tp_exL pc) [.ref N] (tp_new σ) (fun r _ => r = 1))
    (fin : ∀ pc H locs ls cells slots, decode code pc = .ok (.ireturn, 1) → va_S A s.heap H locs → cells ≤ 600000 → slots ≤ 7302250 → W p l e room_1 s m args below meth c H locs cells slots Q (F0 m pc ls [.int 1])) : al_Go p l e s m args below meth c Q D cs A pc R (k + 1) := by
  intro ad σ0 σ H locs ls cells slots hW hap hro hl hRσ hc hs
  obtain ⟨hNσ, hE⟩ := hR σ hRσ
  obtain ⟨hx, hb, hml, hown0, hts, hK, hA, hEE⟩ := id Z
  rw [← hNσ] at hN hkd hle hL hE
  refine al_new (R := room_1) Z hW hap hN hkd hle (show cells + 1 ≤ 600000 by omega) (show slots + tp_ln σ.2.1 ≤ 7302250 by omega) hdg hl hL fun q H1 hW1 hap1 hl1 => ?_
  have hro1 : tp_ro (al_ad ad σ.2.1 q) A s s.heap (tp_new σ) := by
    unfold tp_ro at hro ⊢
    rw [al_ne (by omega), tp_new_ne (by omega), show (tp_new σ).1 90 = σ.1 90 from funext fun j => tp_new_ne (by omega)]
    exact hro
  have hst : [Value.ref q] = [Value.ref σ.2.1].map (tp_v (al_ad ad σ.2.1 q)) := by
    show _ = [Value.ref (al_ad ad σ.2.1 q σ.2.1)]
    rw [al_eq]
  rw [hst]
  refine tp_sound (l := l) (D := D) (cs := cs) (ad := al_ad ad σ.2.1 q) hE p e room_1 s m args below meth c _ _ _ A (tp_new σ) ⟨hx, hb, hml, hown, hts, hK, hap1, hA, hro1, Nat.le_of_ble_eq_true rfl, Nat.le_of_ble_eq_true rfl, (show cells + 1 ≤ 600000 by omega), (show slots + tp_ln σ.2.1 ≤ 7302250 by omega)⟩ ?_ ?_ ?_ H1 locs ls hW1 hl1
  · intro pc' v t σ' H locs ls hret hdg' hn hv hWd
    have hv : v = 1 := hv
    subst hv
    exact fin pc' H locs ls _ _ hdg' hWd.2.2 (by omega) (by omega)
  · intro pc' σ' H locs ls hret
    exact absurd hret (by decide +kernel)
  · intro pc' σ' H2 locs2 ls2 _ hpc hdg' hv hWd hl2
    have hv : nI pc' = nI 1 := hv
    have hp : pc' = 1 := (tp_ne (a := pc') (b := 1) hpc (by omega)).mp hv
    subst hp
    exact absurd hdg' (by decide +kernel)
end ALN
