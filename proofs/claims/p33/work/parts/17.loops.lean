/-! the loops over sections, ways and trips; the sales undone; money; the law behind its last array -/
section GM
variable {pr sp : Nat → Nat} {u : Nat → Bool} {lim : Nat → Nat → Nat} {L : Nat} {tr ty st : Nat → Nat} {n : Nat} {σ : tp_St} {post : Int32 → tp_St → Prop}
theorem l_997 {pr sp : Nat → Nat} {u : Nat → Bool} (hp : ∀ σ, post 1 σ) : ∀ d t σ, t + d = 4 → G0 pr sp u σ → GS lim tr ty st 0 σ → (∀ r, t ≤ r → r < 4 → σ.1 14 r = 1) → H_43_997 (nI t) σ post
  | 0, t, σ, ht, h0, hS, ho => by
    refine sg_43_997 _ (pk_le 4 t (fun _ => c_undo0 hS ⟨fun _ => c_gap (k := 0) h0 hS rfl (by omega) ⟨fun _ => c_gap (k := 1) h0 hS rfl (by omega) ⟨fun _ => sg_43_1063 _ ⟨tp_nb1, hp _⟩, fun c => absurd rfl c⟩, fun c => absurd rfl c⟩, fun c => absurd rfl c⟩) (fun z => absurd z (by omega)))
  | d + 1, t, σ, ht, h0, hS, ho => by
    refine sg_43_997 _ (pk_le 4 t (fun z => absurd z (by omega)) (fun _ => c_money h0 hS rfl (by omega) ⟨fun _ => c_close h0 hS (ho t (Nat.le_refl _) (by omega)) rfl (by omega) ⟨fun _ => ?_, fun c => absurd rfl c⟩, fun c => absurd rfl c⟩))
    rw [nI_1]
    refine l_997 hp d (t + 1) _ (by omega) (G0_fr h0 (fun o k hd => tp_sg_ne (by omega))) (GS_fr hS (fun o k hd => tp_sg_ne (by omega))) (fun r h1 h2 => ?_)
    rw [tp_sg_ne (by omega)]
    exact ho r (by omega) h2
theorem l_903 {pr sp : Nat → Nat} {u : Nat → Bool} (hp : ∀ σ, post 1 σ) (hn : n ≤ 14) (hg : ∀ i, i < n → tr i < 4 ∧ ty i < 2) : ∀ m σ, m ≤ n → G0 pr sp u σ → GO σ → GA pr sp u σ → GS lim tr ty st m σ → GL u tr ty st n σ → H_43_903 (nI m - 1) σ post
  | 0, σ, hm, h0, ho, hA, hS, hL => by
    refine sg_43_903 _ ?_
    rw [tp_neg1]
    exact ⟨fun _ => l_997 hp 4 0 σ rfl h0 hS (fun r _ hr => ho r hr), fun z => absurd (by decide) z⟩
  | m + 1, σ, hm, h0, ho, hA, hS, hL => by
    obtain ⟨e1, e2, e3, e4⟩ := hS.2.2.2 _ _ (hg m (by omega)).1 (hg m (by omega)).2
    have hx : g_nx tr ty (m + 1) (tr m) (ty m) = g_nx tr ty m (tr m) (ty m) + 1 := by rw [g_nx_succ, if_pos ⟨rfl, rfl⟩]
    refine sg_43_903 _ ?_
    rw [nI_pred]
    refine ⟨fun z => absurd z (nI_pos (by omega)), fun _ => c_undo h0 ho hS (fun σ' hS' hf h2 => ⟨fun _ => ?_, fun c => absurd rfl c⟩)⟩
    have hN : 64 < σ'.2.1 := by rw [h2]; exact hA.1
    have hL' : GL u tr ty st n σ' := by
      refine ⟨(hf 64 0 (by omega)).trans hL.1, fun i hi => ?_⟩
      rw [hf _ _ (by omega), hf _ _ (by omega), hf _ _ (by omega), hf _ _ (by omega)]
      exact hL.2 i hi
    have h0' : G0 pr sp u σ' := G0_fr h0 (fun o k hd => hf o k (by omega))
    obtain ⟨l1, l2, l3, l4⟩ := hL'.2 m (by omega)
    rw [tp_41, tp_42, tp_43, tp_c (show 4 * m + 1 < 1000000 by omega), tp_c (show 4 * m + 2 < 1000000 by omega), l1, l2]
    have v1 := tp_vi (show 4 * m + 1 < 60 by omega) (by omega)
    have v2 := tp_vi (show 4 * m + 2 < 60 by omega) (by omega)
    have v3 := tp_vi (show 4 * m + 3 < 60 by omega) (by omega)
    refine ⟨hN, v1, hN, v2, c_pack h0' hS' rfl rfl (hg m (by omega)).1 (hg m (by omega)).2 (by omega) ?_⟩
    rw [tp_c (show 4 * m + 3 < 1000000 by omega), l3, l2]
    refine ⟨hN, v3, fun _ => ⟨hN, v2, hN, v3, c_unsold h0' hS' (Nat.le_refl _) (by omega) (hg m (by omega)).1 (hg m (by omega)).2 rfl rfl ⟨fun _ => ?_, fun c => absurd rfl c⟩⟩, fun c => absurd rfl c⟩
    rw [tp_m1]
    exact l_903 hp hn hg m σ' (by omega) h0' (fun t ht => (hf 14 t (by omega)).trans (ho t ht)) (GA_fr hA h2 (fun o k hd => hf o k (by omega))) hS' hL'
/-- so many on the ways alike, among the first m trips -/
def g_s (sp : Nat → Nat) (u : Nat → Bool) (tr ty st : Nat → Nat) (b : Bool) (k w n m : Nat) : Nat := sm (fun r => if (u r == b) = true then g_c sp u tr ty st r k w n else 0) m
theorem l_454 {k w : Nat} {b : Bool} (h : GI pr sp u lim L tr ty st n σ) (hk : k ≤ 8) (hb : b = true ↔ w = 0) (hw : w < 2) (nx : H_43_439 (nI n) (nI k) (nI (w + 1)) σ post) : H_43_454 (nI n) (nI k) (nI w) 0 0 0 σ post := by
  obtain ⟨h0, ho, hA, hC, hS, hL, hP⟩ := id h
  have hN := hA.1
  refine tp_up_loop (E := fun t => H_43_454 (nI n) (nI k) (nI w) (nI (g_s sp u tr ty st b k 0 n t)) (nI (g_s sp u tr ty st b k 1 n t)) (nI t) σ post) (n := 4) (fun t ht g => ?_) ?_ 0 (Nat.zero_le _)
  · have g833 : ∀ x y, x = nI (g_s sp u tr ty st b k 0 n (t + 1)) → y = nI (g_s sp u tr ty st b k 1 n (t + 1)) → H_43_833 (nI n) (nI k) (nI w) x y (nI t) σ post := fun x y hx hy => by
      subst hx hy
      refine sg_43_833 _ _ _ _ _ _ ?_
      rw [nI_1]
      exact g
    have es : ∀ w', g_s sp u tr ty st b k w' n (t + 1) = g_s sp u tr ty st b k w' n t + (if (u t == b) = true then g_c sp u tr ty st t k w' n else 0) := fun w' => rfl
    have g538 : ∀ x y, x = nI (g_s sp u tr ty st b k 0 n (t + 1)) → y = nI (g_s sp u tr ty st b k 1 n (t + 1)) → ∀ had, had = (if g_q u t k = 0 then 0 else g_g sp tr ty st t (g_q u t k - 1) n) → H_43_565 (nI n) (nI k) (nI w) x y (nI t) (nI had) σ post := fun x y hx hy had hh =>
      sg_43_565 _ _ _ _ _ _ _ (l_576 h hk ht hh (g833 x y hx hy))
    have body : (u t == b) = true → ∀ x, x = bI b → H_43_484 (nI n) (nI k) (nI w) (nI (g_s sp u tr ty st b k 0 n t)) (nI (g_s sp u tr ty st b k 1 n t)) (nI t) x x σ post := fun hub x _ => by
      refine sg_43_484 _ _ _ _ _ _ _ _ ⟨fun _ => c_aboard (w := 0) h0 hS rfl rfl rfl ht hk (by omega) (c_aboard (w := 1) h0 hS rfl rfl rfl ht hk (by omega) ?_), fun c => absurd rfl c⟩
      rw [tp_c (show t < 1000000 by omega), (hA.2.2 _ ht).1, bI_1, nI_add, nI_add]
      have e0 : nI (g_s sp u tr ty st b k 0 n t + g_c sp u tr ty st t k 0 n) = nI (g_s sp u tr ty st b k 0 n (t + 1)) := by rw [es, if_pos hub]
      have e1 : nI (g_s sp u tr ty st b k 1 n t + g_c sp u tr ty st t k 1 n) = nI (g_s sp u tr ty st b k 1 n (t + 1)) := by rw [es, if_pos hub]
      refine ⟨by omega, tp_vi ht (by omega), fun z => sg_43_538 _ _ _ _ _ _ _ ?_, fun z => sg_43_538 _ _ _ _ _ _ _ ?_⟩
      · have hq : g_q u t k = k := by unfold g_q; rw [if_pos z]
        rcases Nat.eq_zero_or_pos k with rfl | hk0
        · exact ⟨fun _ => sg_43_552 _ _ _ _ _ _ (g538 _ _ e0 e1 0 (by rw [hq, if_pos rfl])), fun c => absurd (by decide) c⟩
        · obtain ⟨j, rfl⟩ : ∃ j, k = j + 1 := ⟨k - 1, by omega⟩
          have hj : g_q u t j = j := by unfold g_q; rw [if_pos z]
          rw [nI_pred]
          refine ⟨fun c => absurd c (nI_pos (by omega)), fun _ => pk_le j 8 (fun _ => c_aboard (w := 1) (k := j) h0 hS rfl rfl rfl ht (by omega) (by omega) (g538 _ _ e0 e1 _ ?_)) (fun z2 => absurd z2 (by omega))⟩
          rw [hq, if_neg (by omega), g_c1, hj, Nat.add_sub_cancel]
      · have hq : g_q u t k = 8 - k := by unfold g_q; rw [if_neg z]
        rw [nI_1]
        refine ⟨fun c => absurd c (nI_pos (by omega)), fun _ => pk_le (k + 1) 8 (fun z2 => c_aboard (w := 1) (k := k + 1) h0 hS rfl rfl rfl ht z2 (by omega) (g538 _ _ e0 e1 _ ?_)) (fun z2 => sg_43_552 _ _ _ _ _ _ (g538 _ _ e0 e1 0 (by rw [hq, if_pos (by omega)])))⟩
        have hj : g_q u t (k + 1) = 8 - k - 1 := by unfold g_q; rw [if_neg z]; omega
        rw [hq, if_neg (by omega), g_c1, hj]
    have skip : ¬ (u t == b) = true → ∀ x y : Int32, ¬ x = y → H_43_484 (nI n) (nI k) (nI w) (nI (g_s sp u tr ty st b k 0 n t)) (nI (g_s sp u tr ty st b k 1 n t)) (nI t) x y σ post := fun hub x y hxy => by
      refine sg_43_484 _ _ _ _ _ _ _ _ ⟨fun c => absurd c hxy, fun _ => g833 _ _ ?_ ?_⟩
      · rw [es, if_neg hub]; rfl
      · rw [es, if_neg hub]; rfl
    refine sg_43_454 _ _ _ _ _ _ (pk_le 4 t (fun z => absurd z (by omega)) (fun _ => ?_))
    rw [tp_c (show t < 1000000 by omega), (hA.2.2 _ ht).1, bI_1]
    refine ⟨by omega, tp_vi ht (by omega), fun z => sg_43_474 _ _ _ _ _ _ _ (pk_eq w 0 (fun z2 => ?_) (fun z2 => ?_)), fun z => sg_43_474 _ _ _ _ _ _ _ (pk_eq w 0 (fun z2 => ?_) (fun z2 => ?_))⟩
    · have hbt := hb.mpr z2
      exact body (by rw [z, hbt]; rfl) 1 (by rw [hbt]; rfl)
    · have hbt : b = false := by cases b with
        | true => exact absurd (hb.mp rfl) z2
        | false => rfl
      exact skip (by rw [z, hbt]; decide) 1 0 (by decide)
    · have hbt := hb.mpr z2
      exact skip (by rw [hbt]; simpa using z) 0 1 (by decide)
    · have hbt : b = false := by cases b with
        | true => exact absurd (hb.mp rfl) z2
        | false => rfl
      exact body (by rw [hbt]; simpa using z) 0 (by rw [hbt]; rfl)
  · have htr : ∀ i, i < n → tr i < 4 := fun i hi => (hS.2.2.1 i hi).1.1
    have e0 : g_s sp u tr ty st b k 0 n 4 = g_r sp u tr ty st b k 0 n := g_r_sm htr
    have e1 : g_s sp u tr ty st b k 1 n 4 = g_r sp u tr ty st b k 1 n := g_r_sm htr
    have g872 : ∀ x, x = bI b → H_43_872 (nI n) (nI k) (nI w) (nI (g_s sp u tr ty st b k 1 n 4)) x σ post := fun x hx => by
      refine sg_43_872 _ _ _ _ _ (c_riders (w := 1) h0 hS hx rfl rfl hk (by omega) ⟨fun _ => ?_, fun c => absurd (by rw [e1]) c⟩)
      rw [nI_1]
      exact nx
    refine sg_43_454 _ _ _ _ _ _ (pk_le 4 4 (fun _ => pk_eq w 0 (fun z => ?_) (fun z => ?_)) (fun z => absurd z (by omega)))
    · have hbt := hb.mpr z
      refine sg_43_850 _ _ _ _ _ _ (c_riders (w := 0) (b := b) h0 hS (by rw [hbt]; rfl) rfl rfl hk (by omega) ⟨fun _ => pk_eq w 0 (fun _ => g872 1 (by rw [hbt]; rfl)) (fun c => absurd z c), fun c => absurd (by rw [e0]) c⟩)
    · have hbt : b = false := by cases b with
        | true => exact absurd (hb.mp rfl) z
        | false => rfl
      refine sg_43_850 _ _ _ _ _ _ (c_riders (w := 0) (b := b) h0 hS (by rw [hbt]; rfl) rfl rfl hk (by omega) ⟨fun _ => pk_eq w 0 (fun c => absurd c z) (fun _ => g872 0 (by rw [hbt]; rfl)), fun c => absurd (by rw [e0]) c⟩)
theorem l_429 (hp : ∀ σ, post 1 σ) (h : GI pr sp u lim L tr ty st n σ) : H_43_429 (nI n) 0 σ post := by
  obtain ⟨h0, ho, hA, hC, hS, hL, hP⟩ := id h
  refine tp_up_loop (E := fun k => H_43_429 (nI n) (nI k) σ post) (n := 9) (fun k hk g => ?_) ?_ 0 (Nat.zero_le _)
  · have g2 : H_43_439 (nI n) (nI k) (nI 2) σ post := sg_43_439 _ _ _ (pk_le 2 2 (fun _ => by rw [nI_1]; exact g) (fun z => absurd z (by omega)))
    have g1 : H_43_439 (nI n) (nI k) (nI 1) σ post := sg_43_439 _ _ _ (pk_le 2 1 (fun z => absurd z (by omega)) (fun _ => l_454 (w := 1) (b := false) h (by omega) (by decide) (by omega) g2))
    have g0 : H_43_439 (nI n) (nI k) (nI 0) σ post := sg_43_439 _ _ _ (pk_le 2 0 (fun z => absurd z (by omega)) (fun _ => l_454 (w := 0) (b := true) h (by omega) (by decide) (by omega) g1))
    exact sg_43_429 _ _ (pk_le 9 k (fun z => absurd z (by omega)) (fun _ => g0))
  · exact sg_43_429 _ _ (pk_le 9 9 (fun _ => l_903 hp hS.1 (fun i hi => ⟨(hS.2.2.1 i hi).1.1, (hS.2.2.1 i hi).1.2.1⟩) n σ (Nat.le_refl _) h0 ho hA hS hL) (fun z => absurd z (by omega)))
theorem l_394 (hp : ∀ σ, post 1 σ) (h : GI pr sp u lim L tr ty st n σ) : H_43_394 (nI n) (nI (g_w pr ty n)) 0 0 σ post := by
  obtain ⟨h0, ho, hA, hC, hS, hL, hP⟩ := id h
  refine tp_up_loop (E := fun t => H_43_394 (nI n) (nI (g_w pr ty n)) (nI (sm (fun t => g_tk pr tr ty t n) t)) (nI t) σ post) (n := 4) (fun t ht g => ?_) ?_ 0 (Nat.zero_le _)
  · refine sg_43_394 _ _ _ _ (pk_le 4 t (fun z => absurd z (by omega)) (fun _ => c_money h0 hS rfl ht ?_))
    rw [nI_1, nI_add]
    exact g
  · have e : sm (fun t => g_tk pr tr ty t n) 4 = g_w pr ty n := by
      rw [← g_tk_w (tr := tr) n (fun i hi => (hS.2.2.1 i hi).1.1)]
      show 0 + g_tk pr tr ty 0 n + g_tk pr tr ty 1 n + g_tk pr tr ty 2 n + g_tk pr tr ty 3 n = _
      omega
    exact sg_43_394 _ _ _ _ (pk_le 4 4 (fun _ => ⟨fun _ => l_429 hp h, fun c => absurd (by rw [e]) c⟩) (fun z => absurd z (by omega)))
theorem l_359 (hp : ∀ σ, post 1 σ) (h : GI pr sp u lim L tr ty st n σ) : H_43_359 (nI n) 0 0 σ post := by
  obtain ⟨h0, ho, hA, hC, hS, hL, hP⟩ := id h
  have n1 := hS.1
  refine tp_up_loop (E := fun i => H_43_359 (nI n) (nI (g_w pr ty i)) (nI i) σ post) (n := n) (fun i hi g => ?_) ?_ 0 (Nat.zero_le _)
  · obtain ⟨l1, l2, l3, l4⟩ := hL.2 i hi
    obtain ⟨⟨a1, a2, a3⟩, -⟩ := hS.2.2.1 i hi
    have hN := hA.1
    refine sg_43_359 _ _ _ (pk_le n i (fun z => absurd z (by omega)) (fun _ => ?_))
    rw [tp_42, tp_c (show 4 * i + 2 < 1000000 by omega), l2, tp_c (show ty i < 1000000 by omega), (hA.2.1 _ a2).1, nI_1, nI_add]
    exact ⟨hN, tp_vi (by omega) (by omega), by omega, tp_vi a2 (by omega), g⟩
  · exact sg_43_359 _ _ _ (pk_le n n (fun _ => l_394 hp h) (fun z => absurd z (by omega)))
theorem l_323 (hp : ∀ σ, post 1 σ) (h : GI pr sp u lim L tr ty st 0 σ) : H_43_323 σ post :=
  sg_43_323 (c_sells h (fun tr ty st n σ h => ⟨fun _ => l_359 hp h, fun c => absurd (nI_pos' (by have := h.2.2.2.2.1.1; omega)) c⟩))
end GM
