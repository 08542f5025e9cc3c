/-! trips and packs are made; then the ghost stands -/
section GR
variable {pr sp : Nat → Nat} {u : Nat → Bool} {lim : Nat → Nat → Nat} {L : Nat} {σ : tp_St}
/-- T trips are made, and m packs -/
def SI (pr sp : Nat → Nat) (u : Nat → Bool) (lim : Nat → Nat → Nat) (L T m : Nat) (σ : tp_St) : Prop := σ.2 = (64, 0) ∧ SC L σ ∧ GT pr sp 2 σ ∧ σ.1 4 4 = 0 ∧ (∀ t, t < 4 → σ.1 61 t = nI t) ∧ σ.1 3 3 = nI T ∧ (∀ r, r < T → σ.1 12 r = nI r ∧ σ.1 13 r = bI (u r) ∧ σ.1 14 r = 1 ∧ σ.1 60 r = bI (u r)) ∧ GQ lim m σ ∧ ∀ c k, c < 4 → k < 2 → 2 * c + k < m → σ.1 62 (2 * c + k) = nI (50 * c) ∧ σ.1 63 (2 * c + k) = nI (lim c k)
def R6 (L : Nat) (σ : tp_St) : Prop := ∃ pr sp u lim, SI pr sp u lim L 4 8 σ
theorem tp_2ka {t k : Nat} : (8 : Int32) + 2 * nI t + nI k = nI (8 + 2 * t + k) := by rw [show (2 : Int32) = nI 2 from rfl, pk_mul, show (8 : Int32) = nI 8 from rfl, nI_add, nI_add]
theorem tp_50 {t : Nat} : (50 : Int32) * nI t = nI (50 * t) := by rw [show (50 : Int32) = nI 50 from rfl, pk_mul]
theorem r_205 {T : Nat} (hT : T < 4) (nx : ∀ lim σ, SI pr sp u lim L (T + 1) (2 * T + 2) σ → H_43_154 (nI (T + 1)) σ (fun r σ' => r = 321 ∧ R6 L σ')) : ∀ d k lim σ, k + d = 2 → SI pr sp u lim L (T + 1) (2 * T + k) σ → H_43_205 (nI T) (nI k) σ (fun r σ' => r = 321 ∧ R6 L σ')
  | 0, k, lim, σ, hk, h => by
    obtain rfl : k = 2 := by omega
    refine sg_43_205 _ _ (pk_le 2 2 (fun _ => ?_) (fun z => absurd z (by omega)))
    rw [nI_1]
    exact nx lim σ h
  | d + 1, k, lim, σ, hk, h => by
    have hk2 : k < 2 := by omega
    obtain ⟨hN, hC, hG, h4, hO, h3, hR, hQ, hP⟩ := id h
    have hn : σ.2.1 = 64 := by rw [hN]
    have v8 := tp_vi (show 2 * T + k < 8 by omega) (by omega)
    refine sg_43_205 _ _ (pk_le 2 k (fun z => absurd z (by omega)) (fun _ => ?_))
    rw [tp_2k, tp_2ka, tp_50, tp_c (show 2 * T + k < 1000000 by omega)]
    have hC1 : SC L (tp_set σ 62 (2 * T + k) (nI (50 * T))) := SC_fr hC (tp_sg_ne (by omega))
    refine ⟨by omega, v8, sp_41 (j := 8 + 2 * T + k) hC1.1 hC.2 rfl (by omega) (fun x => sp_40 (c := 10) rfl (by omega) (by omega) (fun r hr => ?_))⟩
    have e63 : nI (50 * T) + 3 + nI r = nI (50 * T + (3 + r)) := by rw [show (3 : Int32) = nI 3 from rfl, nI_add, nI_add, Nat.add_assoc]
    have hN1 : 62 < (tp_set σ 62 (2 * T + k) (nI (50 * T))).2.1 ∧ 63 < (tp_set σ 62 (2 * T + k) (nI (50 * T))).2.1 := by
      show 62 < σ.2.1 ∧ 63 < σ.2.1
      omega
    rw [tp_sg_eq, tp_sg_eq, e63, pk_sub (by omega), Nat.add_sub_cancel_left]
    refine ⟨hN1.2, v8, hN1.1, v8, hN1.2, v8, hN1.1, v8, ?_⟩
    generalize hX : tp_set (tp_set σ 62 (2 * T + k) (nI (50 * T))) 63 (2 * T + k) (nI (50 * T + (3 + r))) = X
    have xf : ∀ o j, ¬ (o = 62 ∨ o = 63) → X.1 o j = σ.1 o j := fun o j hd => by rw [← hX, tp_sg_ne (by omega), tp_sg_ne (by omega)]
    have x2 : X.2 = σ.2 := by rw [← hX]; rfl
    have hQX : GQ lim (2 * T + k) X := fun c j hc hj => by
      rw [xf _ _ (by omega), xf _ _ (by omega)]
      exact hQ c j hc hj
    refine c_issue ((xf 1 2 (by omega)).trans hG.1) ((xf 4 4 (by omega)).trans h4) hQX hT hk2 hr rfl rfl rfl rfl ⟨fun _ => ?_, fun c => absurd rfl c⟩
    rw [nI_1]
    have yf : ∀ o j, ¬ (46 ≤ o ∧ o < 58) → (tp_set (tp_set X (46 + T) k (nI (50 * T))) (52 + T) k (nI (50 * T + (3 + r)))).1 o j = X.1 o j := fun o j hd => by rw [tp_sg_ne (by omega), tp_sg_ne (by omega)]
    refine r_205 hT nx d (k + 1) (fun c j => if c = T ∧ j = k then 50 * T + (3 + r) else lim c j) _ (by omega) ⟨x2.trans hN, SC_fr hC ((yf _ _ (by omega)).trans (xf _ _ (by omega))), GT_fr hG (fun o j hd => (yf _ _ (by omega)).trans (xf _ _ (by omega))), (yf _ _ (by omega)).trans ((xf _ _ (by omega)).trans h4), fun t ht => (yf _ _ (by omega)).trans ((xf _ _ (by omega)).trans (hO t ht)), (yf _ _ (by omega)).trans ((xf _ _ (by omega)).trans h3), fun q hq => ?_, fun c j hc hj => ?_, fun c j hc hj hm => ?_⟩
    · rw [yf _ _ (by omega), yf _ _ (by omega), yf _ _ (by omega), yf _ _ (by omega), xf _ _ (by omega), xf _ _ (by omega), xf _ _ (by omega), xf _ _ (by omega)]
      exact hR q hq
    · by_cases q : c = T ∧ j = k
      · obtain ⟨rfl, rfl⟩ := q
        refine ⟨fun _ => ?_, fun z => absurd z (by omega)⟩
        rw [tp_sg_ne (o' := 46 + c) (by omega), tp_sg_eq, tp_sg_eq]
        dsimp only
        rw [if_pos ⟨rfl, rfl⟩]
        exact ⟨rfl, rfl, by omega, by omega⟩
      · rw [tp_sg_ne (o' := 46 + c) (by omega), tp_sg_ne (o' := 46 + c) (by omega), tp_sg_ne (o' := 52 + c) (by omega), tp_sg_ne (o' := 52 + c) (by omega)]
        dsimp only
        rw [if_neg q]
        obtain ⟨w1, w2⟩ := hQX c j hc hj
        exact ⟨fun z => w1 (by omega), fun z => w2 (by omega)⟩
    · rw [yf _ _ (by omega), yf _ _ (by omega), ← hX]
      by_cases q : c = T ∧ j = k
      · obtain ⟨rfl, rfl⟩ := q
        rw [tp_sg_ne (o' := 62) (by omega), tp_sg_eq, tp_sg_eq]
        dsimp only
        rw [if_pos ⟨rfl, rfl⟩]
        exact ⟨rfl, rfl⟩
      · rw [tp_sg_ne (by omega), tp_sg_ne (by omega), tp_sg_ne (by omega), tp_sg_ne (by omega)]
        dsimp only
        rw [if_neg q]
        exact hP c j hc hj (by omega)
theorem r_154 : ∀ d T u lim σ, T + d = 4 → SI pr sp u lim L T (2 * T) σ → H_43_154 (nI T) σ (fun r σ' => r = 321 ∧ R6 L σ')
  | 0, T, u, lim, σ, hT, h => by
    obtain rfl : T = 4 := by omega
    refine sg_43_154 _ (pk_le 4 4 (fun _ => ⟨?_, rfl, pr, sp, u, lim, h⟩) (fun z => absurd z (by omega)))
    rw [h.1]
    rfl
  | d + 1, T, u, lim, σ, hT, h => by
    obtain ⟨hN, hC, hG, h4, hO, h3, hR, hQ, hP⟩ := id h
    have hn : σ.2.1 = 64 := by rw [hN]
    refine sg_43_154 _ (pk_le 4 T (fun z => absurd z (by omega)) (fun _ => sp_41 (j := 4 + T) hC.1 hC.2 (nI_add 4 T) (by omega) (fun x => ?_)))
    obtain ⟨b, hb⟩ : ∃ b : Bool, x &&& 1 = bI b := by
      obtain ⟨j, hj, e⟩ := pk_andE x 1 (m := 1) (by decide)
      rw [e]
      rcases (show j = 0 ∨ j = 1 by omega) with rfl | rfl
      · exact ⟨false, rfl⟩
      · exact ⟨true, rfl⟩
    rw [tp_c (show T < 1000000 by omega), tp_sg_eq, hb]
    generalize hX : tp_set σ 60 T (bI b) = X
    have xf : ∀ o j, ¬ (o = 60) → X.1 o j = σ.1 o j := fun o j hd => by rw [← hX, tp_sg_ne (by omega)]
    have x2 : X.2 = σ.2 := by rw [← hX]; rfl
    have key : H_43_192 (nI T) (nI T) (bI b) X (fun r σ' => r = 321 ∧ R6 L σ') := by
      refine sg_43_192 _ _ _ (c_trip (t := T) ((xf _ _ (by omega)).trans h3) (fun r hr => (xf _ _ (by omega)).trans (hR r hr).1) (by omega) rfl rfl ⟨fun _ => ?_, fun c => absurd rfl c⟩)
      have yf : ∀ o j, ¬ (o = 12 ∨ o = 13 ∨ o = 14 ∨ o = 3) → (tp_set (tp_set (tp_set (tp_set X 12 T (nI T)) 13 T (bI b)) 14 T 1) 3 3 (nI (T + 1))).1 o j = X.1 o j := fun o j hd => by rw [tp_sg_ne (by omega), tp_sg_ne (by omega), tp_sg_ne (by omega), tp_sg_ne (by omega)]
      have zf : ∀ o j, ¬ (o = 12 ∨ o = 13 ∨ o = 14 ∨ o = 3) → ¬ o = 60 → (tp_set (tp_set (tp_set (tp_set X 12 T (nI T)) 13 T (bI b)) 14 T 1) 3 3 (nI (T + 1))).1 o j = σ.1 o j := fun o j h1 h2 => (yf o j h1).trans (xf o j h2)
      refine r_205 (u := fun r => if r = T then b else u r) (by omega) (fun lim σ h => r_154 d (T + 1) _ lim σ (by omega) h) 2 0 lim _ rfl ⟨x2.trans hN, SC_fr hC (zf _ _ (by omega) (by omega)), GT_fr hG (fun o j hd => zf _ _ (by omega) (by omega)), (zf _ _ (by omega) (by omega)).trans h4, fun t ht => (zf _ _ (by omega) (by omega)).trans (hO t ht), tp_sg_eq, fun r hr => ?_, fun c j hc hj => ?_, fun c j hc hj hm => ?_⟩
      · by_cases e : r = T
        · subst e
          rw [tp_sg_ne (by omega), tp_sg_ne (by omega), tp_sg_ne (by omega), tp_sg_eq, tp_sg_ne (by omega), tp_sg_ne (by omega), tp_sg_eq, tp_sg_ne (by omega), tp_sg_eq, yf _ _ (by omega), ← hX, tp_sg_eq]
          dsimp only
          rw [if_pos rfl]
          exact ⟨rfl, rfl, rfl, rfl⟩
        · obtain ⟨w1, w2, w3, w4⟩ := hR r (by omega)
          rw [tp_sg_ne (o' := 12) (by omega), tp_sg_ne (o' := 12) (by omega), tp_sg_ne (o' := 12) (by omega), tp_sg_ne (o' := 12) (by omega), tp_sg_ne (o' := 13) (by omega), tp_sg_ne (o' := 13) (by omega), tp_sg_ne (o' := 13) (by omega), tp_sg_ne (o' := 13) (by omega), tp_sg_ne (o' := 14) (by omega), tp_sg_ne (o' := 14) (by omega), tp_sg_ne (o' := 14) (by omega), tp_sg_ne (o' := 14) (by omega), yf 60 _ (by omega), xf 12 _ (by omega), xf 13 _ (by omega), xf 14 _ (by omega), ← hX, tp_sg_ne (by omega)]
          dsimp only
          rw [if_neg e]
          exact ⟨w1, w2, w3, w4⟩
      · rw [zf _ _ (by omega) (by omega), zf _ _ (by omega) (by omega)]
        exact hQ c j hc hj
      · rw [zf _ _ (by omega) (by omega), zf _ _ (by omega) (by omega)]
        exact hP c j hc hj hm
    refine ⟨by omega, tp_vi (by omega) (by omega), by omega, tp_vi (by omega) (by omega), ?_⟩
    cases b with
    | true => exact ⟨fun _ => key, fun z => absurd rfl z⟩
    | false => exact ⟨fun z => absurd z (by decide), fun _ => key⟩
theorem r_6 (h : R5 L σ) : H_43_149 (tp_new σ) (fun r σ' => r = 321 ∧ R6 L σ') := by
  obtain ⟨hN0, hC0, hZ0, ⟨pr, sp, hT0⟩, hO⟩ := h
  have hn0 : σ.2.1 = 63 := by rw [hN0]
  have hN : (tp_new σ).2 = (64, 0) := by unfold tp_new; rw [hN0]
  have e : ∀ o k, ¬ o = 63 → (tp_new σ).1 o k = σ.1 o k := fun o k hd => tp_new_ne (by omega)
  refine sg_43_149 (r_154 (pr := pr) (sp := sp) 4 0 (fun _ => false) (fun _ _ => 0) _ rfl ⟨hN, SC_fr hC0 (e _ _ (by omega)), GT_fr hT0 (fun o k hd => e _ _ (by omega)), (e _ _ (by omega)).trans hZ0.2.1, fun t ht => (e _ _ (by omega)).trans (hO t ht), (e _ _ (by omega)).trans hZ0.1, fun r hr => absurd hr (Nat.not_lt_zero _), fun c k hc hk => ?_, fun c k hc hk hm => absurd hm (by omega)⟩)
  rw [e _ _ (by omega), e _ _ (by omega)]
  exact hZ0.2.2 c k hc hk
theorem r_7 (h : R6 L σ) : H_43_323 (tp_new σ) (fun r _ => r = 1) := by
  obtain ⟨pr, sp, u, lim, hN0, hC, hG, h4, hO, h3, hR, hQ, hP⟩ := h
  have hn0 : σ.2.1 = 64 := by rw [hN0]
  have hN : (tp_new σ).2 = (65, 0) := by unfold tp_new; rw [hN0]
  have e : ∀ o k, ¬ o = 64 → (tp_new σ).1 o k = σ.1 o k := fun o k hd => tp_new_ne (by omega)
  have e64 : (tp_new σ).1 64 0 = 0 := by rw [← hn0]; exact tp_new_eq
  refine l_323 (pr := pr) (sp := sp) (u := u) (lim := lim) (L := L) (tr := fun _ => 0) (ty := fun _ => 0) (st := fun _ => 0) (fun _ => rfl) ⟨⟨?_, fun k hk => ?_, ?_, fun t ht => ?_⟩, fun t ht => ?_, ⟨?_, fun k hk => ?_, fun t ht => ?_⟩, SC_fr hC (e _ _ (by omega)), ⟨by omega, ?_, fun i hi => absurd hi (Nat.not_lt_zero _), fun t k ht hk => ?_⟩, ⟨e64, fun i hi => absurd hi (Nat.not_lt_zero _)⟩, fun t k ht hk => ?_⟩
  · rw [e _ _ (by omega)]; exact hG.1
  · rw [e _ _ (by omega), e _ _ (by omega)]
    exact ⟨(hG.2.1 k hk).1, (hG.2.1 k hk).2, (hG.2.2 k hk).2⟩
  · rw [e _ _ (by omega)]; exact h3
  · rw [e _ _ (by omega), e _ _ (by omega)]
    exact ⟨(hR t ht).1, (hR t ht).2.1⟩
  · rw [e _ _ (by omega)]; exact (hR t ht).2.2.1
  · rw [hN]; decide
  · rw [e _ _ (by omega), e _ _ (by omega)]
    exact (hG.2.2 k hk).1
  · rw [e _ _ (by omega), e _ _ (by omega)]
    exact ⟨(hR t ht).2.2.2, hO t ht⟩
  · rw [e _ _ (by omega)]; exact h4
  · rw [e _ _ (by omega), e _ _ (by omega)]
    obtain ⟨w1, w2, w3, w4⟩ := (hQ t k (by omega) hk).1 (by omega)
    have hx : g_nx (fun _ => 0) (fun _ => 0) 0 t k = 50 * t := rfl
    rw [hx]
    exact ⟨w1, w2, by omega, w4⟩
  · rw [e _ _ (by omega), e _ _ (by omega)]
    exact hP t k ht hk (by omega)
end GR
