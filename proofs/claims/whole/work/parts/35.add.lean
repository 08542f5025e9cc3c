/-! laws: token by token -/
theorem MS_cl {σ σ' υ : tp_St} {q f w : Nat} (h : MS σ q f w υ) (e : ∀ o k, ((o = q ∧ 5 ≤ k ∧ k ≤ 7) ∨ (tp_lb q ≤ o ∧ o < tp_lb q + 5)) → σ'.1 o k = σ.1 o k) : MS σ' q f w υ := by
  obtain ⟨h1, h2, h3, h4, h5⟩ := h
  refine ⟨h1, h2, by rw [e q 7 (by omega)]; exact h3, fun k hk => ?_, fun k hk => ?_⟩
  · rw [e (tp_lb q) k (by omega), e (tp_lb q + 1) k (by omega)]; exact h4 k hk
  · rw [e (tp_lb q + 2) k (by omega), e (tp_lb q + 3) k (by omega), e (tp_lb q + 4) k (by omega)]; exact h5 k hk
def f' (l f : Nat) : Nat := if l = 0 then f + 1 else f
def w' (l w : Nat) : Nat := if l = 1 then w + 1 else w
theorem MS_ad {σ υ : tp_St} {q l t f w : Nat} (hq : q = 24 ∨ q = 25) (hlt : lt_end l t) (hM : MS σ q f w υ) (hN : MN (σ.1 26) l t f w υ) (hr : l = 2 → tp_rg 0 120 (σ.1 26 0)) : MS (ad_l σ q l f w) q (f' l f) (w' l w) (fin_l l f w (σ.1 26) υ) := by
  have hlb := lb_is hq
  obtain ⟨h1, h2, h3, h4, h5⟩ := hM
  obtain ⟨m1, m2, m3⟩ := hN
  unfold ad_l fin_l f' w'
  rcases hlt with ⟨rfl, rfl⟩ | ⟨rfl, rfl⟩ | ⟨rfl, rfl⟩
  · rw [if_pos rfl, if_pos rfl, if_pos rfl, if_neg (by omega)]
    refine ⟨tp_sg_eq, by rw [tp_sg_ne (by omega), tp_sg_ne (by omega)]; exact h2, ?_, fun k hk => ?_, fun k hk => ?_⟩
    · rw [tp_sg_ne (by omega), tp_sg_ne (by omega), tp_sg_ne (by omega), tp_sg_ne (by omega), tp_sg_ne (by omega)]; exact h3
    · by_cases e : k = f
      · subst e
        have a1 : (tp_set (tp_set υ 77 (2 * k + 1) (σ.1 26 1)) 58 33 (nI (k + 1))).1 77 (2 * k) = σ.1 26 0 := by rw [tp_sg_ne (by omega), tp_sg_ne (by omega)]; exact m1 rfl rfl
        have a2 : (tp_set (tp_set υ 77 (2 * k + 1) (σ.1 26 1)) 58 33 (nI (k + 1))).1 77 (2 * k + 1) = σ.1 26 1 := by rw [tp_sg_ne (by omega), tp_sg_eq]
        have a3 : (tp_set (tp_set (tp_set σ (tp_lb q) k (σ.1 26 0)) (tp_lb q + 1) k (σ.1 26 1)) q 5 (nI (k + 1))).1 (tp_lb q) k = σ.1 26 0 := by rw [tp_sg_ne (by omega), tp_sg_ne (by omega), tp_sg_eq]
        have a4 : (tp_set (tp_set (tp_set σ (tp_lb q) k (σ.1 26 0)) (tp_lb q + 1) k (σ.1 26 1)) q 5 (nI (k + 1))).1 (tp_lb q + 1) k = σ.1 26 1 := by rw [tp_sg_ne (by omega), tp_sg_eq]
        rw [a1, a2, a3, a4]
        exact ⟨rfl, rfl⟩
      · have a1 : ∀ j, j < 2 * f → (tp_set (tp_set υ 77 (2 * f + 1) (σ.1 26 1)) 58 33 (nI (f + 1))).1 77 j = υ.1 77 j := fun j hj => by rw [tp_sg_ne (by omega), tp_sg_ne (by omega)]
        have a3 : ∀ o, tp_lb q ≤ o → o < tp_lb q + 5 → (tp_set (tp_set (tp_set σ (tp_lb q) f (σ.1 26 0)) (tp_lb q + 1) f (σ.1 26 1)) q 5 (nI (f + 1))).1 o k = σ.1 o k := fun o x y => by rw [tp_sg_ne (by omega), tp_sg_ne (by omega), tp_sg_ne (by omega)]
        rw [a1 _ (by omega), a1 _ (by omega), a3 _ (by omega) (by omega), a3 _ (by omega) (by omega)]
        exact h4 k (by omega)
    · have a1 : ∀ j, (tp_set (tp_set υ 77 (2 * f + 1) (σ.1 26 1)) 58 33 (nI (f + 1))).1 78 j = υ.1 78 j := fun j => by rw [tp_sg_ne (by omega), tp_sg_ne (by omega)]
      have a3 : ∀ o, tp_lb q + 2 ≤ o → o < tp_lb q + 5 → (tp_set (tp_set (tp_set σ (tp_lb q) f (σ.1 26 0)) (tp_lb q + 1) f (σ.1 26 1)) q 5 (nI (f + 1))).1 o k = σ.1 o k := fun o x y => by rw [tp_sg_ne (by omega), tp_sg_ne (by omega), tp_sg_ne (by omega)]
      rw [a1, a1, a1, a3 _ (by omega) (by omega), a3 _ (by omega) (by omega), a3 _ (by omega) (by omega)]
      exact h5 k hk
  · rw [if_neg (by omega), if_pos rfl, if_neg (by omega), if_pos rfl, if_neg (by omega), if_pos rfl]
    refine ⟨by rw [tp_sg_ne (by omega), tp_sg_ne (by omega)]; exact h1, tp_sg_eq, ?_, fun k hk => ?_, fun k hk => ?_⟩
    · rw [tp_sg_ne (by omega), tp_sg_ne (by omega), tp_sg_ne (by omega), tp_sg_ne (by omega), tp_sg_ne (by omega), tp_sg_ne (by omega)]; exact h3
    · have a1 : ∀ j, (tp_set (tp_set υ 78 (3 * w + 2) (σ.1 26 2)) 58 34 (nI (w + 1))).1 77 j = υ.1 77 j := fun j => by rw [tp_sg_ne (by omega), tp_sg_ne (by omega)]
      have a3 : ∀ o, tp_lb q ≤ o → o < tp_lb q + 2 → (tp_set (tp_set (tp_set (tp_set σ (tp_lb q + 2) w (σ.1 26 0)) (tp_lb q + 3) w (σ.1 26 1)) (tp_lb q + 4) w (σ.1 26 2)) q 6 (nI (w + 1))).1 o k = σ.1 o k := fun o x y => by rw [tp_sg_ne (by omega), tp_sg_ne (by omega), tp_sg_ne (by omega), tp_sg_ne (by omega)]
      rw [a1, a1, a3 _ (by omega) (by omega), a3 _ (by omega) (by omega)]
      exact h4 k hk
    · by_cases e : k = w
      · subst e
        have a0 : (tp_set (tp_set υ 78 (3 * k + 2) (σ.1 26 2)) 58 34 (nI (k + 1))).1 78 (3 * k) = σ.1 26 0 := by rw [tp_sg_ne (by omega), tp_sg_ne (by omega)]; exact m2 rfl (by omega)
        have a1 : (tp_set (tp_set υ 78 (3 * k + 2) (σ.1 26 2)) 58 34 (nI (k + 1))).1 78 (3 * k + 1) = σ.1 26 1 := by rw [tp_sg_ne (by omega), tp_sg_ne (by omega)]; exact m3 rfl rfl
        have a2 : (tp_set (tp_set υ 78 (3 * k + 2) (σ.1 26 2)) 58 34 (nI (k + 1))).1 78 (3 * k + 2) = σ.1 26 2 := by rw [tp_sg_ne (by omega), tp_sg_eq]
        have b0 : (tp_set (tp_set (tp_set (tp_set σ (tp_lb q + 2) k (σ.1 26 0)) (tp_lb q + 3) k (σ.1 26 1)) (tp_lb q + 4) k (σ.1 26 2)) q 6 (nI (k + 1))).1 (tp_lb q + 2) k = σ.1 26 0 := by rw [tp_sg_ne (by omega), tp_sg_ne (by omega), tp_sg_ne (by omega), tp_sg_eq]
        have b1 : (tp_set (tp_set (tp_set (tp_set σ (tp_lb q + 2) k (σ.1 26 0)) (tp_lb q + 3) k (σ.1 26 1)) (tp_lb q + 4) k (σ.1 26 2)) q 6 (nI (k + 1))).1 (tp_lb q + 3) k = σ.1 26 1 := by rw [tp_sg_ne (by omega), tp_sg_ne (by omega), tp_sg_eq]
        have b2 : (tp_set (tp_set (tp_set (tp_set σ (tp_lb q + 2) k (σ.1 26 0)) (tp_lb q + 3) k (σ.1 26 1)) (tp_lb q + 4) k (σ.1 26 2)) q 6 (nI (k + 1))).1 (tp_lb q + 4) k = σ.1 26 2 := by rw [tp_sg_ne (by omega), tp_sg_eq]
        rw [a0, a1, a2, b0, b1, b2]
        exact ⟨rfl, rfl, rfl⟩
      · have a1 : ∀ j, j < 3 * w → (tp_set (tp_set υ 78 (3 * w + 2) (σ.1 26 2)) 58 34 (nI (w + 1))).1 78 j = υ.1 78 j := fun j hj => by rw [tp_sg_ne (by omega), tp_sg_ne (by omega)]
        have a3 : ∀ o, tp_lb q ≤ o → o < tp_lb q + 5 → (tp_set (tp_set (tp_set (tp_set σ (tp_lb q + 2) w (σ.1 26 0)) (tp_lb q + 3) w (σ.1 26 1)) (tp_lb q + 4) w (σ.1 26 2)) q 6 (nI (w + 1))).1 o k = σ.1 o k := fun o x y => by rw [tp_sg_ne (by omega), tp_sg_ne (by omega), tp_sg_ne (by omega), tp_sg_ne (by omega)]
        rw [a1 _ (by omega), a1 _ (by omega), a1 _ (by omega), a3 _ (by omega) (by omega), a3 _ (by omega) (by omega), a3 _ (by omega) (by omega)]
        exact h5 k (by omega)
  · rw [if_neg (by omega), if_neg (by omega), if_neg (by omega), if_neg (by omega), if_neg (by omega), if_neg (by omega)]
    refine ⟨by rw [tp_sg_ne (by omega)]; exact h1, by rw [tp_sg_ne (by omega)]; exact h2, Or.inr ?_, fun k hk => ?_, fun k hk => ?_⟩
    · rw [tp_sg_eq, tp_sg_eq]
      obtain ⟨m, hm, em⟩ := tp_rg_nI (hi := 120) (hr rfl) (by omega)
      exact ⟨m, hm, em, em⟩
    · rw [tp_sg_ne (by omega), tp_sg_ne (by omega), tp_sg_ne (by omega), tp_sg_ne (by omega)]; exact h4 k hk
    · rw [tp_sg_ne (by omega), tp_sg_ne (by omega), tp_sg_ne (by omega), tp_sg_ne (by omega), tp_sg_ne (by omega), tp_sg_ne (by omega)]; exact h5 k hk
theorem CV_ad {σ : tp_St} {q l t f w : Nat} (hq : q = 24 ∨ q = 25) (hlt : lt_end l t) (hV : CV σ q f w) (hr : rmc σ q l f w) (hn : ∀ j, j < t → tp_in (b_lo l j) (b_hi l j) (σ.1 26 j)) : CV (ad_l σ q l f w) q (f' l f) (w' l w) := by
  have hlb := lb_is hq
  obtain ⟨h1, h2, h3, h4, h5, h6, h7⟩ := hV
  unfold rmc at hr
  unfold ad_l f' w'
  rcases hlt with ⟨rfl, rfl⟩ | ⟨rfl, rfl⟩ | ⟨rfl, rfl⟩
  · rw [if_pos rfl, if_pos rfl, if_neg (by omega)]
    have n0 : tp_rg 1 9 (σ.1 26 0) := hn 0 (by omega)
    have n1 : tp_rg 1 999 (σ.1 26 1) := hn 1 (by omega)
    refine ⟨tp_sg_eq, by omega, ?_, h4, ?_, fun k hk => ?_, fun k hk => ?_⟩
    · rw [tp_sg_ne (by omega), tp_sg_ne (by omega), tp_sg_ne (by omega)]; exact h3
    · rw [tp_sg_ne (by omega), tp_sg_ne (by omega), tp_sg_ne (by omega)]; exact h5
    · by_cases e : k = f
      · subst e
        have a3 : (tp_set (tp_set (tp_set σ (tp_lb q) k (σ.1 26 0)) (tp_lb q + 1) k (σ.1 26 1)) q 5 (nI (k + 1))).1 (tp_lb q) k = σ.1 26 0 := by rw [tp_sg_ne (by omega), tp_sg_ne (by omega), tp_sg_eq]
        have a4 : (tp_set (tp_set (tp_set σ (tp_lb q) k (σ.1 26 0)) (tp_lb q + 1) k (σ.1 26 1)) q 5 (nI (k + 1))).1 (tp_lb q + 1) k = σ.1 26 1 := by rw [tp_sg_ne (by omega), tp_sg_eq]
        rw [a3, a4]
        exact ⟨n0, n1⟩
      · rw [tp_sg_ne (by omega), tp_sg_ne (by omega), tp_sg_ne (by omega), tp_sg_ne (by omega), tp_sg_ne (by omega), tp_sg_ne (by omega)]
        exact h6 k (by omega)
    · have a3 : ∀ o, tp_lb q + 2 ≤ o → o < tp_lb q + 5 → (tp_set (tp_set (tp_set σ (tp_lb q) f (σ.1 26 0)) (tp_lb q + 1) f (σ.1 26 1)) q 5 (nI (f + 1))).1 o k = σ.1 o k := fun o x y => by rw [tp_sg_ne (by omega), tp_sg_ne (by omega), tp_sg_ne (by omega)]
      rw [a3 _ (by omega) (by omega), a3 _ (by omega) (by omega), a3 _ (by omega) (by omega)]
      exact h7 k hk
  · rw [if_neg (by omega), if_pos rfl, if_neg (by omega), if_pos rfl]
    have n0 : tp_rg 0 23 (σ.1 26 0) := hn 0 (by omega)
    have n1 : tp_rg 1 24 (σ.1 26 1) := hn 1 (by omega)
    have n2 : tp_rg 0 100 (σ.1 26 2) := hn 2 (by omega)
    refine ⟨?_, h2, tp_sg_eq, by omega, ?_, fun k hk => ?_, fun k hk => ?_⟩
    · rw [tp_sg_ne (by omega), tp_sg_ne (by omega), tp_sg_ne (by omega), tp_sg_ne (by omega)]; exact h1
    · rw [tp_sg_ne (by omega), tp_sg_ne (by omega), tp_sg_ne (by omega), tp_sg_ne (by omega)]; exact h5
    · have a3 : ∀ o, tp_lb q ≤ o → o < tp_lb q + 2 → (tp_set (tp_set (tp_set (tp_set σ (tp_lb q + 2) w (σ.1 26 0)) (tp_lb q + 3) w (σ.1 26 1)) (tp_lb q + 4) w (σ.1 26 2)) q 6 (nI (w + 1))).1 o k = σ.1 o k := fun o x y => by rw [tp_sg_ne (by omega), tp_sg_ne (by omega), tp_sg_ne (by omega), tp_sg_ne (by omega)]
      rw [a3 _ (by omega) (by omega), a3 _ (by omega) (by omega)]
      exact h6 k hk
    · by_cases e : k = w
      · subst e
        have b0 : (tp_set (tp_set (tp_set (tp_set σ (tp_lb q + 2) k (σ.1 26 0)) (tp_lb q + 3) k (σ.1 26 1)) (tp_lb q + 4) k (σ.1 26 2)) q 6 (nI (k + 1))).1 (tp_lb q + 2) k = σ.1 26 0 := by rw [tp_sg_ne (by omega), tp_sg_ne (by omega), tp_sg_ne (by omega), tp_sg_eq]
        have b1 : (tp_set (tp_set (tp_set (tp_set σ (tp_lb q + 2) k (σ.1 26 0)) (tp_lb q + 3) k (σ.1 26 1)) (tp_lb q + 4) k (σ.1 26 2)) q 6 (nI (k + 1))).1 (tp_lb q + 3) k = σ.1 26 1 := by rw [tp_sg_ne (by omega), tp_sg_ne (by omega), tp_sg_eq]
        have b2 : (tp_set (tp_set (tp_set (tp_set σ (tp_lb q + 2) k (σ.1 26 0)) (tp_lb q + 3) k (σ.1 26 1)) (tp_lb q + 4) k (σ.1 26 2)) q 6 (nI (k + 1))).1 (tp_lb q + 4) k = σ.1 26 2 := by rw [tp_sg_ne (by omega), tp_sg_eq]
        rw [b0, b1, b2]
        exact ⟨n0, n1, n2⟩
      · have a3 : ∀ o, tp_lb q ≤ o → o < tp_lb q + 5 → (tp_set (tp_set (tp_set (tp_set σ (tp_lb q + 2) w (σ.1 26 0)) (tp_lb q + 3) w (σ.1 26 1)) (tp_lb q + 4) w (σ.1 26 2)) q 6 (nI (w + 1))).1 o k = σ.1 o k := fun o x y => by rw [tp_sg_ne (by omega), tp_sg_ne (by omega), tp_sg_ne (by omega), tp_sg_ne (by omega)]
        rw [a3 _ (by omega) (by omega), a3 _ (by omega) (by omega), a3 _ (by omega) (by omega)]
        exact h7 k (by omega)
  · rw [if_neg (by omega), if_neg (by omega), if_neg (by omega), if_neg (by omega)]
    have n0 : tp_rg 0 120 (σ.1 26 0) := hn 0 (by omega)
    refine ⟨?_, h2, ?_, h4, Or.inr ?_, fun k hk => ?_, fun k hk => ?_⟩
    · rw [tp_sg_ne (by omega)]; exact h1
    · rw [tp_sg_ne (by omega)]; exact h3
    · rw [tp_sg_eq]
      obtain ⟨m, hm, em⟩ := tp_rg_nI (hi := 120) n0 (by omega)
      exact ⟨m, hm, em⟩
    · rw [tp_sg_ne (by omega), tp_sg_ne (by omega)]; exact h6 k hk
    · rw [tp_sg_ne (by omega), tp_sg_ne (by omega), tp_sg_ne (by omega)]; exact h7 k hk
theorem kC_ad {g σ : tp_St} {q l f w : Nat} (h : kC g q σ) (hq : q = 24 ∨ q = 25) : kC g q (ad_l σ q l f w) := by
  have hlb := lb_is hq
  unfold ad_l
  split
  · exact kC_set (kC_set (kC_set h (by unfold cfr; omega)) (by unfold cfr; omega)) (by unfold cfr; omega)
  · split
    · exact kC_set (kC_set (kC_set (kC_set h (by unfold cfr; omega)) (by unfold cfr; omega)) (by unfold cfr; omega)) (by unfold cfr; omega)
    · exact kC_set h (by unfold cfr; omega)
theorem ad_ne {σ : tp_St} {q l f w o k : Nat} (hq : q = 24 ∨ q = 25) (h : o = 6 ∨ o = 19 ∨ o = 26) : (ad_l σ q l f w).1 o k = σ.1 o k := by
  have hlb := lb_is hq
  unfold ad_l
  split
  · rw [tp_sg_ne (by omega), tp_sg_ne (by omega), tp_sg_ne (by omega)]
  · split
    · rw [tp_sg_ne (by omega), tp_sg_ne (by omega), tp_sg_ne (by omega), tp_sg_ne (by omega)]
    · rw [tp_sg_ne (by omega)]
