/-! the store as the constructor leaves it; ro: what is only read -/
def s_i (ro : Nat → Nat → Int32) : tp_St := (fun o k => if 82 ≤ o then ro o k else if (20 ≤ o ∧ o < 24) ∧ k = 2 then -1 else if (o = 24 ∨ o = 25) ∧ k = 7 then -1 else if o = 7 ∧ k = 6 then 30 else 0, (58, 0))
theorem s_i0 {ro : Nat → Nat → Int32} {o k : Nat} (h : o < 82 ∧ ¬ ((20 ≤ o ∧ o < 24) ∧ k = 2) ∧ ¬ ((o = 24 ∨ o = 25) ∧ k = 7) ∧ ¬ (o = 7 ∧ k = 6)) : (s_i ro).1 o k = 0 := by
  show (if 82 ≤ o then ro o k else if (20 ≤ o ∧ o < 24) ∧ k = 2 then -1 else if (o = 24 ∨ o = 25) ∧ k = 7 then -1 else if o = 7 ∧ k = 6 then 30 else 0) = 0
  rw [if_neg (by omega), if_neg (by omega), if_neg (by omega), if_neg (by omega)]
theorem s_i_ro {ro : Nat → Nat → Int32} {o k : Nat} (h : 82 ≤ o) : (s_i ro).1 o k = ro o k := if_pos h
/-- behind the constructor -/
def R0 (L : Nat) (σ : tp_St) : Prop := σ.2 = (58, 0) ∧ SC L σ ∧ GZ σ ∧ σ.1 1 2 = 0
theorem s_i_R {ro : Nat → Nat → Int32} {L : Nat} (h : ro 89 0 = nI L) (hL : L < 1000000) : R0 L (s_i ro) := by
  refine ⟨rfl, ⟨(s_i_ro (by decide)).trans h, hL⟩, ⟨s_i0 (by omega), s_i0 (by omega), fun c k hc hk => ⟨fun z => absurd z (by omega), fun _ => ⟨s_i0 (by omega), s_i0 (by omega)⟩⟩⟩, s_i0 (by omega)⟩
theorem r_0 {L : Nat} {σ : tp_St} (h : R0 L σ) : H_43_11 (tp_new σ) (fun r σ' => r = 43 ∧ R1 L σ') := by
  obtain ⟨hN0, hC0, hZ0, hT0⟩ := h
  have hn0 : σ.2.1 = 58 := by rw [hN0]
  have e : ∀ o k, ¬ o = 58 → (tp_new σ).1 o k = σ.1 o k := fun o k hd => tp_new_ne (by omega)
  exact r_1 (by unfold tp_new; rw [hN0]) (SC_fr hC0 (e _ _ (by omega))) (GZ_fr hZ0 (fun o k hd => e _ _ (by omega))) ((e _ _ (by omega)).trans hT0)
