/-! the stores as the constructors leave them; ro: what is only read -/
def s_i (ro : Nat → Nat → Int32) : tp_St := (fun o k => if 82 ≤ o then ro o k else if (20 ≤ o ∧ o < 24) ∧ k = 2 then -1 else if (o = 24 ∨ o = 25) ∧ k = 7 then -1 else if o = 7 ∧ k = 6 then 30 else if o = 70 ∧ k < 4 then -4 else if o = 58 ∧ k = 24 then -4 else if o = 58 ∧ k = 41 then 30 else 0, (24, 25))
theorem s_i0 {ro : Nat → Nat → Int32} {o k : Nat} (h : o < 82 ∧ ¬ ((20 ≤ o ∧ o < 24) ∧ k = 2) ∧ ¬ ((o = 24 ∨ o = 25) ∧ k = 7) ∧ ¬ (o = 7 ∧ k = 6) ∧ ¬ (o = 70 ∧ k < 4) ∧ ¬ (o = 58 ∧ (k = 24 ∨ k = 41))) : (s_i ro).1 o k = 0 := by
  show (if 82 ≤ o then ro o k else if (20 ≤ o ∧ o < 24) ∧ k = 2 then -1 else if (o = 24 ∨ o = 25) ∧ k = 7 then -1 else if o = 7 ∧ k = 6 then 30 else if o = 70 ∧ k < 4 then -4 else if o = 58 ∧ k = 24 then -4 else if o = 58 ∧ k = 41 then 30 else 0) = 0
  rw [if_neg (by omega), if_neg (by omega), if_neg (by omega), if_neg (by omega), if_neg (by omega), if_neg (by omega), if_neg (by omega)]
theorem s_i_ro {ro : Nat → Nat → Int32} {o k : Nat} (h : 82 ≤ o) : (s_i ro).1 o k = ro o k := if_pos h
theorem s_i_RR {ro : Nat → Nat → Int32} (h1 : ro 91 0 = 2 ∧ ro 91 1 = 3 ∧ ro 91 2 = 1) (h2 : ∀ k, k < 9 → ro 92 k = [1, 1, 0, 0, 1, 0, 0, 0, 0].getD k 0) (h3 : ∀ k, k < 9 → ro 93 k = [9, 999, 0, 23, 24, 100, 120, 0, 0].getD k 0) : RR_all (s_i ro) := by
  have z := fun {o k : Nat} => s_i0 (ro := ro) (o := o) (k := k)
  refine ⟨0, 0, 0, 0, 0, ⟨by omega, z (by omega), z (by omega), fun k hk => absurd hk (Nat.not_lt_zero k)⟩, fun c t hc ht => ?_, ⟨by omega, z (by omega), z (by omega), fun k hk => absurd hk (Nat.not_lt_zero k)⟩, ⟨by omega, z (by omega), z (by omega), fun k hk => absurd hk (Nat.not_lt_zero k)⟩, ⟨fun k hk => Or.inl ⟨?_, ?_⟩, fun k j hk hj => ?_⟩, ⟨by omega, z (by omega), z (by omega), fun k hk => absurd hk (Nat.not_lt_zero k)⟩, ⟨Or.inl rfl, ?_, 0, 0, by omega, by omega, z (o := 24) (by omega), z (by omega), z (o := 24) (by omega), z (by omega), fun k hk => absurd hk (Nat.not_lt_zero k), fun k hk => absurd hk (Nat.not_lt_zero k), Or.inl ⟨rfl, rfl, z (by omega)⟩⟩, ⟨⟨by omega, z (by omega), z (by omega), fun k hk => absurd hk (Nat.not_lt_zero k), rfl, (show (0 : Int) ≤ (30 : Int32).toInt by decide), (show (30 : Int32).toInt ≤ (600 : Int) by decide)⟩, z (by omega), fun k hk => absurd hk (Nat.not_lt_zero k)⟩, h1, h2, h3⟩
  · rw [z (o := 61) (by omega), z (o := 62) (by omega), z (o := 46 + c) (by omega), z (o := 52 + c) (by omega)]
    exact ⟨rfl, rfl, by decide, by decide, by decide⟩
  · show (if 82 ≤ 70 then ro 70 k else if (20 ≤ 70 ∧ 70 < 24) ∧ k = 2 then -1 else if (70 = 24 ∨ 70 = 25) ∧ k = 7 then -1 else if 70 = 7 ∧ k = 6 then 30 else if 70 = 70 ∧ k < 4 then -4 else if 70 = 58 ∧ k = 24 then -4 else if 70 = 58 ∧ k = 41 then 30 else 0) = (-4 : Int32)
    rw [if_neg (by omega), if_neg (by omega), if_neg (by omega), if_neg (by omega), if_pos ⟨rfl, hk⟩]
  · show (if 82 ≤ 20 + k then ro (20 + k) 2 else if (20 ≤ 20 + k ∧ 20 + k < 24) ∧ 2 = 2 then -1 else if (20 + k = 24 ∨ 20 + k = 25) ∧ 2 = 7 then -1 else if 20 + k = 7 ∧ 2 = 6 then 30 else if 20 + k = 70 ∧ 2 < 4 then -4 else if 20 + k = 58 ∧ 2 = 24 then -4 else if 20 + k = 58 ∧ 2 = 41 then 30 else 0) = (-1 : Int32)
    rw [if_neg (by omega), if_pos ⟨by omega, rfl⟩]
  · rw [z (o := 72) (by omega), z (o := 32 + k) (by omega)]
  · rw [z (o := 6) (by omega), z (o := 58) (by omega)]
