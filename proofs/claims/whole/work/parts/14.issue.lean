/-! issue -/
theorem tp_rg_of {hi : Nat} {x : Int32} (h0 : 0 ≤ x.toInt) (h1 : x.toInt ≤ (hi : Int)) (hh : hi < 2 ^ 31) : ∃ n : Nat, n ≤ hi ∧ x = nI n := tp_rg_nI ⟨h0, h1⟩ hh
theorem tp_ne {a b : Nat} (ha : a < 1000000) (hb : b < 1000000) : nI a = nI b ↔ a = b := by rw [tp_eq, tp_t ha, tp_t hb]; omega
theorem tp_leN {a b : Nat} (ha : a < 1000000) (hb : b < 1000000) : nI a ≤ nI b ↔ a ≤ b := by rw [tp_le, tp_t ha, tp_t hb]; omega
theorem tp_ltN {a b : Nat} (ha : a < 1000000) (hb : b < 1000000) : nI a < nI b ↔ a < b := by rw [tp_lt, tp_t ha, tp_t hb]; omega
theorem sp_34 {σ : tp_St} {y f g nT nR nS : Nat} (hT : RT σ nT) (hS : RS σ nT nR nS) (hf : f < 1000000) (hg : g < 1000000) : tp_bool 34 [.ref 4, .int (nI y), .int (nI f), .int (nI g), .null] σ (∃ k, k < nS ∧ σ.1 16 k = nI y ∧ (f : Int) ≤ (σ.1 18 k).toInt ∧ (σ.1 18 k).toInt < g) := by
  intro post h1 h0
  obtain ⟨s1, s2, s3, s4⟩ := hS
  refine sg_34_0 _ _ _ ?_
  refine tp_up_loop (E := fun i => (∀ k, k < i → ¬ (σ.1 16 k = nI y ∧ (f : Int) ≤ (σ.1 18 k).toInt ∧ (σ.1 18 k).toInt < g)) → tp_E 34 3 [.ref 4, .int (nI y), .int (nI f), .int (nI g), .int (nI i)] [] σ post) (n := nS) (fun i hi gg hno => ?_) (fun hno => ?_) 0 (Nat.zero_le _) (fun k hk => absurd hk (Nat.not_lt_zero _))
  · have step : ¬ (σ.1 16 i = nI y ∧ (f : Int) ≤ (σ.1 18 i).toInt ∧ (σ.1 18 i).toInt < g) → tp_E 34 3 [.ref 4, .int (nI y), .int (nI f), .int (nI g), .int (nI (i + 1))] [] σ post := fun q => gg (fun k hk => by
      by_cases e : k = i
      · rw [e]; exact q
      · exact hno k (by omega))
    refine sg_34_3 _ _ _ _ ?_
    rw [tp_c (show i < 1000000 by omega), s2]
    simp only [nI_1, tp_lt (b := nI f), tp_le (a := nI g), tp_t hf, tp_t hg]
    exact ⟨fun z => absurd z (tp_nle hi (by omega)), fun _ => ⟨tp_vi (by omega) (by omega), fun z => ⟨tp_vi (by omega) (by omega), fun z2 => step (fun q => by omega), fun z2 => ⟨tp_vi (by omega) (by omega), fun z3 => step (fun q => by omega), fun z3 => h1 ⟨i, hi, z, by omega, by omega⟩⟩⟩, fun z => step (fun q => z q.1)⟩⟩
  · refine sg_34_3 _ _ _ _ ?_
    rw [s2]
    exact ⟨fun _ => h0 (fun ⟨k, hk, q⟩ => hno k hk q), fun z => absurd (tp_le.mpr (Int.le_refl _)) z⟩
/-- another's pack has one of the numbers -/
def tp_oth (σ : tp_St) (c y f g k : Nat) : Prop := k ≠ c ∧ f < g ∧ (f : Int) < (σ.1 (52 + k) y).toInt ∧ (σ.1 (46 + k) y).toInt < g ∧ (σ.1 (46 + k) y).toInt < (σ.1 (52 + k) y).toInt
theorem sp_17 {σ : tp_St} {c y f g : Nat} (hc : c < 6) (hy : y < 5) (hf : f < 1000000) (hg : g < 1000000) : tp_bool 17 [.ref 2, .int (nI c), .int (nI y), .int (nI f), .int (nI g), .null, .null] σ (∃ k, k < 6 ∧ tp_oth σ c y f g k) := by
  intro post h1 h0
  refine sg_17_0 _ _ _ _ ?_
  refine tp_up_loop (E := fun i => (∀ k, k < i → ¬ tp_oth σ c y f g k) → tp_E 17 3 [.ref 2, .int (nI c), .int (nI y), .int (nI f), .int (nI g), .int (nI i), .null] [] σ post) (n := 6) (fun i hi gg hno => ?_) (fun hno => ?_) 0 (Nat.zero_le _) (fun k hk => absurd hk (Nat.not_lt_zero _))
  · have step : ¬ tp_oth σ c y f g i → tp_E 17 3 [.ref 2, .int (nI c), .int (nI y), .int (nI f), .int (nI g), .int (nI (i + 1)), .null] [] σ post := fun q => gg (fun k hk => by
      by_cases e : k = i
      · rw [e]; exact q
      · exact hno k (by omega))
    refine sg_17_3 _ _ _ _ _ ?_
    rw [tp_c (show i < 1000000 by omega), tp_c (show y < 1000000 by omega)]
    simp only [nI_1]
    refine ⟨fun z => absurd z (by rw [show (6 : Int32) = nI 6 from rfl]; exact tp_nle hi (by omega)), fun _ => ⟨tp_vi (by omega) (by omega), tp_vi (by omega) (by omega), fun z => step (fun q => q.1 ?_), fun z => ⟨tp_vi (by omega) (by omega), tp_vi (by omega) (by omega), fun z2 => step (fun q => ?_), fun z2 => h1 ⟨i, hi, ?_⟩⟩⟩⟩
    · rw [tp_ne (by omega) (by omega)] at z; exact z
    · obtain ⟨q1, q2, q3, q4, q5⟩ := q
      have hf2 := tp_t hf
      have hg2 := tp_t hg
      rw [tp_le] at z2
      split at z2 <;> split at z2 <;> (try rw [tp_lt] at *) <;> omega
    · have hf2 := tp_t hf
      have hg2 := tp_t hg
      refine ⟨fun e => z (by rw [e]), ?_⟩
      rw [tp_le] at z2
      split at z2 <;> split at z2 <;> (try rw [tp_lt] at *) <;> omega
  · refine sg_17_3 _ _ _ _ _ ?_
    exact ⟨fun _ => h0 (fun ⟨k, hk, q⟩ => hno k hk q), fun z => absurd (by rw [show (6 : Int32) = nI 6 from rfl]; exact tp_le.mpr (Int.le_refl _)) z⟩
