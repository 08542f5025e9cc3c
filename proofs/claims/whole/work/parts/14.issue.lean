/-! issue -/
theorem tp_rg_of {hi : Nat} {x : Int32} (h0 : 0 ≤ x.toInt) (h1 : x.toInt ≤ (hi : Int)) (hh : hi < 2 ^ 31) : ∃ n : Nat, n ≤ hi ∧ x = nI n := tp_rg_nI ⟨h0, h1⟩ hh
theorem tp_ne {a b : Nat} (ha : a < 1000000) (hb : b < 1000000) : nI a = nI b ↔ a = b := by rw [tp_eq, tp_t ha, tp_t hb]; omega
theorem tp_leN {a b : Nat} (ha : a < 1000000) (hb : b < 1000000) : nI a ≤ nI b ↔ a ≤ b := by rw [tp_le, tp_t ha, tp_t hb]; omega
theorem tp_ltN {a b : Nat} (ha : a < 1000000) (hb : b < 1000000) : nI a < nI b ↔ a < b := by rw [tp_lt, tp_t ha, tp_t hb]; omega
theorem sp_34 {σ : tp_St} {y f g nT nR nS : Nat} (hT : RT σ nT) (hS : RS σ nT nR nS) (hf : f < 1000000) (hg : g < 1000000) : tp_bool 34 [.ref 4, .int (nI y), .int (nI f), .int (nI g), .null] σ (∃ k, k < nS ∧ σ.1 16 k = nI y ∧ (f : Int) ≤ (σ.1 18 k).toInt ∧ (σ.1 18 k).toInt < g) := by
  intro post h1 h0
  obtain ⟨s1, s2, s3, s4⟩ := hS
  refine sg_34_0 _ _ _ ?_
  refine tp_up_loop (E := fun i => (∀ k, k < i → ¬ (σ.1 16 k = nI y ∧ (f : Int) ≤ (σ.1 18 k).toInt ∧ (σ.1 18 k).toInt < g)) → tp_E 34 3 [.ref 4, .int (nI y), .int (nI f), .int (nI g), .int (nI i)] [] σ post) (n := nS) (fun i hi gg hno => ?_) (fun hno => ?_) 0 (Nat.zero_le _) (fun k hk => absurd hk (Nat.not_lt_zero _))
  · have step : ¬ (σ.1 16 i = nI y ∧ (f : Int) ≤ (σ.1 18 i).toInt ∧ (σ.1 18 i).toInt < g) → tp_E 34 3 [.ref 4, .int (nI y), .int (nI f), .int (nI g), .int (nI (i + 1))] [] σ post := fun q => gg (fun k hk => by
      by_cases e : k = i
      · rw [e]; exact q
      · exact hno k (by omega))
    refine sg_34_3 _ _ _ _ ?_
    rw [tp_c (show i < 1000000 by omega), s2]
    simp only [nI_1, tp_lt (b := nI f), tp_le (a := nI g), tp_t hf, tp_t hg]
    exact ⟨fun z => absurd z (tp_nle hi (by omega)), fun _ => ⟨tp_vi (by omega) (by omega), fun z => ⟨tp_vi (by omega) (by omega), fun z2 => step (fun q => by omega), fun z2 => ⟨tp_vi (by omega) (by omega), fun z3 => step (fun q => by omega), fun z3 => h1 ⟨i, hi, z, by omega, by omega⟩⟩⟩, fun z => step (fun q => z q.1)⟩⟩
  · refine sg_34_3 _ _ _ _ ?_
    rw [s2]
    exact ⟨fun _ => h0 (fun ⟨k, hk, q⟩ => hno k hk q), fun z => absurd (tp_le.mpr (Int.le_refl _)) z⟩
/-- another's pack has one of the numbers -/
def tp_oth (σ : tp_St) (c y f g k : Nat) : Prop := k ≠ c ∧ f < g ∧ (f : Int) < (σ.1 (52 + k) y).toInt ∧ (σ.1 (46 + k) y).toInt < g ∧ (σ.1 (46 + k) y).toInt < (σ.1 (52 + k) y).toInt
theorem sp_17 {σ : tp_St} {c y f g : Nat} (hc : c < 6) (hy : y < 5) (hf : f < 1000000) (hg : g < 1000000) : tp_bool 17 [.ref 2, .int (nI c), .int (nI y), .int (nI f), .int (nI g), .null, .null] σ (∃ k, k < 6 ∧ tp_oth σ c y f g k) := by
  intro post h1 h0
  refine sg_17_0 _ _ _ _ ?_
  refine tp_up_loop (E := fun i => (∀ k, k < i → ¬ tp_oth σ c y f g k) → tp_E 17 3 [.ref 2, .int (nI c), .int (nI y), .int (nI f), .int (nI g), .int (nI i), .null] [] σ post) (n := 6) (fun i hi gg hno => ?_) (fun hno => ?_) 0 (Nat.zero_le _) (fun k hk => absurd hk (Nat.not_lt_zero _))
  · have step : ¬ tp_oth σ c y f g i → tp_E 17 3 [.ref 2, .int (nI c), .int (nI y), .int (nI f), .int (nI g), .int (nI (i + 1)), .null] [] σ post := fun q => gg (fun k hk => by
      by_cases e : k = i
      · rw [e]; exact q
      · exact hno k (by omega))
    refine sg_17_3 _ _ _ _ _ ?_
    rw [tp_c (show i < 1000000 by omega), tp_c (show y < 1000000 by omega)]
    simp only [nI_1]
    refine ⟨fun z => absurd z (by rw [show (6 : Int32) = nI 6 from rfl]; exact tp_nle hi (by omega)), fun _ => ⟨tp_vi (by omega) (by omega), tp_vi (by omega) (by omega), fun z => step (fun q => q.1 ?_), fun z => ⟨tp_vi (by omega) (by omega), tp_vi (by omega) (by omega), fun z2 => step (fun q => ?_), fun z2 => h1 ⟨i, hi, ?_⟩⟩⟩⟩
    · rw [tp_ne (by omega) (by omega)] at z; exact z
    · obtain ⟨q1, q2, q3, q4, q5⟩ := q
      have hf2 := tp_t hf
      have hg2 := tp_t hg
      rw [tp_le] at z2
      split at z2 <;> split at z2 <;> (try rw [tp_lt] at *) <;> omega
    · have hf2 := tp_t hf
      have hg2 := tp_t hg
      refine ⟨fun e => z (by rw [e]), ?_⟩
      rw [tp_le] at z2
      split at z2 <;> split at z2 <;> (try rw [tp_lt] at *) <;> omega
  · refine sg_17_3 _ _ _ _ _ ?_
    exact ⟨fun _ => h0 (fun ⟨k, hk, q⟩ => hno k hk q), fun z => absurd (by rw [show (6 : Int32) = nI 6 from rfl]; exact tp_le.mpr (Int.le_refl _)) z⟩
/-- two stores alike in the reference's world -/
def tp_ag (σ τ : tp_St) : Prop := ∀ o k, 58 ≤ o → o < 82 → τ.1 o k = σ.1 o k
theorem tp_ag_rf {σ : tp_St} : tp_ag σ σ := fun _ _ _ _ => rfl
/-- the reference's two loops of issue -/
theorem sp_104 {σ τ : tp_St} {c y f m nT nR nS : Nat} (ag : tp_ag σ τ) (hT : RT σ nT) (hP : RP σ) (hS : RS σ nT nR nS) (hc : c < 6) (hy : y < nT) (hf : f ≤ 100000) (hm : m ≤ 1000) {post : Int32 → tp_St → Prop}
    (h1 : ((∃ k, k < nS ∧ σ.1 16 k = nI y ∧ (f : Int) ≤ (σ.1 18 k).toInt ∧ (σ.1 18 k).toInt < (f + m : Nat)) ∨ ∃ k, k < 6 ∧ tp_oth σ c y f (f + m) k) → post (-2) τ)
    (h0 : ¬ ((∃ k, k < nS ∧ σ.1 16 k = nI y ∧ (f : Int) ≤ (σ.1 18 k).toInt ∧ (σ.1 18 k).toInt < (f + m : Nat)) ∨ ∃ k, k < 6 ∧ tp_oth σ c y f (f + m) k) → post (σ.1 62 (5 * c + y) - σ.1 61 (5 * c + y)) (tp_set (tp_set τ 61 (5 * c + y) (nI f)) 62 (5 * c + y) (nI (f + m)))) :
    tp_E 104 42 [.ref 58, .int (nI c), .int (nI y), .int (nI f), .int (nI m), .int 0, .int 0, .null] [] τ post := by
  obtain ⟨s1, s2, s3, s4⟩ := id hS
  have hT5 := hT.1
  have e61 : ∀ k, τ.1 61 k = σ.1 61 k := fun k => ag _ _ (by decide) (by decide)
  have e62 : ∀ k, τ.1 62 k = σ.1 62 k := fun k => ag _ _ (by decide) (by decide)
  have e67 : ∀ k, τ.1 67 k = σ.1 67 k := fun k => ag _ _ (by decide) (by decide)
  have e69' : ∀ k, τ.1 69 k = σ.1 69 k := fun k => ag _ _ (by decide) (by decide)
  have e58 : τ.1 58 9 = nI nS := (ag _ _ (by decide) (by decide)).trans s3
  have second : ∀ x : Int32, ((x = 0 ∧ ¬ ∃ k, k < nS ∧ σ.1 16 k = nI y ∧ (f : Int) ≤ (σ.1 18 k).toInt ∧ (σ.1 18 k).toInt < (f + m : Nat)) ∨ (x = 1 ∧ ∃ k, k < nS ∧ σ.1 16 k = nI y ∧ (f : Int) ≤ (σ.1 18 k).toInt ∧ (σ.1 18 k).toInt < (f + m : Nat))) → tp_E 104 106 [.ref 58, .int (nI c), .int (nI y), .int (nI f), .int (nI m), .int x, .int 0, .null] [] τ post := by
    intro x hx
    have hx2 : (x = 0 ∧ ¬ ((∃ k, k < nS ∧ σ.1 16 k = nI y ∧ (f : Int) ≤ (σ.1 18 k).toInt ∧ (σ.1 18 k).toInt < (f + m : Nat)) ∨ ∃ k, k < 0 ∧ tp_oth σ c y f (f + m) k)) ∨ (x = 1 ∧ ((∃ k, k < nS ∧ σ.1 16 k = nI y ∧ (f : Int) ≤ (σ.1 18 k).toInt ∧ (σ.1 18 k).toInt < (f + m : Nat)) ∨ ∃ k, k < 0 ∧ tp_oth σ c y f (f + m) k)) := by
      rcases hx with ⟨e, q⟩ | ⟨e, q⟩
      · exact Or.inl ⟨e, fun z => z.elim q (fun ⟨k, hk, _⟩ => absurd hk (Nat.not_lt_zero _))⟩
      · exact Or.inr ⟨e, Or.inl q⟩
    clear hx
    revert x
    refine tp_up_loop (E := fun i => ∀ x : Int32, ((x = 0 ∧ ¬ ((∃ k, k < nS ∧ σ.1 16 k = nI y ∧ (f : Int) ≤ (σ.1 18 k).toInt ∧ (σ.1 18 k).toInt < (f + m : Nat)) ∨ ∃ k, k < i ∧ tp_oth σ c y f (f + m) k)) ∨ (x = 1 ∧ ((∃ k, k < nS ∧ σ.1 16 k = nI y ∧ (f : Int) ≤ (σ.1 18 k).toInt ∧ (σ.1 18 k).toInt < (f + m : Nat)) ∨ ∃ k, k < i ∧ tp_oth σ c y f (f + m) k))) → tp_E 104 106 [.ref 58, .int (nI c), .int (nI y), .int (nI f), .int (nI m), .int x, .int (nI i), .null] [] τ post) (n := 6) (fun i hi gg x hx => ?_) (fun x hx => ?_) 0 (Nat.zero_le _)
    · obtain ⟨p1, p2, p3, p4, p5⟩ := hP i y hi (by omega)
      refine sg_104_106 _ _ _ _ _ _ ?_
      simp only [tp_5c, nI_1, tp_c (show 5 * i + y < 1000000 by omega), nI_add, e61, e62, p1, p2]
      have hv := tp_vi (show 5 * i + y < 30 by omega) (by omega)
      have keep : ¬ tp_oth σ c y f (f + m) i → x = 0 → tp_E 104 106 [.ref 58, .int (nI c), .int (nI y), .int (nI f), .int (nI m), .int 0, .int (nI (i + 1)), .null] [] τ post := fun q e => by
        refine gg 0 (Or.inl ⟨rfl, ?_⟩)
        rcases hx with ⟨-, z⟩ | ⟨z, -⟩
        · rintro (z2 | ⟨k, hk, z2⟩)
          · exact z (Or.inl z2)
          · by_cases ek : k = i
            · rw [ek] at z2; exact q z2
            · exact z (Or.inr ⟨k, by omega, z2⟩)
        · rw [e] at z; exact absurd z (by decide)
      refine ⟨fun z => absurd z (by rw [show (6 : Int32) = nI 6 from rfl]; exact tp_nle hi (by omega)), fun _ => ⟨fun e => ⟨fun z => keep (fun q => q.1 ?_) e, fun z => ⟨hv, fun z2 => keep (fun q => ?_) e, fun z2 => ⟨hv, fun z3 => keep (fun q => ?_) e, fun z3 => ⟨hv, hv, fun z4 => keep (fun q => ?_) e, fun z4 => ⟨fun z5 => keep (fun q => ?_) e, fun z5 => gg 1 (Or.inr ⟨rfl, Or.inr ⟨i, by omega, ?_⟩⟩)⟩⟩⟩⟩⟩, fun e => gg 1 ?_⟩⟩
      · rw [tp_ne (by omega) (by omega)] at z; exact z
      · obtain ⟨q1, q2, q3, q4, q5⟩ := q
        rw [tp_le, tp_t (by omega)] at z2; omega
      · obtain ⟨q1, q2, q3, q4, q5⟩ := q
        rw [tp_le, tp_t (by omega)] at z3; omega
      · obtain ⟨q1, q2, q3, q4, q5⟩ := q
        rw [tp_le] at z4; omega
      · obtain ⟨q1, q2, q3, q4, q5⟩ := q
        rw [tp_le, tp_t (by omega)] at z5
        have : (m : Int) ≤ 0 := z5
        omega
      · rw [tp_le, tp_t (by omega)] at z2 z3
        rw [tp_le] at z4
        rw [tp_le, tp_t (by omega)] at z5
        have z6 : ¬ (m : Int) ≤ 0 := z5
        exact ⟨fun e2 => z (by rw [e2]), by omega, by omega, by omega, by omega⟩
      · rcases hx with ⟨z, -⟩ | ⟨-, z⟩
        · exact absurd z e
        · exact Or.inr ⟨rfl, z.elim Or.inl (fun ⟨k, hk, z2⟩ => Or.inr ⟨k, by omega, z2⟩)⟩
    · refine sg_104_106 _ _ _ _ _ _ ?_
      simp only [tp_5c, tp_c (show 5 * c + y < 1000000 by omega), nI_add, e61, e62]
      have hv := tp_vi (show 5 * c + y < 30 by omega) (by omega)
      refine ⟨fun _ => ⟨fun e => ⟨hv, hv, hv, hv, h0 ?_⟩, fun e => h1 ?_⟩, fun z => absurd (by rw [show (6 : Int32) = nI 6 from rfl]; exact tp_le.mpr (Int.le_refl _)) z⟩
      · rcases hx with ⟨-, z⟩ | ⟨z, -⟩
        · exact z
        · rw [e] at z; exact absurd z (by decide)
      · rcases hx with ⟨z, -⟩ | ⟨-, z⟩
        · exact absurd z e
        · exact z
  have first : ∀ x : Int32, ((x = 0 ∧ ¬ ∃ k, k < 0 ∧ σ.1 16 k = nI y ∧ (f : Int) ≤ (σ.1 18 k).toInt ∧ (σ.1 18 k).toInt < (f + m : Nat)) ∨ (x = 1 ∧ ∃ k, k < 0 ∧ σ.1 16 k = nI y ∧ (f : Int) ≤ (σ.1 18 k).toInt ∧ (σ.1 18 k).toInt < (f + m : Nat))) → tp_E 104 42 [.ref 58, .int (nI c), .int (nI y), .int (nI f), .int (nI m), .int x, .int 0, .null] [] τ post := by
    refine tp_up_loop (E := fun i => ∀ x : Int32, ((x = 0 ∧ ¬ ∃ k, k < i ∧ σ.1 16 k = nI y ∧ (f : Int) ≤ (σ.1 18 k).toInt ∧ (σ.1 18 k).toInt < (f + m : Nat)) ∨ (x = 1 ∧ ∃ k, k < i ∧ σ.1 16 k = nI y ∧ (f : Int) ≤ (σ.1 18 k).toInt ∧ (σ.1 18 k).toInt < (f + m : Nat))) → tp_E 104 42 [.ref 58, .int (nI c), .int (nI y), .int (nI f), .int (nI m), .int x, .int (nI i), .null] [] τ post) (n := nS) (fun i hi gg x hx => ?_) (fun x hx => ?_) 0 (Nat.zero_le _)
    · obtain ⟨-, ⟨w, w1, w2, w3⟩, e69, -, -⟩ := s4 i hi
      refine sg_104_42 _ _ _ _ _ _ ?_
      rw [tp_c (show i < 1000000 by omega), e58]
      simp only [nI_1, nI_add, e67, e69', w3, e69]
      have hv := tp_vi (show i < 200 by omega) (by omega)
      have keep : ¬ (σ.1 16 i = nI y ∧ (f : Int) ≤ (σ.1 18 i).toInt ∧ (σ.1 18 i).toInt < (f + m : Nat)) → x = 0 → tp_E 104 42 [.ref 58, .int (nI c), .int (nI y), .int (nI f), .int (nI m), .int 0, .int (nI (i + 1)), .null] [] τ post := fun q e => by
        refine gg 0 (Or.inl ⟨rfl, ?_⟩)
        rcases hx with ⟨-, z⟩ | ⟨z, -⟩
        · rintro ⟨k, hk, z2⟩
          by_cases ek : k = i
          · rw [ek] at z2; exact q z2
          · exact z ⟨k, by omega, z2⟩
        · rw [e] at z; exact absurd z (by decide)
      refine ⟨fun z => absurd z (tp_nle hi (by omega)), fun _ => ⟨fun e => ⟨hv, fun z => ⟨hv, tp_if (sp_101 tp_i64 (l := f) (by rw [tp_i64, tp_t (by omega)]) (h := (f + m : Nat) - 1) (by rw [tp_i64, tp_pred (by omega)])) (fun z2 => gg 1 (Or.inr ⟨rfl, i, by omega, by rw [w2]; exact z, by omega, by omega⟩)) (fun z2 => keep (fun q => z2 ⟨q.2.1, by omega⟩) e)⟩, fun z => keep (fun q => z (by rw [← w2]; exact q.1)) e⟩, fun e => gg 1 ?_⟩⟩
      rcases hx with ⟨z, -⟩ | ⟨-, k, hk, z⟩
      · exact absurd z e
      · exact Or.inr ⟨rfl, k, by omega, z⟩
    · refine sg_104_42 _ _ _ _ _ _ ?_
      rw [e58]
      exact ⟨fun _ => second x hx, fun z => absurd (tp_le.mpr (Int.le_refl _)) z⟩
  exact first 0 (Or.inl ⟨rfl, fun ⟨k, hk, _⟩ => absurd hk (Nat.not_lt_zero _)⟩)
theorem op_issue {σ : tp_St} {a b f m : Int32} (h : RR_all σ) : tp_E 62 0 [.ref 0, .int a, .int b, .int f, .int m, .null] [] σ (tp_Res 104 [.ref 58, .int a, .int b, .int f, .int m, .null, .null, .null]) := by
  obtain ⟨nT, nR, nS, nB, nD, hT, hP, hR, hS, hH, hA, hL, hD, hK⟩ := id h
  obtain ⟨t1, t2, t3, t4⟩ := id hT
  have bad : (¬ ((0 ≤ a.toInt ∧ a.toInt < 6) ∧ 0 ≤ b.toInt ∧ b.toInt < nT) ∨ ¬ (0 ≤ f.toInt ∧ f.toInt ≤ 100000) ∨ ¬ (0 ≤ m.toInt ∧ m.toInt ≤ 1000)) → tp_Res 104 [.ref 58, .int a, .int b, .int f, .int m, .null, .null, .null] (-1) σ := fun hb =>
    sg_104_0 _ _ _ _ (tp_if (sp_103 t3 (by omega)) (fun p1 => tp_if (sp_101 tp_i64 (l := 0) rfl (h := 100000) rfl) (fun p2 => tp_if (sp_101 tp_i64 (l := 0) rfl (h := 1000) rfl) (fun p3 => by omega) (fun p3 => ⟨rfl, h⟩)) (fun p2 => ⟨rfl, h⟩)) (fun p1 => ⟨rfl, h⟩))
  refine sg_62_0 _ _ _ _ (tp_if (sp_92 t2 (by omega)) (fun q1 => tp_if (sp_91 (l := 0) rfl (h := 100000) rfl) (fun q2 => bad (by omega)) (fun q2 => tp_if (sp_91 (l := 0) rfl (h := 1000) rfl) (fun q3 => bad (by omega)) (fun q3 => ?_))) (fun q1 => bad (Or.inl q1)))
  obtain ⟨c, hc, rfl⟩ := tp_rg_of (x := a) (hi := 5) q1.1.1 (by omega) (by omega)
  obtain ⟨y, hy, rfl⟩ := tp_rg_of (x := b) (hi := nT - 1) q1.2.1 (by omega) (by omega)
  obtain ⟨g, hg, rfl⟩ := tp_rg_of (x := f) (hi := 100000) (by omega) (by omega) (by omega)
  obtain ⟨n, hn, rfl⟩ := tp_rg_of (x := m) (hi := 1000) (by omega) (by omega) (by omega)
  have hyT : y < nT := by have := q1.2.2; rw [tp_t (by omega)] at this; omega
  simp only [nI_add]
  refine tp_if (sp_34 hT hS (by omega) (by omega)) (fun q4 => ?_) (fun q4 => tp_if (sp_17 (show c < 6 by omega) (show y < 5 by omega) (by omega) (by omega)) (fun q5 => ?_) (fun q5 => ?_))
  · refine sg_104_0 _ _ _ _ (tp_if (sp_103 t3 (by omega)) (fun p1 => tp_if (sp_101 tp_i64 (l := 0) rfl (h := 100000) rfl) (fun p2 => tp_if (sp_101 tp_i64 (l := 0) rfl (h := 1000) rfl) (fun p3 => ?_) (fun p3 => by omega)) (fun p2 => by omega)) (fun p1 => absurd q1 p1))
    exact sp_104 tp_ag_rf hT hP hS (by omega) hyT hg hn (fun _ => ⟨rfl, h⟩) (fun z => absurd (Or.inl q4) z)
  · refine sg_104_0 _ _ _ _ (tp_if (sp_103 t3 (by omega)) (fun p1 => tp_if (sp_101 tp_i64 (l := 0) rfl (h := 100000) rfl) (fun p2 => tp_if (sp_101 tp_i64 (l := 0) rfl (h := 1000) rfl) (fun p3 => ?_) (fun p3 => by omega)) (fun p2 => by omega)) (fun p1 => absurd q1 p1))
    exact sp_104 tp_ag_rf hT hP hS (by omega) hyT hg hn (fun _ => ⟨rfl, h⟩) (fun z => absurd (Or.inr q5) z)
  · refine sp_14 (show c < 6 by omega) (show y < 5 by omega) _ ?_
    refine sg_15_0 _ _ _ _ ?_
    rw [tp_c (show c < 1000000 by omega), tp_c (show y < 1000000 by omega)]
    refine ⟨tp_vi (by omega) (by omega), tp_vi (by omega) (by omega), tp_vi (by omega) (by omega), tp_vi (by omega) (by omega), ?_⟩
    refine sg_104_0 _ _ _ _ (tp_if (sp_103 (n := nT) (by rw [tp_sg_ne (by omega), tp_sg_ne (by omega)]; exact t3) (by omega)) (fun p1 => tp_if (sp_101 tp_i64 (l := 0) rfl (h := 100000) rfl) (fun p2 => tp_if (sp_101 tp_i64 (l := 0) rfl (h := 1000) rfl) (fun p3 => ?_) (fun p3 => by omega)) (fun p2 => by omega)) (fun p1 => absurd q1 p1))
    obtain ⟨pp1, pp2, pp3, pp4, pp5⟩ := hP c y (by omega) (by omega)
    refine sp_104 (σ := σ) (fun o k h1 h2 => by rw [tp_sg_ne (by omega), tp_sg_ne (by omega)]) hT hP hS (by omega) hyT hg hn (fun z => absurd z (by rintro (z | z) <;> contradiction)) (fun _ => ⟨by rw [pp1, pp2], nT, nR, nS, nB, nD, RT_fr hT (fun o k hd => (tp_sg_ne (by omega)).trans ((tp_sg_ne (by omega)).trans ((tp_sg_ne (by omega)).trans ((tp_sg_ne (by omega)).trans (rfl))))), ?_, RR_fr hR (fun o k hd => (tp_sg_ne (by omega)).trans ((tp_sg_ne (by omega)).trans ((tp_sg_ne (by omega)).trans ((tp_sg_ne (by omega)).trans (rfl))))), RS_fr hS (Nat.le_refl _) (Nat.le_refl _) (fun o k hd => (tp_sg_ne (by omega)).trans ((tp_sg_ne (by omega)).trans ((tp_sg_ne (by omega)).trans ((tp_sg_ne (by omega)).trans (rfl))))), RH_fr hH (fun o k hd => (tp_sg_ne (by omega)).trans ((tp_sg_ne (by omega)).trans ((tp_sg_ne (by omega)).trans ((tp_sg_ne (by omega)).trans (rfl))))), RA_fr hA (fun o k hd => (tp_sg_ne (by omega)).trans ((tp_sg_ne (by omega)).trans ((tp_sg_ne (by omega)).trans ((tp_sg_ne (by omega)).trans (rfl))))), RLw_fr hL rfl (fun o k hd => (tp_sg_ne (by omega)).trans ((tp_sg_ne (by omega)).trans ((tp_sg_ne (by omega)).trans ((tp_sg_ne (by omega)).trans (rfl))))), RD_fr hD (fun o k hd => (tp_sg_ne (by omega)).trans ((tp_sg_ne (by omega)).trans ((tp_sg_ne (by omega)).trans ((tp_sg_ne (by omega)).trans (rfl))))), RK_fr hK (fun o k hd => (tp_sg_ne (by omega)).trans ((tp_sg_ne (by omega)).trans ((tp_sg_ne (by omega)).trans ((tp_sg_ne (by omega)).trans (rfl)))))⟩)
    intro c' y' hc' hy'
    by_cases e : c' = c ∧ y' = y
    · obtain ⟨rfl, rfl⟩ := e
      have e1 : (tp_set (tp_set (tp_set (tp_set σ (46 + c') y' (nI g)) (52 + c') y' (nI (g + n))) 61 (5 * c' + y') (nI g)) 62 (5 * c' + y') (nI (g + n))).1 61 (5 * c' + y') = nI g := by rw [tp_sg_ne (by omega), tp_sg_eq]
      have e2 : (tp_set (tp_set (tp_set (tp_set σ (46 + c') y' (nI g)) (52 + c') y' (nI (g + n))) 61 (5 * c' + y') (nI g)) 62 (5 * c' + y') (nI (g + n))).1 (46 + c') y' = nI g := by rw [tp_sg_ne (by omega), tp_sg_ne (by omega), tp_sg_ne (by omega), tp_sg_eq]
      have e3 : (tp_set (tp_set (tp_set (tp_set σ (46 + c') y' (nI g)) (52 + c') y' (nI (g + n))) 61 (5 * c' + y') (nI g)) 62 (5 * c' + y') (nI (g + n))).1 (52 + c') y' = nI (g + n) := by rw [tp_sg_ne (by omega), tp_sg_ne (by omega), tp_sg_eq]
      rw [e1, e2, e3, tp_sg_eq, tp_t (by omega), tp_t (by omega)]
      exact ⟨rfl, rfl, by omega, by omega, by omega⟩
    · rw [tp_sg_ne (by omega), tp_sg_ne (by omega), tp_sg_ne (by omega), tp_sg_ne (by omega), tp_sg_ne (by omega), tp_sg_ne (by omega), tp_sg_ne (by omega), tp_sg_ne (by omega), tp_sg_ne (by omega), tp_sg_ne (by omega), tp_sg_ne (by omega), tp_sg_ne (by omega), tp_sg_ne (by omega), tp_sg_ne (by omega), tp_sg_ne (by omega), tp_sg_ne (by omega)]
      exact hP c' y' hc' hy'
