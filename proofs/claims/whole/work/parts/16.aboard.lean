/-! who is aboard -/
def ct (p : Nat → Bool) : Nat → Nat
  | 0 => 0
  | n + 1 => if p n = true then ct p n + 1 else ct p n
theorem ct_le {p : Nat → Bool} : ∀ n, ct p n ≤ n
  | 0 => Nat.le_refl _
  | n + 1 => by
    unfold ct
    have := ct_le (p := p) n
    split <;> omega
def sm (f : Nat → Nat) : Nat → Nat
  | 0 => 0
  | n + 1 => sm f n + f n
theorem sm_add {f g : Nat → Nat} : ∀ n, sm (fun r => f r + g r) n = sm f n + sm g n
  | 0 => rfl
  | n + 1 => by
    unfold sm
    rw [sm_add n]
    omega
theorem sm_congr {f g : Nat → Nat} : ∀ {n}, (∀ r, r < n → f r = g r) → sm f n = sm g n
  | 0, _ => rfl
  | n + 1, h => by
    unfold sm
    rw [sm_congr (n := n) (fun r hr => h r (by omega)), h n (by omega)]
theorem sm_one {q : Bool} {t : Nat} : ∀ m, sm (fun r => if r = t ∧ q = true then 1 else 0) m = if t < m ∧ q = true then 1 else 0
  | 0 => by unfold sm; rw [if_neg (by omega)]
  | m + 1 => by
    unfold sm
    rw [sm_one m]
    cases q with
    | false => simp
    | true =>
      by_cases h : t < m
      · rw [if_pos ⟨h, rfl⟩, if_neg (by omega), if_pos ⟨by omega, rfl⟩]
      · by_cases h2 : m = t
        · rw [if_neg (fun z => h z.1), if_pos ⟨h2, rfl⟩, if_pos ⟨by omega, rfl⟩]
        · rw [if_neg (fun z => h z.1), if_neg (fun z => h2 z.1), if_neg (fun z => by omega)]
theorem sm_ct {q : Nat → Bool} {tr : Nat → Nat} {p : Nat → Bool} {m : Nat} : ∀ {n}, (∀ k, k < n → tr k < m) → sm (fun r => if q r = true then ct (fun k => decide (tr k = r) && p k) n else 0) m = ct (fun k => q (tr k) && p k) n
  | 0, _ => by
    unfold ct
    have : ∀ m, sm (fun r => if q r = true then (0 : Nat) else 0) m = 0 := by
      intro m
      induction m with
      | zero => rfl
      | succ m ih => unfold sm; rw [ih]; split <;> rfl
    exact this m
  | n + 1, h => by
    have ih := sm_ct (q := q) (tr := tr) (p := p) (m := m) (n := n) (fun k hk => h k (by omega))
    have e : sm (fun r => if q r = true then ct (fun k => decide (tr k = r) && p k) (n + 1) else 0) m = sm (fun r => (if q r = true then ct (fun k => decide (tr k = r) && p k) n else 0) + (if r = tr n ∧ (q (tr n) && p n) = true then 1 else 0)) m := by
      refine sm_congr (fun r _ => ?_)
      conv => lhs; unfold ct
      by_cases hq : q r = true
      · rw [if_pos hq, if_pos hq]
        by_cases hr : r = tr n
        · subst hr
          rw [hq]
          cases p n <;> simp
        · simp [hr, show ¬ tr n = r from fun z => hr z.symm]
      · rw [if_neg hq, if_neg hq]
        by_cases hr : r = tr n
        · subst hr
          simp [hq]
        · rw [if_neg (fun z => hr z.1)]
    rw [e, sm_add, ih, sm_one]
    conv => rhs; unfold ct
    have := h n (by omega)
    by_cases hq : (q (tr n) && p n) = true
    · rw [if_pos ⟨this, hq⟩, if_pos hq]
    · rw [if_neg (fun z => hq z.2), if_neg hq]; rfl
def ab_b (σ : tp_St) (t : Nat) (s : Int32) : Int32 := if σ.1 13 t = 0 then 8 - s else s
abbrev ab_g (σ : tp_St) (k : Nat) (b : Int32) : Prop := σ.1 17 k ≤ b ∧ b < σ.1 17 k + σ.1 9 (σ.1 16 k).toNatClampNeg
def ab_p (σ : tp_St) (s w : Int32) (k : Nat) : Bool := if w = 0 then decide (σ.1 17 k = ab_b σ (σ.1 15 k).toNatClampNeg s) else decide (ab_g σ k (ab_b σ (σ.1 15 k).toNatClampNeg s))
def ab_c (σ : tp_St) (t s w : Int32) (n : Nat) : Nat := ct (fun k => decide (σ.1 15 k = t) && ab_p σ s w k) n
theorem sp_58 {σ : tp_St} {t : Nat} {s : Int32} (ht : t < 16) : tp_val 58 [.ref 3, .int (nI t), .int s] σ (ab_b σ t s) := by
  intro post hp
  refine sg_58_0 _ _ ?_
  rw [tp_c (show t < 1000000 by omega)]
  unfold ab_b at hp
  refine ⟨tp_vi ht (by omega), fun z => ?_, fun z => ?_⟩
  · rw [if_pos z] at hp; exact hp
  · rw [if_neg z] at hp; exact hp
theorem sp_96 {σ : tp_St} {k nT nR nS : Nat} {b : Int32} (hT : RT σ nT) (hS : RS σ nT nR nS) (hk : k < nS) : tp_bool 96 [.ref 0, .int (nI k), .int b, .null] σ (ab_g σ k b) := by
  intro post h1 h0
  obtain ⟨-, ⟨y, y1, y2, y3⟩, -⟩ := hS.2.2.2 k hk
  have := hT.1
  have := hS.1
  unfold ab_g at h1 h0
  refine sg_96_0 _ _ ?_
  rw [tp_c (show k < 1000000 by omega)]
  refine ⟨tp_vi (by omega) (by omega), fun z => h0 (fun z2 => ?_), fun z => ⟨tp_vi (by omega) (by omega), by rw [y2]; exact tp_vi (by omega) (by omega), fun z2 => h0 (fun z3 => ?_), fun z2 => h1 ?_⟩⟩
  · rw [tp_lt] at z; have := z2.1; rw [tp_le] at this; omega
  · rw [tp_le] at z2; have := z3.2; rw [tp_lt] at this; omega
  · rw [tp_lt] at z; rw [tp_le] at z2; rw [tp_le, tp_lt]; omega
theorem tp_nb0 : narrow .boolean (.int 0) = .int 0 := by decide +kernel
theorem tp_nb1 : narrow .boolean (.int 1) = .int 1 := by decide +kernel
theorem sp_95 {σ : tp_St} {k nT nR nS : Nat} {s w : Int32} (hT : RT σ nT) (hR : RR σ nR) (hS : RS σ nT nR nS) (hk : k < nS) : tp_bool 95 [.ref 0, .int (nI k), .int s, .int w, .null] σ (ab_p σ s w k = true) := by
  intro post h1 h0
  obtain ⟨⟨u, u1, u2, u3, u4⟩, -⟩ := hS.2.2.2 k hk
  have := hR.1
  have := hS.1
  refine sg_95_0 _ _ _ ?_
  unfold ab_p at h1 h0
  rw [tp_c (show k < 1000000 by omega), u2]
  rw [u2, tp_c (show u < 1000000 by omega)] at h1 h0
  refine ⟨tp_vi (by omega) (by omega), sp_58 (by omega) _ ⟨fun z => ?_, fun z => ?_⟩⟩
  · rw [if_pos z] at h1 h0
    exact ⟨tp_vi (by omega) (by omega), fun z2 => h1 (by simpa using z2), fun z2 => h0 (by simpa using z2)⟩
  · rw [if_neg z] at h1 h0
    exact sp_96 hT hS hk _ (fun z2 => ⟨tp_nb1, h1 (by simpa using z2)⟩) (fun z2 => ⟨tp_nb0, h0 (by simpa using z2)⟩)
theorem sp_94 {σ : tp_St} {nT nR nS : Nat} {t s w : Int32} (hT : RT σ nT) (hR : RR σ nR) (hS : RS σ nT nR nS) : tp_val 94 [.ref 0, .int t, .int s, .int w, .null, .null] σ (nI (ab_c σ t s w nS)) := by
  intro post hp
  have := hS.1
  refine sg_94_0 _ _ _ ?_
  refine tp_up_loop (E := fun i => tp_E 94 6 [.ref 0, .int t, .int s, .int w, .int (nI (ab_c σ t s w i)), .int (nI i)] [] σ post) (n := nS) (fun i hi g => ?_) ?_ 0 (Nat.zero_le _)
  · refine sg_94_6 _ _ _ _ _ ?_
    unfold ab_c at g ⊢
    rw [tp_c (show i < 1000000 by omega), hS.2.1]
    simp only [nI_1]
    conv at g => unfold ct
    refine ⟨fun z => absurd z (tp_nle hi (by omega)), fun _ => ⟨tp_vi (by omega) (by omega), fun z => tp_if (sp_95 hT hR hS hi) (fun z2 => ?_) (fun z2 => ?_), fun z => ?_⟩⟩
    · rw [if_pos (by simp [z, z2])] at g; exact g
    · rw [if_neg (by simp [z, z2])] at g; exact g
    · rw [if_neg (by simp [z])] at g; exact g
  · refine sg_94_6 _ _ _ _ _ ?_
    rw [hS.2.1]
    exact ⟨fun _ => hp, fun z => absurd (tp_le.mpr (Int.le_refl _)) z⟩
theorem sp_120 {σ : tp_St} {t nR : Nat} {s : Int32} (hR : RR σ nR) (ht : t < nR) : tp_val 120 [.ref 58, .int (nI t), .int s] σ (ab_b σ t s) := by
  intro post hp
  obtain ⟨r1, r2, r3, r4⟩ := hR
  refine sg_120_0 _ _ ?_
  rw [tp_c (show t < 1000000 by omega), (r4 t ht).2.1]
  unfold ab_b at hp
  refine ⟨tp_vi (by omega) (by omega), fun z => ?_, fun z => ?_⟩
  · rw [if_pos z] at hp; exact hp
  · rw [if_neg z] at hp; exact hp
theorem sp_110 {σ : tp_St} {t nR : Nat} {s : Int32} (hR : RR σ nR) (ht : t < nR) : tp_val 110 [.ref 58, .int (nI t), .int s] σ (if σ.1 13 t = 0 then 9 - s else s) := by
  intro post hp
  obtain ⟨r1, r2, r3, r4⟩ := hR
  refine sg_110_0 _ _ ?_
  rw [tp_c (show t < 1000000 by omega), (r4 t ht).2.1]
  refine ⟨tp_vi (by omega) (by omega), fun z => ?_, fun z => ?_⟩
  · rw [if_pos z] at hp; exact hp
  · rw [if_neg z] at hp; exact hp
theorem sp_121 {σ : tp_St} {t nT nR nS : Nat} {s w : Int32} (hT : RT σ nT) (hR : RR σ nR) (hS : RS σ nT nR nS) (ht : t < nR) : tp_val 121 [.ref 58, .int (nI t), .int s, .int w, .null, .null, .null, .null] σ (nI (ab_c σ (nI t) s w nS)) := by
  intro post hp
  have := hR.1
  have := hS.1
  have := hT.1
  refine sg_121_0 _ _ _ (sp_120 hR ht _ ?_)
  refine tp_up_loop (E := fun i => tp_E 121 14 [.ref 58, .int (nI t), .null, .int w, .int (ab_b σ t s), .int (nI (ab_c σ (nI t) s w i)), .int (nI i), .null] [] σ post) (n := nS) (fun i hi g => ?_) ?_ 0 (Nat.zero_le _)
  · obtain ⟨⟨u, u1, u2, u3, u4⟩, ⟨y, y1, y2, y3⟩, -⟩ := hS.2.2.2 i hi
    refine sg_121_14 _ _ _ _ _ ?_
    unfold ab_c at g ⊢
    rw [tp_c (show i < 1000000 by omega), hS.2.2.1, u3]
    simp only [nI_1, Int32.add_zero]
    have hv := tp_vi (show i < 200 by omega) (by omega)
    conv at g => unfold ct
    rw [u2] at g
    refine ⟨fun z => absurd z (tp_nle hi (by omega)), fun _ => ⟨hv, fun z => ⟨hv, sp_110 hR ht _ ?_⟩, fun z => ?_⟩⟩
    · have zt : u = t := (tp_ne (by omega) (by omega)).mp z
      subst zt
      rw [← u4, y3, tp_c (show y < 1000000 by omega), (hT.2.2.2 y y1).2.1]
      have key : ab_p σ s w i = if w = 0 then decide (σ.1 17 i = ab_b σ u s) else decide (ab_g σ i (ab_b σ u s)) := by
        unfold ab_p
        rw [u2, tp_c (show u < 1000000 by omega)]
      refine ⟨fun z2 => ⟨fun z3 => ?_, fun z3 => ?_⟩, fun z2 => ⟨fun z3 => ?_, fun z3 => ⟨hv, tp_vi (by omega) (by omega), fun z4 => ?_, fun z4 => ?_⟩⟩⟩
      · rw [if_pos (by rw [key, if_pos z2]; simp [z3])] at g; exact g
      · rw [if_neg (by rw [key, if_pos z2]; simp [z3])] at g; exact g
      · rw [if_neg (by
          rw [key, if_neg z2]
          simp only [Bool.and_eq_true, decide_eq_true_eq]
          intro q
          have q1 := q.2.1
          rw [tp_lt] at z3; rw [tp_le] at q1; omega)] at g
        exact g
      · rw [if_neg (by
          rw [key, if_neg z2]
          simp only [Bool.and_eq_true, decide_eq_true_eq]
          intro q
          have q1 := q.2.2
          rw [y2, tp_c (show y < 1000000 by omega)] at q1
          rw [tp_le] at z4; rw [tp_lt] at q1; omega)] at g
        exact g
      · rw [if_pos (by
          rw [key, if_neg z2]
          simp only [Bool.and_eq_true, decide_eq_true_eq]
          refine ⟨trivial, ?_⟩
          unfold ab_g
          rw [y2, tp_c (show y < 1000000 by omega)]
          rw [tp_le] at z4; rw [tp_lt] at z3; rw [tp_le, tp_lt]; omega)] at g
        exact g
    · rw [if_neg (by simp [z])] at g; exact g
  · refine sg_121_14 _ _ _ _ _ ?_
    rw [hS.2.2.1]
    exact ⟨fun _ => hp, fun z => absurd (tp_le.mpr (Int.le_refl _)) z⟩
theorem tp_01 {w : Int32} (h : 0 ≤ w.toInt ∧ w.toInt ≤ 1) : w = 0 ∨ w = 1 := by
  by_cases e : w.toInt = 0
  · exact Or.inl (tp_eq.mpr e)
  · exact Or.inr (tp_eq.mpr (show w.toInt = 1 by omega))
theorem op_aboard {σ : tp_St} {a s w : Int32} (h : RR_all σ) : tp_E 74 0 [.ref 0, .int a, .int s, .int w] [] σ (tp_Res 122 [.ref 58, .int a, .int s, .int w]) := by
  obtain ⟨nT, nR, nS, nB, nD, hT, hP, hR, hS, hH, hA, hL, hD, hK⟩ := id h
  obtain ⟨r1, r2, r3, r4⟩ := id hR
  have bad : (¬ (0 ≤ a.toInt ∧ a.toInt < nR) ∨ ¬ (0 ≤ s.toInt ∧ s.toInt ≤ 8) ∨ ¬ (0 ≤ w.toInt ∧ w.toInt ≤ 1)) → tp_Res 122 [.ref 58, .int a, .int s, .int w] (-1) σ := fun hb =>
    sg_122_0 _ _ _ (tp_if (sp_107 r3 (by omega)) (fun p1 => tp_if (sp_101 tp_i64 (l := 0) rfl (h := 8) rfl) (fun p2 => tp_if (sp_101 tp_i64 (l := 0) rfl (h := 1) rfl) (fun p3 => by omega) (fun p3 => ⟨rfl, h⟩)) (fun p2 => ⟨rfl, h⟩)) (fun p1 => ⟨rfl, h⟩))
  refine sg_74_0 _ _ _ (tp_if (sp_53 r2 (by omega)) (fun q1 => tp_if (sp_91 (l := 0) rfl (h := 8) rfl) (fun q2 => bad (by omega)) (fun q2 => tp_if (sp_91 (l := 0) rfl (h := 1) rfl) (fun q3 => bad (by omega)) (fun q3 => ?_))) (fun q1 => bad (by omega)))
  obtain ⟨t, ht, rfl⟩ := tp_rg_nI (x := a) (hi := nR - 1) ⟨q1.1, by omega⟩ (by omega)
  have htR : t < nR := by have := q1.2; rw [tp_t (by omega)] at this; omega
  refine sp_94 hT hR hS _ ?_
  refine sg_122_0 _ _ _ (tp_if (sp_107 r3 (by omega)) (fun p1 => tp_if (sp_101 tp_i64 (l := 0) rfl (h := 8) rfl) (fun p2 => tp_if (sp_101 tp_i64 (l := 0) rfl (h := 1) rfl) (fun p3 => ?_) (fun p3 => by omega)) (fun p2 => by omega)) (fun p1 => absurd q1 p1))
  rcases tp_01 p3 with hw | hw
  · rw [hw]
    exact ⟨fun z => absurd z (by decide), fun _ => sp_121 hT hR hS htR _ ⟨rfl, h⟩⟩
  · rw [hw]
    exact ⟨fun _ => sp_121 hT hR hS htR _ ⟨rfl, h⟩, fun z => absurd rfl z⟩
theorem op_heads {σ : tp_St} {a s w : Int32} (h : RR_all σ) : tp_E 77 0 [.ref 0, .int a, .int s, .int w, .null, .null] [] σ (tp_Res 125 [.ref 58, .int a, .int s, .int w, .null, .null]) := by
  obtain ⟨nT, nR, nS, nB, nD, hT, hP, hR, hS, hH, hA, hL, hD, hK⟩ := id h
  obtain ⟨r1, r2, r3, r4⟩ := id hR
  have bad : (¬ (0 ≤ a.toInt ∧ a.toInt < nR) ∨ ¬ (0 ≤ s.toInt ∧ s.toInt ≤ 8) ∨ ¬ (0 ≤ w.toInt ∧ w.toInt ≤ 1000)) → tp_Res 125 [.ref 58, .int a, .int s, .int w, .null, .null] (-1000000) σ := fun hb =>
    sg_125_0 _ _ _ (tp_if (sp_107 r3 (by omega)) (fun p1 => tp_if (sp_101 tp_i64 (l := 0) rfl (h := 8) rfl) (fun p2 => tp_if (sp_101 tp_i64 (l := 0) rfl (h := 1000) rfl) (fun p3 => by omega) (fun p3 => ⟨rfl, h⟩)) (fun p2 => ⟨rfl, h⟩)) (fun p1 => ⟨rfl, h⟩))
  refine sg_77_0 _ _ _ (tp_if (sp_53 r2 (by omega)) (fun q1 => tp_if (sp_91 (l := 0) rfl (h := 8) rfl) (fun q2 => bad (by omega)) (fun q2 => tp_if (sp_91 (l := 0) rfl (h := 1000) rfl) (fun q3 => bad (by omega)) (fun q3 => ?_))) (fun q1 => bad (by omega)))
  obtain ⟨t, ht, rfl⟩ := tp_rg_nI (x := a) (hi := nR - 1) ⟨q1.1, by omega⟩ (by omega)
  have htR : t < nR := by have := q1.2; rw [tp_t (by omega)] at this; omega
  have model : ∀ r, (w ≤ nI (ab_c σ (nI t) s 1 nS) → nI (ab_c σ (nI t) s 0 nS) ≤ w → r = 0) → (w ≤ nI (ab_c σ (nI t) s 1 nS) → ¬ nI (ab_c σ (nI t) s 0 nS) ≤ w → r = w - nI (ab_c σ (nI t) s 0 nS)) → (¬ w ≤ nI (ab_c σ (nI t) s 1 nS) → r = w - nI (ab_c σ (nI t) s 1 nS)) → tp_Res 125 [.ref 58, .int (nI t), .int s, .int w, .null, .null] r σ := fun r e1 e2 e3 => by
    refine sg_125_0 _ _ _ (tp_if (sp_107 r3 (by omega)) (fun p1 => tp_if (sp_101 tp_i64 (l := 0) rfl (h := 8) rfl) (fun p2 => tp_if (sp_101 tp_i64 (l := 0) rfl (h := 1000) rfl) (fun p3 => ?_) (fun p3 => by omega)) (fun p2 => by omega)) (fun p1 => absurd q1 p1))
    refine sp_121 hT hR hS htR _ (sp_121 hT hR hS htR _ ?_)
    exact ⟨fun z => ⟨fun z2 => ⟨e1 z z2, h⟩, fun z2 => ⟨e2 z z2, h⟩⟩, fun z => ⟨e3 z, h⟩⟩
  refine sp_94 hT hR hS _ ⟨fun z => sp_94 hT hR hS _ ⟨fun z2 => ?_, fun z2 => ?_⟩, fun z => ?_⟩
  · exact model _ (fun _ _ => rfl) (fun _ y => absurd z2 y) (fun y => absurd z y)
  · exact model _ (fun _ y => absurd y z2) (fun _ _ => rfl) (fun y => absurd z y)
  · exact model _ (fun y => absurd y z) (fun y => absurd y z) (fun _ => rfl)
theorem op_riders {σ : tp_St} {a s w : Int32} (h : RR_all σ) : tp_E 75 0 [.ref 0, .int a, .int s, .int w, .null, .null] [] σ (tp_Res 123 [.ref 58, .int a, .int s, .int w, .null, .null]) := by
  obtain ⟨nT, nR, nS, nB, nD, hT, hP, hR, hS, hH, hA, hL, hD, hK⟩ := id h
  obtain ⟨r1, r2, r3, r4⟩ := id hR
  have hs200 := hS.1
  have bad : (¬ (0 ≤ s.toInt ∧ s.toInt ≤ 8) ∨ ¬ (0 ≤ w.toInt ∧ w.toInt ≤ 1)) → tp_Res 123 [.ref 58, .int a, .int s, .int w, .null, .null] (-1) σ := fun hb =>
    sg_123_0 _ _ _ (tp_if (sp_101 tp_i64 (l := 0) rfl (h := 8) rfl) (fun p2 => tp_if (sp_101 tp_i64 (l := 0) rfl (h := 1) rfl) (fun p3 => by omega) (fun p3 => ⟨rfl, h⟩)) (fun p2 => ⟨rfl, h⟩))
  refine sg_75_0 _ _ _ (tp_if (sp_91 (l := 0) rfl (h := 8) rfl) (fun q2 => bad (by omega)) (fun q2 => tp_if (sp_91 (l := 0) rfl (h := 1) rfl) (fun q3 => bad (by omega)) (fun q3 => ?_)))
  refine tp_up_loop (E := fun i => tp_E 75 27 [.ref 0, .int a, .int s, .int w, .int (nI (ct (fun k => decide (σ.1 13 (σ.1 15 k).toNatClampNeg = a) && ab_p σ s w k) i)), .int (nI i)] [] σ _) (n := nS) (fun i hi g => ?_) ?_ 0 (Nat.zero_le _)
  · obtain ⟨⟨u, u1, u2, u3, u4⟩, -⟩ := hS.2.2.2 i hi
    refine sg_75_27 _ _ _ _ _ ?_
    rw [tp_c (show i < 1000000 by omega), hS.2.1]
    simp only [nI_1]
    conv at g => unfold ct
    refine ⟨fun z => absurd z (tp_nle hi (by omega)), fun _ => ⟨tp_vi (by omega) (by omega), by rw [u2]; exact tp_vi (by omega) (by omega), fun z => tp_if (sp_95 hT hR hS hi) (fun z2 => ?_) (fun z2 => ?_), fun z => ?_⟩⟩
    · rw [if_pos (by simp [z, z2])] at g; exact g
    · rw [if_neg (by simp [z, z2])] at g; exact g
    · rw [if_neg (by simp [z])] at g; exact g
  · refine sg_75_27 _ _ _ _ _ ?_
    rw [hS.2.1]
    refine ⟨fun _ => ?_, fun z => absurd (tp_le.mpr (Int.le_refl _)) z⟩
    refine sg_123_0 _ _ _ (tp_if (sp_101 tp_i64 (l := 0) rfl (h := 8) rfl) (fun p2 => tp_if (sp_101 tp_i64 (l := 0) rfl (h := 1) rfl) (fun p3 => ?_) (fun p3 => by omega)) (fun p2 => by omega))
    have hsum : sm (fun r => if decide (σ.1 13 r = a) = true then ab_c σ (nI r) s w nS else 0) nR = ct (fun k => decide (σ.1 13 (σ.1 15 k).toNatClampNeg = a) && ab_p σ s w k) nS := by
      have hlt : ∀ k, k < nS → (σ.1 15 k).toNatClampNeg < nR := fun k hk => by
        obtain ⟨⟨u, u1, u2, -⟩, -⟩ := hS.2.2.2 k hk
        rw [u2, tp_c (by omega)]; exact u1
      rw [← sm_ct (q := fun r => decide (σ.1 13 r = a)) (tr := fun k => (σ.1 15 k).toNatClampNeg) (p := fun k => ab_p σ s w k) (m := nR) (n := nS) hlt]
      refine sm_congr (fun r hr => ?_)
      have e : ∀ n, n ≤ nS → ab_c σ (nI r) s w n = ct (fun k => decide ((σ.1 15 k).toNatClampNeg = r) && ab_p σ s w k) n := by
        intro n
        unfold ab_c
        induction n with
        | zero => intro _; rfl
        | succ n ih =>
          intro hn
          obtain ⟨⟨u, u1, u2, -⟩, -⟩ := hS.2.2.2 n (by omega)
          unfold ct
          rw [ih (by omega), u2, tp_c (show u < 1000000 by omega)]
          have : decide (nI u = nI r) = decide (u = r) := by
            by_cases e : u = r
            · simp [e]
            · simp [e, (tp_ne (show u < 1000000 by omega) (show r < 1000000 by omega))]
          rw [this]
      rw [e nS (Nat.le_refl _)]
    refine tp_up_loop (E := fun i => tp_E 123 30 [.ref 58, .int a, .int s, .int w, .int (nI (sm (fun r => if decide (σ.1 13 r = a) = true then ab_c σ (nI r) s w nS else 0) i)), .int (nI i)] [] σ _) (n := nR) (fun i hi g => ?_) ?_ 0 (Nat.zero_le _)
    · refine sg_123_30 _ _ _ _ _ ?_
      rw [tp_c (show i < 1000000 by omega), r3, (r4 i hi).2.1]
      simp only [nI_1, Int32.add_zero]
      conv at g => unfold sm
      have hcnt : ∀ w2, ab_c σ (nI i) s w2 nS ≤ nS := fun w2 => ct_le nS
      refine ⟨fun z => absurd z (tp_nle hi (by omega)), fun _ => ⟨tp_vi (by omega) (by omega), fun z => ⟨fun z2 => sp_121 hT hR hS hi _ ?_, fun z2 => sp_121 hT hR hS hi _ ?_⟩, fun z => ?_⟩⟩
      · rw [z2] at g ⊢
        rw [if_pos (decide_eq_true z)] at g
        rw [nI_add]
        exact g
      · have z3 : w = 0 := (tp_01 p3).resolve_right z2
        rw [z3] at g ⊢
        rw [if_pos (decide_eq_true z)] at g
        rw [nI_add]
        exact g
      · rw [if_neg (by simp [z])] at g; exact g
    · refine sg_123_30 _ _ _ _ _ ?_
      rw [r3, hsum]
      exact ⟨fun _ => ⟨rfl, h⟩, fun z => absurd (tp_le.mpr (Int.le_refl _)) z⟩
