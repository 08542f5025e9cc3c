/-! a ticket shown -/
def fd_p (σ : tp_St) (y x : Int32) (k : Nat) : Bool := decide (σ.1 16 k = y) && decide (σ.1 18 k = x)
def fd (σ : tp_St) (y x : Int32) : Nat → Option Nat
  | 0 => none
  | n + 1 => match fd σ y x n with
    | some j => some j
    | none => if fd_p σ y x n = true then some n else none
theorem fd_lt {σ : tp_St} {y x : Int32} : ∀ {n j}, fd σ y x n = some j → j < n
  | 0, _, h => by cases h
  | n + 1, j, h => by
    unfold fd at h
    cases e : fd σ y x n with
    | some k =>
      rw [e] at h
      cases h
      have := fd_lt e
      omega
    | none =>
      rw [e] at h
      dsimp only at h
      split at h
      · cases h; omega
      · cases h
theorem fd_is {σ : tp_St} {y x : Int32} : ∀ {n j}, fd σ y x n = some j → fd_p σ y x j = true
  | 0, _, h => by cases h
  | n + 1, j, h => by
    unfold fd at h
    cases e : fd σ y x n with
    | some k =>
      rw [e] at h
      cases h
      exact fd_is e
    | none =>
      rw [e] at h
      dsimp only at h
      split at h
      · cases h; assumption
      · cases h
theorem fd_stay {σ : tp_St} {y x : Int32} {i j : Nat} (h : fd σ y x i = some j) : ∀ d, fd σ y x (i + d) = some j
  | 0 => h
  | d + 1 => by
    show fd σ y x (i + d + 1) = some j
    unfold fd
    rw [fd_stay h d]
theorem fd_step {σ : tp_St} {y x : Int32} {i : Nat} (h : fd σ y x i = none) : fd σ y x (i + 1) = if fd_p σ y x i = true then some i else none := by
  conv => lhs; unfold fd
  rw [h]
theorem sp_33 {σ : tp_St} {y x : Int32} {nS : Nat} (hn : σ.1 4 4 = nI nS) (hs : nS ≤ 200) : tp_val 33 [.ref 4, .int y, .int x, .null] σ (tp_ox (fd σ y x nS)) := by
  intro post hp
  refine sg_33_0 _ _ ?_
  refine tp_up_loop (E := fun i => fd σ y x i = none → tp_E 33 2 [.ref 4, .int y, .int x, .int (nI i)] [] σ post) (n := nS) (fun i hi g hno => ?_) (fun hno => ?_) 0 (Nat.zero_le _) rfl
  · refine sg_33_2 _ _ _ ?_
    rw [tp_c (show i < 1000000 by omega), hn]
    simp only [nI_1]
    have e := fd_step hno
    unfold fd_p at e
    refine ⟨fun z => absurd z (tp_nle hi (by omega)), fun _ => ⟨tp_vi (by omega) (by omega), fun z => ⟨tp_vi (by omega) (by omega), fun z2 => ?_, fun z2 => g ?_⟩, fun z => g ?_⟩⟩
    · rw [if_pos (by simp [z, z2])] at e
      have := fd_stay e (nS - (i + 1))
      rw [show i + 1 + (nS - (i + 1)) = nS by omega] at this
      rw [this] at hp
      exact hp
    · rw [if_neg (by simp [z2])] at e; exact e
    · rw [if_neg (by simp [z])] at e; exact e
  · refine sg_33_2 _ _ _ ?_
    rw [hn]
    rw [hno] at hp
    exact ⟨fun _ => hp, fun z => absurd (tp_le.mpr (Int.le_refl _)) z⟩
theorem op_shown {σ : tp_St} {a s y x : Int32} (h : RR_all σ) : tp_E 76 0 [.ref 0, .int a, .int s, .int y, .int x, .null, .null] [] σ (tp_Res 124 [.ref 58, .int a, .int s, .int y, .int x, .null, .null, .null]) := by
  obtain ⟨nT, nR, nS, nB, nD, hT, hP, hR, hS, hH, hA, hL, hD, hK⟩ := id h
  obtain ⟨r1, r2, r3, r4⟩ := id hR
  obtain ⟨t1, t2, t3, t4⟩ := id hT
  have hs200 := hS.1
  have bad : (¬ (0 ≤ a.toInt ∧ a.toInt < nR) ∨ ¬ (0 ≤ s.toInt ∧ s.toInt ≤ 8) ∨ ¬ (0 ≤ y.toInt ∧ y.toInt < nT) ∨ ¬ 0 ≤ x) → tp_Res 124 [.ref 58, .int a, .int s, .int y, .int x, .null, .null, .null] (-1) σ := fun hb =>
    sg_124_0 _ _ _ _ (tp_if (sp_107 r3 (by omega)) (fun p1 => tp_if (sp_101 tp_i64 (l := 0) rfl (h := 8) rfl) (fun p2 => tp_if (sp_101 tp_i64 (l := 0) rfl (h := (nT : Int) - 1) (by rw [tp_i64, t3, tp_pred (by omega)])) (fun p3 => ⟨fun z => by rcases hb with hb | hb | hb | hb <;> first | exact absurd z hb | omega, fun _ => ⟨rfl, h⟩⟩) (fun p3 => ⟨rfl, h⟩)) (fun p2 => ⟨rfl, h⟩)) (fun p1 => ⟨rfl, h⟩))
  refine sg_76_0 _ _ _ _ (tp_if (sp_53 r2 (by omega)) (fun q1 => tp_if (sp_91 (l := 0) rfl (h := 8) rfl) (fun q2 => bad (by omega)) (fun q2 => tp_if (sp_59 t2 (by omega)) (fun q3 => ⟨fun q4 => ?_, fun q4 => bad (Or.inr (Or.inr (Or.inr q4)))⟩) (fun q3 => bad (by omega)))) (fun q1 => bad (by omega)))
  obtain ⟨t, ht, rfl⟩ := tp_rg_nI (x := a) (hi := nR - 1) ⟨q1.1, by omega⟩ (by omega)
  have htR : t < nR := by have := q1.2; rw [tp_t (by omega)] at this; omega
  obtain ⟨v, hv, rfl⟩ := tp_rg_nI (x := y) (hi := nT - 1) ⟨q3.1, by omega⟩ (by omega)
  have hvT : v < nT := by have := q3.2; rw [tp_t (by omega)] at this; omega
  have model : ∀ r, (fd σ (nI v) x nS = none → r = 1) → (∀ j, fd σ (nI v) x nS = some j → (¬ σ.1 15 j = nI t → r = 2) ∧ (σ.1 15 j = nI t → (¬ σ.1 17 j ≤ ab_b σ t s → r = 3) ∧ (σ.1 17 j ≤ ab_b σ t s → (ab_b σ t s < σ.1 17 j + σ.1 9 v → r = 0) ∧ (¬ ab_b σ t s < σ.1 17 j + σ.1 9 v → r = 4)))) → tp_Res 124 [.ref 58, .int (nI t), .int s, .int (nI v), .int x, .null, .null, .null] r σ := fun r e1 e2 => by
    refine sg_124_0 _ _ _ _ (tp_if (sp_107 r3 (by omega)) (fun p1 => tp_if (sp_101 tp_i64 (l := 0) rfl (h := 8) rfl) (fun p2 => tp_if (sp_101 tp_i64 (l := 0) rfl (h := (nT : Int) - 1) (by rw [tp_i64, t3, tp_pred (by omega)])) (fun p3 => ⟨fun _ => ?_, fun z => absurd q4 z⟩) (fun p3 => by omega)) (fun p2 => by omega)) (fun p1 => absurd q1 p1))
    refine tp_up_loop (E := fun i => fd σ (nI v) x i = none → tp_E 124 46 [.ref 58, .int (nI t), .int s, .int (nI v), .int x, .int (nI i), .null, .null] [] σ _) (n := nS) (fun i hi g hno => ?_) (fun hno => ?_) 0 (Nat.zero_le _) rfl
    · refine sg_124_46 _ _ _ _ _ ?_
      obtain ⟨⟨u, u1, u2, u3, u4⟩, ⟨y, y1, y2, y3⟩, e69, -⟩ := hS.2.2.2 i hi
      rw [tp_c (show i < 1000000 by omega), hS.2.2.1, y3, e69]
      simp only [nI_1]
      have e := fd_step hno
      unfold fd_p at e
      rw [y2] at e
      have hvi := tp_vi (show i < 200 by omega) (by omega)
      refine ⟨fun z => absurd z (tp_nle hi (by omega)), fun _ => ⟨hvi, fun z => ⟨hvi, fun z2 => ?_, fun z2 => g ?_⟩, fun z => g ?_⟩⟩
      · rw [if_pos (by simp [z, z2])] at e
        have := fd_stay e (nS - (i + 1))
        rw [show i + 1 + (nS - (i + 1)) = nS by omega] at this
        obtain ⟨f2, f3⟩ := e2 i this
        refine sp_120 hR htR _ ⟨hvi, sp_110 hR htR _ ⟨hvi, ?_⟩⟩
        rw [u3, tp_c (show v < 1000000 by omega), (t4 v hvT).2.1]
        rw [u2] at f2 f3
        refine ⟨fun z3 => ?_, fun z3 => ⟨f2 z3, h⟩⟩
        have zt : u = t := (tp_ne (by omega) (by omega)).mp z3
        subst zt
        rw [← u4]
        obtain ⟨f4, f5⟩ := f3 rfl
        exact ⟨fun z4 => ⟨tp_vi (by omega) (by omega), fun z5 => ⟨(f5 z4).1 z5, h⟩, fun z5 => ⟨(f5 z4).2 z5, h⟩⟩, fun z4 => ⟨f4 z4, h⟩⟩
      · rw [if_neg (by simp [z2])] at e; exact e
      · rw [if_neg (by simp [z])] at e; exact e
    · refine sg_124_46 _ _ _ _ _ ?_
      rw [hS.2.2.1]
      exact ⟨fun _ => ⟨e1 hno, h⟩, fun z => absurd (tp_le.mpr (Int.le_refl _)) z⟩
  refine sp_33 hS.2.1 hs200 _ ?_
  cases e : fd σ (nI v) x nS with
  | none => exact ⟨fun z => absurd z (by decide), fun _ => model _ (fun _ => rfl) (fun j hj => by rw [e] at hj; cases hj)⟩
  | some j =>
    have hj := fd_lt e
    have hp := fd_is e
    unfold fd_p at hp
    simp only [Bool.and_eq_true, decide_eq_true_eq] at hp
    simp only [tp_ox]
    rw [tp_c (show j < 1000000 by omega)]
    have only : ∀ r, ((¬ σ.1 15 j = nI t → r = 2) ∧ (σ.1 15 j = nI t → (¬ σ.1 17 j ≤ ab_b σ t s → r = 3) ∧ (σ.1 17 j ≤ ab_b σ t s → (ab_b σ t s < σ.1 17 j + σ.1 9 v → r = 0) ∧ (¬ ab_b σ t s < σ.1 17 j + σ.1 9 v → r = 4)))) → tp_Res 124 [.ref 58, .int (nI t), .int s, .int (nI v), .int x, .null, .null, .null] r σ := fun r e2 => model r (fun z => by rw [e] at z; cases z) (fun j2 hj2 => by rw [e] at hj2; cases hj2; exact e2)
    refine ⟨fun _ => ⟨tp_vi (by omega) (by omega), fun z => ?_, fun z => only _ ⟨fun _ => rfl, fun z2 => absurd z2 z⟩⟩, fun z => absurd (by rw [tp_le, tp_t (by omega)]; show (0 : Int) ≤ j; omega) z⟩
    refine sp_58 (by omega) _ ⟨tp_vi (by omega) (by omega), fun z2 => ?_, fun z2 => only _ ⟨fun z3 => absurd z z3, fun _ => ⟨fun _ => rfl, fun z3 => absurd z3 z2⟩⟩⟩
    refine tp_if (sp_96 hT hS hj) (fun z3 => only _ ⟨fun z4 => absurd z z4, fun _ => ⟨fun z4 => absurd z2 z4, fun _ => ⟨fun _ => rfl, fun z4 => ?_⟩⟩⟩) (fun z3 => only _ ⟨fun z4 => absurd z z4, fun _ => ⟨fun z4 => absurd z2 z4, fun _ => ⟨fun z4 => ?_, fun _ => rfl⟩⟩⟩)
    · unfold ab_g at z3
      rw [hp.1, tp_c (show v < 1000000 by omega)] at z3
      exact absurd z3.2 z4
    · unfold ab_g at z3
      rw [hp.1, tp_c (show v < 1000000 by omega)] at z3
      exact absurd ⟨z2, z4⟩ z3
