/-! waybills -/
def wb_p (σ : tp_St) (t y : Int32) (k : Nat) : Bool := decide (σ.1 15 k = t) && decide (σ.1 16 k = y)
def wb_c (σ : tp_St) (t y : Int32) : Nat → Nat
  | 0 => 0
  | n + 1 => if wb_p σ t y n = true then wb_c σ t y n + 1 else wb_c σ t y n
def wb_f (σ : tp_St) (t y : Int32) : Nat → Option Nat
  | 0 => none
  | n + 1 => match wb_f σ t y n with
    | some j => some j
    | none => if wb_p σ t y n = true then some n else none
def wb_l (σ : tp_St) (t y : Int32) : Nat → Option Nat
  | 0 => none
  | n + 1 => if wb_p σ t y n = true then some n else wb_l σ t y n
theorem wb_c_le {σ : tp_St} {t y : Int32} : ∀ n, wb_c σ t y n ≤ n
  | 0 => Nat.le_refl _
  | n + 1 => by
    unfold wb_c
    have := wb_c_le (σ := σ) (t := t) (y := y) n
    split <;> omega
theorem wb_f_lt {σ : tp_St} {t y : Int32} : ∀ {n j}, wb_f σ t y n = some j → j < n
  | 0, _, h => by cases h
  | n + 1, j, h => by
    unfold wb_f at h
    cases e : wb_f σ t y n with
    | some k =>
      rw [e] at h
      cases h
      have := wb_f_lt e
      omega
    | none =>
      rw [e] at h
      dsimp only at h
      split at h
      · cases h; omega
      · cases h
theorem wb_l_lt {σ : tp_St} {t y : Int32} : ∀ {n j}, wb_l σ t y n = some j → j < n
  | 0, _, h => by cases h
  | n + 1, j, h => by
    unfold wb_l at h
    split at h
    · cases h; omega
    · have := wb_l_lt h
      omega
theorem wb_f_stay {σ : tp_St} {t y : Int32} {i j : Nat} (h : wb_f σ t y i = some j) : ∀ d, wb_f σ t y (i + d) = some j
  | 0 => h
  | d + 1 => by
    show wb_f σ t y (i + d + 1) = some j
    unfold wb_f
    rw [wb_f_stay h d]
theorem wb_c0 {σ : tp_St} {t y : Int32} : ∀ n, (wb_c σ t y n = 0 ↔ wb_f σ t y n = none)
  | 0 => by simp [wb_c, wb_f]
  | n + 1 => by
    have ih := wb_c0 (σ := σ) (t := t) (y := y) n
    unfold wb_c wb_f
    cases e : wb_f σ t y n with
    | some k =>
      have h0 : ¬ wb_c σ t y n = 0 := fun z => by rw [ih, e] at z; cases z
      dsimp only
      constructor
      · intro z
        split at z <;> omega
      · intro z; cases z
    | none =>
      have h0 : wb_c σ t y n = 0 := ih.mpr e
      dsimp only
      split <;> simp [h0]
theorem sp_40 {σ : tp_St} {t y : Int32} {i : Nat} (hi : i < 200) : tp_bool 40 [.ref 4, .int (nI i), .int t, .int y] σ (wb_p σ t y i = true) := by
  intro post h1 h0
  refine sg_40_0 _ _ _ ?_
  rw [tp_c (show i < 1000000 by omega)]
  unfold wb_p at h1 h0
  simp only [Bool.and_eq_true, decide_eq_true_eq] at h1 h0
  exact ⟨tp_vi hi (by omega), fun z => ⟨tp_vi hi (by omega), fun z2 => h1 ⟨z, z2⟩, fun z2 => h0 (fun q => z2 q.2)⟩, fun z => h0 (fun q => z q.1)⟩
theorem sp_37 {σ : tp_St} {t y : Int32} {nS : Nat} (hn : σ.1 4 4 = nI nS) (hs : nS ≤ 200) : tp_val 37 [.ref 4, .int t, .int y, .null, .null] σ (nI (wb_c σ t y nS)) := by
  intro post hp
  refine sg_37_0 _ _ ?_
  refine tp_up_loop (E := fun i => tp_E 37 5 [.ref 4, .int t, .int y, .int (nI (wb_c σ t y i)), .int (nI i)] [] σ post) (n := nS) (fun i hi g => ?_) ?_ 0 (Nat.zero_le _)
  · refine sg_37_5 _ _ _ _ ?_
    rw [hn]
    simp only [nI_1]
    unfold wb_c at g
    refine ⟨fun z => absurd z (tp_nle hi (by omega)), fun _ => tp_if (sp_40 (by omega)) (fun z => ?_) (fun z => ?_)⟩
    · rw [if_pos z] at g; exact g
    · rw [if_neg z] at g; exact g
  · refine sg_37_5 _ _ _ _ ?_
    rw [hn]
    exact ⟨fun _ => hp, fun z => absurd (tp_le.mpr (Int.le_refl _)) z⟩
def tp_ox (b : Option Nat) : Int32 := match b with
  | none => -1
  | some j => nI j
theorem sp_38 {σ : tp_St} {t y : Int32} {nS : Nat} (hn : σ.1 4 4 = nI nS) (hs : nS ≤ 200) : tp_val 38 [.ref 4, .int t, .int y, .null] σ (tp_ox (wb_f σ t y nS)) := by
  intro post hp
  refine sg_38_0 _ _ ?_
  refine tp_up_loop (E := fun i => wb_f σ t y i = none → tp_E 38 2 [.ref 4, .int t, .int y, .int (nI i)] [] σ post) (n := nS) (fun i hi g hno => ?_) (fun hno => ?_) 0 (Nat.zero_le _) rfl
  · refine sg_38_2 _ _ _ ?_
    rw [hn]
    simp only [nI_1]
    have e : wb_f σ t y (i + 1) = if wb_p σ t y i = true then some i else none := by
      conv => lhs; unfold wb_f
      rw [hno]
    refine ⟨fun z => absurd z (tp_nle hi (by omega)), fun _ => tp_if (sp_40 (by omega)) (fun z => ?_) (fun z => g ?_)⟩
    · rw [if_pos z] at e
      have := wb_f_stay e (nS - (i + 1))
      rw [show i + 1 + (nS - (i + 1)) = nS by omega] at this
      rw [this] at hp
      exact hp
    · rw [if_neg z] at e; exact e
  · refine sg_38_2 _ _ _ ?_
    rw [hn]
    rw [hno] at hp
    exact ⟨fun _ => hp, fun z => absurd (tp_le.mpr (Int.le_refl _)) z⟩
theorem tp_m1 {x : Int32} : x + (-1) = x - 1 := (Int32.sub_eq_add_neg x 1).symm
theorem tp_neg1 : (nI 0 - 1 : Int32) = -1 := by decide
theorem sp_39 {σ : tp_St} {t y : Int32} {nS : Nat} (hn : σ.1 4 4 = nI nS) (hs : nS ≤ 200) : tp_val 39 [.ref 4, .int t, .int y, .null] σ (tp_ox (wb_l σ t y nS)) := by
  intro post hp
  refine sg_39_0 _ _ ?_
  rw [hn]
  have key : ∀ n, n ≤ nS → post (tp_ox (wb_l σ t y n)) σ → tp_E 39 7 [.ref 4, .int t, .int y, .int (nI n - 1)] [] σ post := by
    intro n
    induction n with
    | zero =>
      intro _ h
      refine sg_39_7 _ _ _ ?_
      rw [tp_neg1]
      exact ⟨fun _ => h, fun z => absurd (by decide) z⟩
    | succ n ih =>
      intro hle h
      refine sg_39_7 _ _ _ ?_
      rw [nI_pred, tp_m1]
      unfold wb_l at h
      refine ⟨fun z => absurd z (by rw [tp_lt, tp_t (by omega)]; show ¬ (n : Int) < 0; omega), fun _ => tp_if (sp_40 (by omega)) (fun z => ?_) (fun z => ih (by omega) ?_)⟩
      · rw [if_pos z] at h; exact h
      · rw [if_neg z] at h; exact h
  exact key nS (Nat.le_refl _) hp
def tp_oy (σ : tp_St) (b : Option Nat) : Int32 := match b with
  | none => -4
  | some j => σ.1 18 j
theorem op_waybill {σ : tp_St} {a b w : Int32} (h : RR_all σ) : tp_E 71 0 [.ref 0, .int a, .int b, .int w, .null] [] σ (tp_Res 117 [.ref 58, .int a, .int b, .int w, .null, .null, .null, .null]) := by
  obtain ⟨nT, nR, nS, nB, nD, hT, hP, hR, hS, hH, hA, hL, hD, hK⟩ := id h
  obtain ⟨t1, t2, t3, t4⟩ := id hT
  obtain ⟨r1, r2, r3, r4⟩ := id hR
  obtain ⟨s1, s2, s3, s4⟩ := id hS
  have bad : (¬ (0 ≤ a.toInt ∧ a.toInt < nR) ∨ ¬ (0 ≤ b.toInt ∧ b.toInt < nT) ∨ ¬ (0 ≤ w.toInt ∧ w.toInt ≤ 2)) → tp_Res 117 [.ref 58, .int a, .int b, .int w, .null, .null, .null, .null] (-1) σ := fun hb =>
    sg_117_0 _ _ _ (tp_if (sp_107 r3 (by omega)) (fun p1 => tp_if (sp_101 tp_i64 (l := 0) rfl (h := (nT : Int) - 1) (by rw [tp_i64, t3, tp_pred (by omega)])) (fun p2 => tp_if (sp_101 tp_i64 (l := 0) rfl (h := 2) rfl) (fun p3 => by omega) (fun p3 => ⟨rfl, h⟩)) (fun p2 => ⟨rfl, h⟩)) (fun p1 => ⟨rfl, h⟩))
  refine sg_71_0 _ _ _ (tp_if (sp_53 r2 (by omega)) (fun q1 => tp_if (sp_59 t2 (by omega)) (fun q2 => tp_if (sp_91 (l := 0) rfl (h := 2) rfl) (fun q3 => bad (by omega)) (fun q3 => ?_)) (fun q2 => bad (by omega))) (fun q1 => bad (by omega)))
  have model : ∀ r, (w = 0 → r = nI (wb_c σ a b nS)) → (¬ w = 0 → w = 1 → r = tp_oy σ (wb_f σ a b nS)) → (¬ w = 0 → ¬ w = 1 → r = tp_oy σ (wb_l σ a b nS)) → tp_Res 117 [.ref 58, .int a, .int b, .int w, .null, .null, .null, .null] r σ := fun r e1 e2 e3 => by
    refine sg_117_0 _ _ _ (tp_if (sp_107 r3 (by omega)) (fun p1 => tp_if (sp_101 tp_i64 (l := 0) rfl (h := (nT : Int) - 1) (by rw [tp_i64, t3, tp_pred (by omega)])) (fun p2 => tp_if (sp_101 tp_i64 (l := 0) rfl (h := 2) rfl) (fun p3 => ?_) (fun p3 => by omega)) (fun p2 => by omega)) (fun p1 => absurd q1 p1))
    refine tp_up_loop (E := fun i => tp_E 117 52 [.ref 58, .int a, .int b, .int w, .int (nI (wb_c σ a b i)), .int (tp_oy σ (wb_f σ a b i)), .int (tp_oy σ (wb_l σ a b i)), .int (nI i)] [] σ _) (n := nS) (fun i hi g => ?_) ?_ 0 (Nat.zero_le _)
    · refine sg_117_52 _ _ _ _ _ _ _ ?_
      obtain ⟨⟨u, u1, u2, u3, u4⟩, ⟨y, y1, y2, y3⟩, e69, -⟩ := s4 i hi
      have hc := wb_c_le (σ := σ) (t := a) (y := b) i
      rw [tp_c (show i < 1000000 by omega), s3, u3, y3, e69]
      simp only [nI_1]
      have hv := tp_vi (show i < 200 by omega) (by omega)
      have hp : wb_p σ a b i = true ↔ (nI u = a ∧ nI y = b) := by
        unfold wb_p
        rw [u2, y2]
        simp
      unfold wb_c wb_f wb_l at g
      refine ⟨fun z => absurd z (tp_nle hi (by omega)), fun _ => ⟨hv, fun z => ⟨hv, fun z2 => ?_, fun z2 => ?_⟩, fun z => ?_⟩⟩
      · have hp1 : wb_p σ a b i = true := hp.mpr ⟨z, z2⟩
        rw [if_pos hp1, if_pos hp1] at g
        refine ⟨fun z3 => ⟨hv, hv, ?_⟩, fun z3 => ⟨hv, ?_⟩⟩
        · have z4 : wb_f σ a b i = none := (wb_c0 i).mp (by rw [tp_eq, tp_t (by omega)] at z3; have : (wb_c σ a b i : Int) = 0 := z3; omega)
          rw [z4] at g
          dsimp only at g
          rw [if_pos hp1] at g
          exact g
        · have z4 : ¬ wb_f σ a b i = none := fun z4 => z3 (by rw [(wb_c0 i).mpr z4]; rfl)
          cases e : wb_f σ a b i with
          | none => exact absurd e z4
          | some j => rw [e] at g; dsimp only at g; first | exact g | (rw [if_pos hp1] at g; exact g)
      · have hp1 : ¬ wb_p σ a b i = true := fun q => z2 (hp.mp q).2
        rw [if_neg hp1, if_neg hp1] at g
        cases e : wb_f σ a b i with
        | none => rw [e] at g; dsimp only at g; rw [if_neg hp1] at g; exact g
        | some j => rw [e] at g; dsimp only at g; first | exact g | (rw [if_neg hp1] at g; exact g)
      · have hp1 : ¬ wb_p σ a b i = true := fun q => z (hp.mp q).1
        rw [if_neg hp1, if_neg hp1] at g
        cases e : wb_f σ a b i with
        | none => rw [e] at g; dsimp only at g; rw [if_neg hp1] at g; exact g
        | some j => rw [e] at g; dsimp only at g; first | exact g | (rw [if_neg hp1] at g; exact g)
    · refine sg_117_52 _ _ _ _ _ _ _ ?_
      rw [s3]
      exact ⟨fun _ => ⟨fun z => ⟨e1 z, h⟩, fun z => ⟨fun z2 => ⟨e2 z z2, h⟩, fun z2 => ⟨e3 z z2, h⟩⟩⟩, fun z => absurd (tp_le.mpr (Int.le_refl _)) z⟩
  refine ⟨fun z => sp_37 s2 s1 _ (model _ (fun _ => rfl) (fun z2 => absurd z z2) (fun z2 => absurd z z2)), fun z => ⟨fun z2 => sp_38 s2 s1 _ ?_, fun z2 => sp_39 s2 s1 _ ?_⟩⟩
  · cases e : wb_f σ a b nS with
    | none => exact ⟨fun z3 => absurd z3 (by decide), fun _ => model _ (fun z3 => absurd z3 z) (fun _ _ => by rw [e]; rfl) (fun _ z3 => absurd z2 z3)⟩
    | some j =>
      have hj := wb_f_lt e
      simp only [tp_ox]
      rw [tp_c (show j < 1000000 by omega)]
      exact ⟨fun _ => ⟨tp_vi (by omega) (by omega), model _ (fun z3 => absurd z3 z) (fun _ _ => by rw [e]; rfl) (fun _ z3 => absurd z2 z3)⟩, fun z3 => absurd (by rw [tp_le, tp_t (by omega)]; show (0 : Int) ≤ j; omega) z3⟩
  · cases e : wb_l σ a b nS with
    | none => exact ⟨fun z3 => absurd z3 (by decide), fun _ => model _ (fun z3 => absurd z3 z) (fun _ z3 => absurd z3 z2) (fun _ _ => by rw [e]; rfl)⟩
    | some j =>
      have hj := wb_l_lt e
      simp only [tp_ox]
      rw [tp_c (show j < 1000000 by omega)]
      exact ⟨fun _ => ⟨tp_vi (by omega) (by omega), model _ (fun z3 => absurd z3 z) (fun _ z3 => absurd z3 z2) (fun _ _ => by rw [e]; rfl)⟩, fun z3 => absurd (by rw [tp_le, tp_t (by omega)]; show (0 : Int) ≤ j; omega) z3⟩
