/-! fares told -/
theorem tp_rr24 {σ : tp_St} {q j : Nat} (hq : q = 24 ∨ q = 25) (hj : j < 5) : tp_rr σ q j = tp_lb q + j := by
  rcases hq with rfl | rfl <;> rcases (show j = 0 ∨ j = 1 ∨ j = 2 ∨ j = 3 ∨ j = 4 by omega) with rfl | rfl | rfl | rfl | rfl <;> rfl
theorem tp_t2 {q : Nat} {P : Nat → Prop} (hq : q = 24 ∨ q = 25) (h : P q) : (q = 24 ∨ q = 25) ∧ (q = 24 → P 24) ∧ (q = 25 → P 25) := ⟨hq, fun e => e ▸ h, fun e => e ▸ h⟩
theorem RLw_q {σ : tp_St} (h : RLw σ) : σ.2.1 = 24 ∨ σ.2.1 = 25 := by rcases h.1 with e | e <;> rw [e] <;> simp
def fa_s (σ : tp_St) (b : Nat) (w : Nat) (x : Int32) : Nat → Int32
  | 0 => 100
  | i + 1 => if (σ.1 (b + 2) (w - (i + 1))).toInt ≤ x.toInt ∧ x.toInt < (σ.1 (b + 3) (w - (i + 1))).toInt then σ.1 (b + 4) (w - (i + 1)) else fa_s σ b w x i
def fa_p (σ : tp_St) (b : Nat) (f : Nat) (n : Int32) : Nat → Option Int32
  | 0 => none
  | i + 1 => if n.toInt ≤ (σ.1 b (f - (i + 1))).toInt then some (σ.1 (b + 1) (f - (i + 1))) else fa_p σ b f n i
theorem sp_12 {σ : tp_St} {q w : Nat} {x : Int32} (hq : q = 24 ∨ q = 25) (hw : w ≤ 4) (h6 : σ.1 q 6 = nI w) : tp_val 12 [.ref q, .int x, .null] σ (fa_s σ (tp_lb q) w x w) := by
  intro post hp
  refine sg_12_0 _ _ hq ?_
  have key : ∀ i, i ≤ w → post (fa_s σ (tp_lb q) w x i) σ → tp_E 12 2 [.ref q, .int x, .int (nI (w - i))] [] σ post := by
    intro i
    induction i with
    | zero =>
      intro _ h
      refine sg_12_2 _ _ _ hq ?_
      rw [h6]
      exact ⟨fun _ => h, fun z => absurd (tp_le.mpr (Int.le_refl _)) z⟩
    | succ i ih =>
      intro hi h
      refine sg_12_2 _ _ _ hq ?_
      rw [h6, tp_c (show w - (i + 1) < 1000000 by omega), tp_rr24 hq (by omega), tp_rr24 hq (by omega), tp_rr24 hq (by omega), nI_1, show w - (i + 1) + 1 = w - i by omega]
      unfold fa_s at h
      have hv := tp_vi (show w - (i + 1) < 4 by omega) (by omega)
      refine ⟨fun z => absurd z (tp_nle (by omega) (by omega)), fun _ => ⟨hv, fun z => ih (by omega) ?_, fun z => ⟨hv, fun z2 => ih (by omega) ?_, fun z2 => ⟨hv, ?_⟩⟩⟩⟩
      · rw [if_neg (fun y => by rw [tp_lt] at z; omega)] at h; exact h
      · rw [if_neg (fun y => by rw [tp_le] at z2; omega)] at h; exact h
      · rw [if_pos ⟨by rw [tp_lt] at z; omega, by rw [tp_le] at z2; omega⟩] at h; exact h
  have := key w (Nat.le_refl w) hp
  rw [Nat.sub_self] at this
  exact this
def fa_r (o : Option Int32) (s : Int32) : Int32 := match o with
  | none => -4
  | some p => (p * s + 99) / 100
theorem sp_11 {σ : tp_St} {q f w : Nat} {n x : Int32} (hq : q = 24 ∨ q = 25) (hf : f ≤ 9) (hw : w ≤ 4) (h5 : σ.1 q 5 = nI f) (h6 : σ.1 q 6 = nI w) : tp_val 11 [.ref q, .int n, .int x, .null] σ (fa_r (fa_p σ (tp_lb q) f n f) (fa_s σ (tp_lb q) w x w)) := by
  intro post hp
  refine sg_11_0 _ _ _ hq ?_
  have key : ∀ i, i ≤ f → post (fa_r (fa_p σ (tp_lb q) f n i) (fa_s σ (tp_lb q) w x w)) σ → tp_E 11 2 [.ref q, .int n, .int x, .int (nI (f - i))] [] σ post := by
    intro i
    induction i with
    | zero =>
      intro _ h
      refine sg_11_2 _ _ _ _ hq ?_
      rw [h5]
      exact ⟨fun _ => h, fun z => absurd (tp_le.mpr (Int.le_refl _)) z⟩
    | succ i ih =>
      intro hi h
      refine sg_11_2 _ _ _ _ hq ?_
      rw [h5, tp_c (show f - (i + 1) < 1000000 by omega), tp_rr24 hq (by omega), tp_rr24 hq (by omega), nI_1, show f - (i + 1) + 1 = f - i by omega]
      unfold fa_p at h
      have hv := tp_vi (show f - (i + 1) < 9 by omega) (by omega)
      refine ⟨fun z => absurd z (tp_nle (by omega) (by omega)), fun _ => ⟨hv, fun z => ih (by omega) ?_, fun z => ⟨hv, sp_12 hq hw h6 _ ?_⟩⟩⟩
      · rw [if_neg (fun y => by rw [tp_lt] at z; have z : (σ.1 (tp_lb q) (f - (i + 1))).toInt < n.toInt := z; omega)] at h; exact h
      · rw [if_pos (by rw [tp_lt] at z; have z : ¬ (σ.1 (tp_lb q) (f - (i + 1))).toInt < n.toInt := z; omega)] at h; exact h
  have := key f (Nat.le_refl f) hp
  rw [Nat.sub_self] at this
  exact this
def fa_v (o : Option Int32) : Int32 := match o with
  | none => -4
  | some p => p
theorem fa_100 : ∀ m, m < 1000 → (nI m * 100 + 99) / 100 = nI m := by decide +kernel
theorem tp_3 {i : Nat} : (3 : Int32) * nI i = nI (3 * i) := by rw [show (3 : Int32) = nI 3 from rfl, pk_mul]
theorem op_fare {σ : tp_St} {a b : Int32} (h : RR_all σ) : tp_E 83 0 [.ref 0, .int a, .int b] [] σ (tp_Res 138 [.ref 58, .int a, .int b, .null, .null]) := by
  obtain ⟨nT, nR, nS, nB, nD, hT, hP, hR, hS, hH, hA, hL, hD, hK⟩ := id h
  have hq := RLw_q hL
  obtain ⟨-, -, nf, nw, f9, w4, l3, l4, l5, l6, l7, l8, -⟩ := id hL
  generalize hqq : σ.2.1 = q at *
  have bad : (¬ (1 ≤ a.toInt ∧ a.toInt ≤ 9) ∨ ¬ (0 ≤ b.toInt ∧ b.toInt ≤ 1439)) → tp_Res 138 [.ref 58, .int a, .int b, .null, .null] (-1) σ := fun hb =>
    sg_138_0 _ _ (tp_if (sp_101 tp_i64 (l := 1) rfl (h := 9) rfl) (fun p1 => tp_if (sp_101 tp_i64 (l := 0) rfl (h := 1439) rfl) (fun p2 => by omega) (fun p2 => ⟨rfl, h⟩)) (fun p1 => ⟨rfl, h⟩))
  refine sg_83_0 _ _ (tp_if (sp_91 (l := 1) rfl (h := 9) rfl) (fun q1 => bad (by omega)) (fun q1 => tp_if (sp_91 (l := 0) rfl (h := 1439) rfl) (fun q2 => bad (by omega)) (fun q2 => ?_)))
  rw [hqq]
  refine tp_t2 (P := fun t => tp_E 11 0 [.ref t, .int a, .int (b / 60), .null] [] σ (fun r3 σ3 => tp_Res 138 [.ref 58, .int a, .int b, .null, .null] r3 σ3)) hq (sp_11 hq f9 w4 l3 l5 _ ?_)
  refine sg_138_0 _ _ (tp_if (sp_101 tp_i64 (l := 1) rfl (h := 9) rfl) (fun _ => tp_if (sp_101 tp_i64 (l := 0) rfl (h := 1439) rfl) (fun _ => ?_) (fun p2 => by omega)) (fun p1 => by omega))
  rw [l4]
  have second : ∀ o : Option Int32, (∀ p, o = some p → tp_rg 1 999 p) → o = fa_p σ (tp_lb q) nf a nf → tp_E 138 80 [.ref 58, .null, .int b, .int (fa_v o), .int 0] [] σ (fun r' σ2 => fa_r (fa_p σ (tp_lb q) nf a nf) (fa_s σ (tp_lb q) nw (b / 60) nw) = r' ∧ RR_all σ2) := by
    intro o ho he
    rw [← he]
    have key : ∀ i, i ≤ nw → tp_E 138 80 [.ref 58, .null, .int b, .int (fa_v o), .int (nI (nw - i))] [] σ (fun r' σ2 => fa_r o (fa_s σ (tp_lb q) nw (b / 60) i) = r' ∧ RR_all σ2) := by
      intro i
      induction i with
      | zero =>
        intro _
        refine sg_138_80 _ _ _ ?_
        rw [l6]
        refine ⟨fun _ => ⟨?_, h⟩, fun z => absurd (tp_le.mpr (Int.le_refl _)) z⟩
        cases o with
        | none => rfl
        | some p =>
          obtain ⟨m, hm, em⟩ := tp_rg_of (hi := 999) (x := p) (by have := (ho p rfl).1; omega) (ho p rfl).2 (by omega)
          show (p * 100 + 99) / 100 = p
          rw [em]
          exact fa_100 m (by omega)
      | succ i ih =>
        intro hi
        refine sg_138_80 _ _ _ ?_
        obtain ⟨x1, x2, x3, x4, x5, x6⟩ := l8 (nw - (i + 1)) (by omega)
        rw [l6, tp_3, nI_1, nI_1, show (2 : Int32) = nI 2 from rfl, nI_add, tp_c (show 3 * (nw - (i + 1)) < 1000000 by omega), tp_c (show 3 * (nw - (i + 1)) + 1 < 1000000 by omega), tp_c (show 3 * (nw - (i + 1)) + 2 < 1000000 by omega), x1, x2, show nw - (i + 1) + 1 = nw - i by omega]
        have ih := ih (by omega)
        cases o with
        | none => exact ⟨fun z => absurd z (tp_nle (by omega) (by omega)), fun _ => ⟨fun _ => ⟨rfl, h⟩, fun z => absurd rfl z⟩⟩
        | some p =>
          have hp := ho p rfl
          refine ⟨fun z => absurd z (tp_nle (by omega) (by omega)), fun _ => ⟨fun z => ?_, fun _ => ⟨tp_vi (by omega) (by omega), tp_vi (by omega) (by omega), ?_⟩⟩⟩
          · have := hp.1
            have z : p = -4 := z
            rw [z] at this
            exact absurd this (by decide)
          · have e1 : (σ.1 (tp_lb q + 3) (nw - (i + 1)) - 1).toInt = (σ.1 (tp_lb q + 3) (nw - (i + 1))).toInt - 1 := by
              have := x5.1
              have := x5.2
              rw [Int32.toInt_sub, show (1 : Int32).toInt = 1 from rfl]
              simp only [Int.bmod_def]
              omega
            refine tp_if (sp_101 tp_i64 tp_i64 (tp_i64.trans e1)) (fun y => ⟨tp_vi (by omega) (by omega), ?_, h⟩) (fun y => ?_)
            · rw [x3]
              show (p * fa_s σ (tp_lb q) nw (b / 60) (i + 1) + 99) / 100 = _
              unfold fa_s
              rw [if_pos ⟨y.1, by omega⟩]
              rfl
            · have e : fa_s σ (tp_lb q) nw (b / 60) (i + 1) = fa_s σ (tp_lb q) nw (b / 60) i := by
                conv => lhs; unfold fa_s
                rw [if_neg (fun w => y ⟨w.1, by omega⟩)]
              rw [e]
              exact ih
    have := key nw (Nat.le_refl nw)
    rw [Nat.sub_self] at this
    exact this
  have key : ∀ i, i ≤ nf → tp_E 138 37 [.ref 58, .int a, .int b, .int (fa_v (fa_p σ (tp_lb q) nf a (nf - i))), .int (nI i - 1)] [] σ (fun r' σ2 => fa_r (fa_p σ (tp_lb q) nf a nf) (fa_s σ (tp_lb q) nw (b / 60) nw) = r' ∧ RR_all σ2) := by
    intro i
    induction i with
    | zero =>
      intro _
      refine sg_138_37 _ _ _ _ ?_
      rw [tp_neg1]
      refine ⟨fun _ => second _ ?_ rfl, fun z => absurd (by decide) z⟩
      have : ∀ j, j ≤ nf → ∀ p, fa_p σ (tp_lb q) nf a j = some p → tp_rg 1 999 p := by
        intro j
        induction j with
        | zero => intro _ p hp; cases hp
        | succ j ihj =>
          intro hj p hp
          unfold fa_p at hp
          split at hp
          · cases hp; exact (l7 _ (by omega)).2.2.2
          · exact ihj (by omega) p hp
      exact this nf (Nat.le_refl nf)
    | succ i ih =>
      intro hi
      refine sg_138_37 _ _ _ _ ?_
      obtain ⟨x1, x2, x3, x4⟩ := l7 i (by omega)
      rw [nI_pred, tp_2i, nI_1, tp_c (show 2 * i < 1000000 by omega), tp_c (show 2 * i + 1 < 1000000 by omega), x1, x2, tp_m1]
      have ih := ih (by omega)
      have e : fa_p σ (tp_lb q) nf a (nf - i) = if a.toInt ≤ (σ.1 (tp_lb q) i).toInt then some (σ.1 (tp_lb q + 1) i) else fa_p σ (tp_lb q) nf a (nf - (i + 1)) := by
        rw [show nf - i = (nf - (i + 1)) + 1 by omega]
        conv => lhs; unfold fa_p
        rw [show nf - (nf - (i + 1) + 1) = i by omega]
      rw [e] at ih
      refine ⟨fun z => absurd z (by rw [tp_lt, tp_t (by omega)]; show ¬ (i : Int) < 0; omega), fun _ => ⟨tp_vi (by omega) (by omega), fun z => ?_, fun z => ⟨tp_vi (by omega) (by omega), ?_⟩⟩⟩
      · rw [if_neg (fun y => by rw [tp_lt] at z; omega)] at ih; exact ih
      · rw [if_pos (by rw [tp_lt] at z; omega)] at ih; exact ih
  have := key nf (Nat.le_refl nf)
  rw [Nat.sub_self] at this
  exact this
theorem op_change {σ : tp_St} {a b : Int32} (h : RR_all σ) : tp_E 84 0 [.ref 0, .int a, .int b] [] σ (tp_Res 139 [.ref 58, .int a, .int b]) := by
  obtain ⟨nT, nR, nS, nB, nD, hT, hP, hR, hS, hH, hA, hL, hD, hK⟩ := id h
  have hq := RLw_q hL
  obtain ⟨-, -, nf, nw, f9, w4, l3, l4, l5, l6, l7, l8, l9⟩ := id hL
  generalize hqq : σ.2.1 = q at *
  have bad : (¬ (0 ≤ a.toInt ∧ a.toInt ≤ 1439) ∨ ¬ (a.toInt ≤ b.toInt ∧ b.toInt ≤ 1439)) → tp_Res 139 [.ref 58, .int a, .int b] (-1) σ := fun hb =>
    sg_139_0 _ _ (tp_if (sp_101 tp_i64 (l := 0) rfl (h := 1439) rfl) (fun p1 => tp_if (sp_101 tp_i64 tp_i64 (h := 1439) rfl) (fun p2 => by omega) (fun p2 => ⟨rfl, h⟩)) (fun p1 => ⟨rfl, h⟩))
  refine sg_84_0 _ _ (tp_if (sp_91 (l := 0) rfl (h := 1439) rfl) (fun q1 => bad (by omega)) (fun q1 => tp_if (sp_91 (l := a.toInt) rfl (h := 1439) rfl) (fun q2 => bad (by omega)) (fun q2 => ?_)))
  rw [hqq]
  refine tp_t2 (P := fun t => tp_E 13 0 [.ref t, .int (b - a)] [] σ (fun r3 σ3 => (r3 = 0 → tp_Res 139 [.ref 58, .int a, .int b] 0 σ3) ∧ (¬ r3 = 0 → tp_Res 139 [.ref 58, .int a, .int b] 1 σ3))) hq ?_
  have model : ∀ r, ((σ.1 58 24 = -4 ∨ σ.1 58 24 < b - a) → r = 0) → (¬ σ.1 58 24 = -4 → ¬ σ.1 58 24 < b - a → r = 1) → tp_Res 139 [.ref 58, .int a, .int b] r σ := fun r e1 e2 =>
    sg_139_0 _ _ (tp_if (sp_101 tp_i64 (l := 0) rfl (h := 1439) rfl) (fun p1 => tp_if (sp_101 tp_i64 tp_i64 (h := 1439) rfl) (fun p2 => ⟨fun z => ⟨e1 (Or.inl z), h⟩, fun z => ⟨fun z2 => ⟨e1 (Or.inr z2), h⟩, fun z2 => ⟨e2 z z2, h⟩⟩⟩) (fun p2 => by omega)) (fun p1 => by omega))
  have no0 : ¬ ((0 : Int32) = 1) := by decide
  refine sg_13_0 _ _ hq ?_
  rcases l9 with ⟨c1, c2, c3⟩ | ⟨m, c0, c1, c2, c3⟩
  · rw [c1]
    exact ⟨fun _ => ⟨fun _ => model _ (fun _ => rfl) (fun y => absurd c2 y), fun y => absurd rfl y⟩, fun z => absurd rfl z⟩
  · have n1 : ¬ nI m = -1 := by rw [tp_eq, tp_t (by omega)]; show ¬ (m : Int) = -1; omega
    have n4 : ¬ nI m = -4 := by rw [tp_eq, tp_t (by omega)]; show ¬ (m : Int) = -4; omega
    rw [c1]
    refine ⟨fun z => absurd z n1, fun _ => ⟨fun z => ⟨fun _ => model _ (fun _ => rfl) (fun _ y => absurd (by rw [c2]; exact z) y), fun y => absurd rfl y⟩, fun z => ⟨fun y => absurd y.symm no0, fun _ => model _ (fun y => ?_) (fun _ _ => rfl)⟩⟩⟩
    rw [c2] at y
    rcases y with y | y
    · exact absurd y n4
    · exact absurd y z
/-! counts -/
def op_n (σ : tp_St) : Nat → Nat
  | 0 => 0
  | n + 1 => if σ.1 14 n = 0 then op_n σ n else op_n σ n + 1
theorem op_count {σ : tp_St} {a : Int32} (h : RR_all σ) : tp_E 90 0 [.ref 0, .int a] [] σ (tp_Res 148 [.ref 58, .int a, .null, .null]) := by
  obtain ⟨nT, nR, nS, nB, nD, hT, hP, hR, hS, hH, hA, hL, hD, hK⟩ := id h
  have hq := RLw_q hL
  obtain ⟨-, -, nf, nw, f9, w4, l3, l4, l5, l6, l7, l8, l9⟩ := id hL
  obtain ⟨r1, r2, r3, r4⟩ := id hR
  generalize hqq : σ.2.1 = q at *
  refine sg_90_0 _ ⟨fun z => ?_, fun z => ?_, fun z => ?_, fun z => ?_, fun z => ?_, fun z => ?_, fun z => ?_, fun z => ?_, fun z => ?_⟩
  · exact sg_148_0 _ ⟨fun _ => ⟨rfl, h⟩, fun y => by omega, fun y => by omega, fun y => by omega, fun y => by omega, fun y => by omega, fun y => by omega, fun y => by omega, fun y => by omega⟩
  · exact sg_148_0 _ ⟨fun y => by omega, fun _ => ⟨by rw [hT.2.1, hT.2.2.1], h⟩, fun y => by omega, fun y => by omega, fun y => by omega, fun y => by omega, fun y => by omega, fun y => by omega, fun y => by omega⟩
  · exact sg_148_0 _ ⟨fun y => by omega, fun y => by omega, fun _ => ⟨by rw [r2, r3], h⟩, fun y => by omega, fun y => by omega, fun y => by omega, fun y => by omega, fun y => by omega, fun y => by omega⟩
  · exact sg_148_0 _ ⟨fun y => by omega, fun y => by omega, fun y => by omega, fun _ => ⟨by rw [hS.2.1, hS.2.2.1], h⟩, fun y => by omega, fun y => by omega, fun y => by omega, fun y => by omega, fun y => by omega⟩
  · refine sg_56_0 ?_
    refine tp_up_loop (E := fun i => tp_E 56 4 [.ref 3, .int (nI (op_n σ i)), .int (nI i)] [] σ _) (n := nR) (fun i hi y => ?_) ?_ 0 (Nat.zero_le _)
    · refine sg_56_4 _ _ ?_
      rw [tp_c (show i < 1000000 by omega), r2]
      simp only [nI_1]
      unfold op_n at y
      refine ⟨fun w => absurd w (tp_nle hi (by omega)), fun _ => ⟨tp_vi (by omega) (by omega), fun w => ?_, fun w => ?_⟩⟩
      · rw [if_pos w] at y; exact y
      · rw [if_neg w] at y; exact y
    · refine sg_56_4 _ _ ?_
      rw [r2]
      refine ⟨fun _ => ?_, fun w => absurd (tp_le.mpr (Int.le_refl _)) w⟩
      refine sg_148_0 _ ⟨fun y => by omega, fun y => by omega, fun y => by omega, fun y => by omega, fun _ => ?_, fun y => by omega, fun y => by omega, fun y => by omega, fun y => by omega⟩
      refine tp_up_loop (E := fun i => tp_E 148 65 [.ref 58, .null, .int (nI (op_n σ i)), .int (nI i)] [] σ (fun r' σ2 => nI (op_n σ nR) = r' ∧ RR_all σ2)) (n := nR) (fun i hi y => ?_) ?_ 0 (Nat.zero_le _)
      · refine sg_148_65 _ _ ?_
        rw [tp_c (show i < 1000000 by omega), r3, (r4 i hi).2.2.1]
        simp only [nI_1, Int32.add_zero]
        rw [show op_n σ (i + 1) = if σ.1 14 i = 0 then op_n σ i else op_n σ i + 1 from rfl] at y
        refine ⟨fun w => absurd w (tp_nle hi (by omega)), fun _ => ⟨tp_vi (by omega) (by omega), fun w => ?_, fun w => ?_⟩⟩
        · rw [if_pos w] at y; exact y
        · rw [if_neg w] at y; exact y
      · refine sg_148_65 _ _ ?_
        rw [r3]
        exact ⟨fun _ => ⟨rfl, h⟩, fun w => absurd (tp_le.mpr (Int.le_refl _)) w⟩
  · exact sg_148_0 _ ⟨fun y => by omega, fun y => by omega, fun y => by omega, fun y => by omega, fun y => by omega, fun _ => ⟨by rw [hD.1.2.1, hD.1.2.2.1], h⟩, fun y => by omega, fun y => by omega, fun y => by omega⟩
  · rw [hqq]
    refine tp_t2 (P := fun t => tp_E 7 0 [.ref t] [] σ (fun r2 σ2 => tp_Res 148 [.ref 58, .int a, .null, .null] r2 σ2)) hq ?_
    have model : ∀ r, r = σ.1 58 25 → tp_Res 148 [.ref 58, .int a, .null, .null] r σ := fun r e => sg_148_0 _ ⟨fun y => by omega, fun y => by omega, fun y => by omega, fun y => by omega, fun y => by omega, fun y => by omega, fun _ => ⟨e, h⟩, fun y => by omega, fun y => by omega⟩
    refine sg_7_0 _ hq ?_
    rw [l3, l5, nI_add, Int32.add_zero, nI_1]
    rcases l9 with ⟨c1, c2, c3⟩ | ⟨m, c0, c1, c2, c3⟩
    · rw [c1]
      exact ⟨fun _ => model _ c3.symm, fun y => absurd rfl y⟩
    · have n1 : ¬ nI m = -1 := by rw [tp_eq, tp_t (by omega)]; show ¬ (m : Int) = -1; omega
      rw [c1]
      exact ⟨fun y => absurd y n1, fun _ => model _ c3.symm⟩
  · have model : ∀ r, (σ.1 70 0 = -4 → r = -4) → (¬ σ.1 70 0 = -4 → r = σ.1 71 0) → tp_Res 148 [.ref 58, .int a, .null, .null] r σ := fun r e1 e2 => sg_148_0 _ ⟨fun y => by omega, fun y => by omega, fun y => by omega, fun y => by omega, fun y => by omega, fun y => by omega, fun y => by omega, fun _ => ⟨fun y => ⟨e1 y, h⟩, fun y => ⟨e2 y, h⟩⟩, fun y => by omega⟩
    have hb := sp_41 (σ := σ) (k := 0) (by omega)
    rcases hH.1 0 (by omega) with ⟨h1, h2⟩ | ⟨l, n, h1, h2, h3, h4, h5, h6⟩
    · exact tp_if hb (fun _ => model _ (fun _ => rfl) (fun y => absurd h1 y)) (fun y => absurd h2 y)
    · refine tp_if hb (fun y => ?_) (fun _ => model _ (fun y => ?_) (fun _ => by rw [h5]; exact h6))
      · rw [h6, tp_eq, tp_t (by omega)] at y
        have : (n : Int) = -1 := y
        omega
      · rw [h3, tp_eq, tp_t (by omega)] at y
        have : (l : Int) = -4 := y
        omega
  · exact sg_148_0 _ ⟨fun y => by omega, fun y => by omega, fun y => by omega, fun y => by omega, fun y => by omega, fun y => by omega, fun y => by omega, fun y => by omega, fun _ => ⟨by rw [hA.2.1, hA.2.2.1], h⟩⟩
