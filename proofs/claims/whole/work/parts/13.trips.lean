/-! types, packs, trips, money -/
theorem tp_c {n : Nat} (h : n < 1000000) : (nI n).toNatClampNeg = n := nI_clamp (Nat.lt_trans h (by decide))
theorem tp_t {n : Nat} (h : n < 1000000) : (nI n).toInt = (n : Int) := nI_toInt (Nat.lt_trans h (by decide))
theorem tp_nle {a b : Nat} (h : a < b) (hb : b < 1000000) : ¬ nI b ≤ nI a := by rw [tp_le, tp_t hb, tp_t (by omega)]; omega
theorem tp_nlt {a b : Nat} (h : b ≤ a) (hb : a < 1000000) : ¬ nI a < nI b := by rw [tp_lt, tp_t hb, tp_t (by omega)]; omega
theorem tp_vi {k n : Nat} (h : k < n) (hn : n < 1000000) : vp_in (nI k) n := vp_in_nI h (Nat.lt_trans hn (by decide))
theorem op_fault {σ : tp_St} (h : RR_all σ) : tp_E 82 0 [.ref 0] [] σ (tp_Res 137 [.ref 58]) := by
  obtain ⟨nT, nR, nS, nB, nD, hT, hP, hR, hS, hH, hA, hL, hD, hK⟩ := id h
  exact sg_82_0 (sg_137_0 ⟨hL.2.1, h⟩)
theorem op_end {σ : tp_St} {a : Int32} (h : RR_all σ) : tp_E 80 0 [.ref 0, .int a, .null] [] σ (tp_Res 128 [.ref 58, .int a, .null]) := by
  obtain ⟨nT, nR, nS, nB, nD, hT, hP, hR, hS, hH, hA, hL, hD, hK⟩ := id h
  obtain ⟨a1, a2, a3, a4⟩ := id hA
  refine sg_80_0 _ (tp_if (sp_91 (l := 0) rfl (h := nB) (by rw [a2, tp_t (by omega)])) (fun q => ?_) (fun q => ?_))
  · refine sg_128_0 _ (tp_if (sp_101 tp_i64 (l := 0) rfl (h := nB) (by rw [tp_i64, a3, tp_t (by omega)])) (fun p => absurd p (by omega)) (fun p => ⟨rfl, h⟩))
  · refine sg_128_0 _ (tp_if (sp_101 tp_i64 (l := 0) rfl (h := nB) (by rw [tp_i64, tp_sg_ne (by decide), a3, tp_t (by omega)])) (fun p => ⟨?_, ?_⟩) (fun p => absurd q (by omega)))
    · rw [tp_sg_ne (by decide), a2, a3]
    · obtain ⟨n, hn, rfl⟩ := tp_rg_nI (x := a) (hi := nB) ⟨by omega, by omega⟩ (by omega)
      refine ⟨nT, nR, nS, n, nD, RT_fr hT (fun o k hd => (tp_sg_ne (by omega)).trans ((tp_sg_ne (by omega)).trans (rfl))), RP_fr hP (fun o k hd => (tp_sg_ne (by omega)).trans ((tp_sg_ne (by omega)).trans (rfl))), RR_fr hR (fun o k hd => (tp_sg_ne (by omega)).trans ((tp_sg_ne (by omega)).trans (rfl))), RS_fr hS (Nat.le_refl _) (Nat.le_refl _) (fun o k hd => (tp_sg_ne (by omega)).trans ((tp_sg_ne (by omega)).trans (rfl))), RH_fr hH (fun o k hd => (tp_sg_ne (by omega)).trans ((tp_sg_ne (by omega)).trans (rfl))), ⟨by omega, ?_, ?_, fun j hj => ?_⟩, RLw_fr hL rfl (fun o k hd => (tp_sg_ne (by omega)).trans ((tp_sg_ne (by omega)).trans (rfl))), RD_fr hD (fun o k hd => (tp_sg_ne (by omega)).trans ((tp_sg_ne (by omega)).trans (rfl))), RK_fr hK (fun o k hd => (tp_sg_ne (by omega)).trans ((tp_sg_ne (by omega)).trans (rfl)))⟩
      · rw [tp_sg_ne (by decide), tp_sg_eq]
      · rw [tp_sg_eq]
      · rw [tp_sg_ne (by omega), tp_sg_ne (by omega), tp_sg_ne (by omega), tp_sg_ne (by omega)]
        exact a4 j (by omega)
/-- what a trip's sales come to -/
def tp_tk (σ : tp_St) (t : Int32) (n : Nat) : Int32 := tp_fo (fun i x => if σ.1 15 i = t then x + σ.1 8 (σ.1 16 i).toNatClampNeg else x) n 0
theorem sp_93 {σ : tp_St} {t : Int32} {nT nR nS : Nat} (hT : RT σ nT) (hS : RS σ nT nR nS) : tp_val 93 [.ref 0, .int t, .null, .null] σ (tp_tk σ t nS) := by
  intro post hp
  obtain ⟨s1, s2, s3, s4⟩ := hS
  refine sg_93_0 _ ?_
  refine tp_fold (E := fun i x => tp_E 93 4 [.ref 0, .int t, .int x, .int (nI i)] [] σ post) (step := fun i x => if σ.1 15 i = t then x + σ.1 8 (σ.1 16 i).toNatClampNeg else x) (n := nS) (a := 0) (fun i x hi h => ?_) ?_
  · obtain ⟨-, ⟨y, y1, y2, y3⟩, -⟩ := s4 i hi
    refine sg_93_4 _ _ _ ?_
    rw [tp_c (show i < 1000000 by omega), s2, nI_1]
    refine ⟨fun c => absurd c (tp_nle hi (by omega)), fun _ => ⟨tp_vi (by omega) (by omega), fun c => ⟨tp_vi (by omega) (by omega), by rw [y2]; exact tp_vi (by have := hT.1; omega) (by omega), ?_⟩, fun c => ?_⟩⟩
    · rw [if_pos c] at h
      exact h
    · rw [if_neg c] at h
      exact h
  · refine sg_93_4 _ _ _ ?_
    rw [s2]
    exact ⟨fun _ => hp, fun c => absurd (tp_le.mpr (Int.le_refl _)) c⟩
theorem sp_108 {σ : tp_St} {t : Int32} {nT nR nS : Nat} (hT : RT σ nT) (hS : RS σ nT nR nS) : tp_val 108 [.ref 58, .int t, .null, .null] σ (tp_tk σ t nS) := by
  intro post hp
  obtain ⟨s1, s2, s3, s4⟩ := hS
  refine sg_108_0 _ ?_
  refine tp_fold (E := fun i x => tp_E 108 4 [.ref 58, .int t, .int x, .int (nI i)] [] σ post) (step := fun i x => if σ.1 15 i = t then x + σ.1 8 (σ.1 16 i).toNatClampNeg else x) (n := nS) (a := 0) (fun i x hi h => ?_) ?_
  · obtain ⟨⟨u, u1, u2, u3, u4⟩, ⟨y, y1, y2, y3⟩, -⟩ := s4 i hi
    refine sg_108_4 _ _ _ ?_
    rw [tp_c (show i < 1000000 by omega), s3, nI_1, u3, y3, tp_c (show y < 1000000 by have := hT.1; omega), (hT.2.2.2 y y1).1]
    rw [u2, y2, tp_c (show y < 1000000 by have := hT.1; omega)] at h
    refine ⟨fun c => absurd c (tp_nle hi (by omega)), fun _ => ⟨tp_vi (by omega) (by omega), fun c => ⟨tp_vi (by omega) (by omega), tp_vi (by have := hT.1; omega) (by omega), ?_⟩, fun c => ?_⟩⟩
    · rw [if_pos c] at h
      exact h
    · rw [if_neg c] at h
      rw [Int32.add_zero]
      exact h
  · refine sg_108_4 _ _ _ ?_
    rw [s3]
    exact ⟨fun _ => hp, fun c => absurd (tp_le.mpr (Int.le_refl _)) c⟩
theorem op_money {σ : tp_St} {a : Int32} (h : RR_all σ) : tp_E 72 0 [.ref 0, .int a] [] σ (tp_Res 118 [.ref 58, .int a]) := by
  obtain ⟨nT, nR, nS, nB, nD, hT, hP, hR, hS, hH, hA, hL, hD, hK⟩ := id h
  obtain ⟨r1, r2, r3, r4⟩ := id hR
  refine sg_72_0 _ (tp_if (sp_53 r2 (by omega)) (fun q => sp_93 hT hS _ ?_) (fun q => ?_))
  · exact sg_118_0 _ (tp_if (sp_107 r3 (by omega)) (fun p => sp_108 hT hS _ ⟨rfl, h⟩) (fun p => absurd q p))
  · exact sg_118_0 _ (tp_if (sp_107 r3 (by omega)) (fun p => absurd p q) (fun p => ⟨rfl, h⟩))
theorem tp_bz : vp_nar .boolean 0 = 0 := by decide +kernel
theorem tp_bo : vp_nar .boolean 1 = 1 := by decide +kernel
theorem op_close {σ : tp_St} {a : Int32} (h : RR_all σ) : tp_E 65 0 [.ref 0, .int a] [] σ (tp_Res 109 [.ref 58, .int a]) := by
  obtain ⟨nT, nR, nS, nB, nD, hT, hP, hR, hS, hH, hA, hL, hD, hK⟩ := id h
  obtain ⟨r1, r2, r3, r4⟩ := id hR
  refine sg_65_0 _ (tp_if (sp_53 r2 (by omega)) (fun q => ?_) (fun q => ?_))
  · obtain ⟨t, ht, rfl⟩ := tp_rg_nI (x := a) (hi := nR - 1) ⟨q.1, by omega⟩ (by omega)
    have htR : t < nR := by have := q.2; rw [tp_t (by omega)] at this; omega
    obtain ⟨k1, k2, k3, k4, k5, k6⟩ := r4 t htR
    rw [tp_c (show t < 1000000 by omega), tp_bz]
    refine ⟨tp_vi (by omega) (by omega), fun c => ?_, fun c => ⟨tp_vi (by omega) (by omega), ?_⟩⟩
    · refine sg_109_0 _ (tp_if (sp_107 r3 (by omega)) (fun p => ?_) (fun p => absurd q p))
      rw [tp_c (show t < 1000000 by omega), k3]
      exact ⟨tp_vi (by omega) (by omega), fun _ => ⟨rfl, h⟩, fun c2 => absurd c c2⟩
    · have hT2 : RT (tp_set σ 14 t 0) nT := RT_fr hT (fun o k hd => (tp_sg_ne (by omega)).trans (rfl))
      have hS2 : RS (tp_set σ 14 t 0) nT nR nS := RS_fr hS (Nat.le_refl _) (Nat.le_refl _) (fun o k hd => (tp_sg_ne (by omega)).trans (rfl))
      refine sp_93 hT2 hS2 _ ?_
      refine sg_109_0 _ (tp_if (sp_107 (n := nR) (by rw [tp_sg_ne (by omega)]; exact r3) (by omega)) (fun p => ?_) (fun p => absurd q p))
      rw [tp_c (show t < 1000000 by omega), tp_sg_ne (by omega), k3, tp_bz]
      refine ⟨tp_vi (by omega) (by omega), fun c2 => absurd c2 c, fun _ => ⟨tp_vi (by omega) (by omega), ?_⟩⟩
      have hT3 : RT (tp_set (tp_set σ 14 t 0) 65 t 0) nT := RT_fr hT (fun o k hd => (tp_sg_ne (by omega)).trans ((tp_sg_ne (by omega)).trans (rfl)))
      have hS3 : RS (tp_set (tp_set σ 14 t 0) 65 t 0) nT nR nS := RS_fr hS (Nat.le_refl _) (Nat.le_refl _) (fun o k hd => (tp_sg_ne (by omega)).trans ((tp_sg_ne (by omega)).trans (rfl)))
      refine sp_108 hT3 hS3 _ ⟨rfl, nT, nR, nS, nB, nD, hT3, RP_fr hP (fun o k hd => (tp_sg_ne (by omega)).trans ((tp_sg_ne (by omega)).trans (rfl))), ⟨r1, ?_, ?_, fun k hk => ?_⟩, hS3, RH_fr hH (fun o k hd => (tp_sg_ne (by omega)).trans ((tp_sg_ne (by omega)).trans (rfl))), RA_fr hA (fun o k hd => (tp_sg_ne (by omega)).trans ((tp_sg_ne (by omega)).trans (rfl))), RLw_fr hL rfl (fun o k hd => (tp_sg_ne (by omega)).trans ((tp_sg_ne (by omega)).trans (rfl))), RD_fr hD (fun o k hd => (tp_sg_ne (by omega)).trans ((tp_sg_ne (by omega)).trans (rfl))), RK_fr hK (fun o k hd => (tp_sg_ne (by omega)).trans ((tp_sg_ne (by omega)).trans (rfl)))⟩
      · rw [tp_sg_ne (by omega), tp_sg_ne (by omega)]; exact r2
      · rw [tp_sg_ne (by omega), tp_sg_ne (by omega)]; exact r3
      · obtain ⟨m1, m2, m3, m4, m5, m6⟩ := r4 k hk
        have e1 : ∀ o, o ≠ 14 → o ≠ 65 → (tp_set (tp_set σ 14 t 0) 65 t 0).1 o k = σ.1 o k := fun o h1 h2 => by rw [tp_sg_ne (by omega), tp_sg_ne (by omega)]
        rw [e1 63 (by decide) (by decide), e1 64 (by decide) (by decide), e1 12 (by decide) (by decide), e1 13 (by decide) (by decide)]
        refine ⟨m1, m2, ?_, m4, m5, ?_⟩
        · by_cases e : k = t
          · subst e
            rw [tp_sg_eq, tp_sg_ne (by omega), tp_sg_eq]
          · rw [tp_sg_ne (by omega), tp_sg_ne (by omega), tp_sg_ne (by omega), tp_sg_ne (by omega)]
            exact m3
        · by_cases e : k = t
          · subst e
            rw [tp_sg_ne (by omega), tp_sg_eq]
            exact Or.inl rfl
          · rw [tp_sg_ne (by omega), tp_sg_ne (by omega)]
            exact m6
  · exact sg_109_0 _ (tp_if (sp_107 r3 (by omega)) (fun p => absurd p q) (fun p => ⟨rfl, h⟩))
/-- paid in less what closed trips come to -/
def tp_pd (σ : tp_St) (c : Int32) (nS : Nat) (x : Int32) (n : Nat) : Int32 := tp_fo (fun i x => if σ.1 12 i = c ∧ σ.1 14 i = 0 then x - tp_tk σ (nI i) nS else x) n x
theorem op_paid {σ : tp_St} {a b : Int32} (h : RR_all σ) : tp_E 73 0 [.ref 0, .int a, .int b, .null, .null] [] σ (tp_Res 119 [.ref 58, .int a, .int b, .null, .null]) := by
  obtain ⟨nT, nR, nS, nB, nD, hT, hP, hR, hS, hH, hA, hL, hD, hK⟩ := id h
  obtain ⟨r1, r2, r3, r4⟩ := id hR
  have bad : (¬ (0 ≤ a.toInt ∧ a.toInt ≤ 5) ∨ ¬ (0 ≤ b.toInt ∧ b.toInt ≤ 100000)) → tp_Res 119 [.ref 58, .int a, .int b, .null, .null] (-1000000) σ := fun hb =>
    sg_119_0 _ _ (tp_if (sp_101 tp_i64 (l := 0) rfl (h := 5) rfl) (fun p1 => tp_if (sp_101 tp_i64 (l := 0) rfl (h := 100000) rfl) (fun p2 => by omega) (fun p2 => ⟨rfl, h⟩)) (fun p1 => ⟨rfl, h⟩))
  refine sg_73_0 _ _ (tp_if (sp_91 (l := 0) rfl (h := 5) rfl) (fun q1 => bad (by omega)) (fun q1 => tp_if (sp_91 (l := 0) rfl (h := 100000) rfl) (fun q2 => bad (by omega)) (fun q2 => ?_)))
  refine tp_fold (E := fun i x => tp_E 73 27 [.ref 0, .int a, .null, .int x, .int (nI i)] [] σ _) (step := fun i x => if σ.1 12 i = a ∧ σ.1 14 i = 0 then x - tp_tk σ (nI i) nS else x) (n := nR) (a := b) (fun i x hi g => ?_) ?_
  · refine sg_73_27 _ _ _ ?_
    rw [tp_c (show i < 1000000 by omega), r2, nI_1]
    refine ⟨fun c => absurd c (tp_nle hi (by omega)), fun _ => ⟨tp_vi (by omega) (by omega), fun c => ⟨tp_vi (by omega) (by omega), fun c2 => sp_93 hT hS _ ?_, fun c2 => ?_⟩, fun c => ?_⟩⟩
    · rw [if_pos ⟨c, c2⟩] at g; exact g
    · rw [if_neg (fun z => c2 z.2)] at g; exact g
    · rw [if_neg (fun z => c z.1)] at g; exact g
  · refine sg_73_27 _ _ _ ?_
    rw [r2]
    refine ⟨fun _ => ?_, fun c => absurd (tp_le.mpr (Int.le_refl _)) c⟩
    refine sg_119_0 _ _ (tp_if (sp_101 tp_i64 (l := 0) rfl (h := 5) rfl) (fun p1 => tp_if (sp_101 tp_i64 (l := 0) rfl (h := 100000) rfl) (fun p2 => ?_) (fun p2 => by omega)) (fun p1 => by omega))
    refine tp_fold (E := fun i x => tp_E 119 32 [.ref 58, .int a, .null, .int x, .int (nI i)] [] σ _) (step := fun i x => if σ.1 12 i = a ∧ σ.1 14 i = 0 then x - tp_tk σ (nI i) nS else x) (n := nR) (a := b) (fun i x hi g => ?_) ?_
    · obtain ⟨k1, k2, k3, k4, k5, k6⟩ := r4 i hi
      refine sg_119_32 _ _ _ ?_
      rw [tp_c (show i < 1000000 by omega), r3, nI_1, k1, k3, Int32.sub_zero]
      refine ⟨fun c => absurd c (tp_nle hi (by omega)), fun _ => ⟨tp_vi (by omega) (by omega), fun c => ⟨tp_vi (by omega) (by omega), fun c2 => sp_108 hT hS _ ?_, fun c2 => ?_⟩, fun c => ?_⟩⟩
      · rw [if_pos ⟨c, c2⟩] at g; exact g
      · rw [if_neg (fun z => c2 z.2)] at g; exact g
      · rw [if_neg (fun z => c z.1)] at g; exact g
    · refine sg_119_32 _ _ _ ?_
      rw [r3]
      exact ⟨fun _ => ⟨rfl, h⟩, fun c => absurd (tp_le.mpr (Int.le_refl _)) c⟩
theorem op_type {σ : tp_St} {a b : Int32} (h : RR_all σ) : tp_E 61 0 [.ref 0, .int a, .int b] [] σ (tp_Res 102 [.ref 58, .int a, .int b]) := by
  obtain ⟨nT, nR, nS, nB, nD, hT, hP, hR, hS, hH, hA, hL, hD, hK⟩ := id h
  obtain ⟨t1, t2, t3, t4⟩ := id hT
  have bad : (¬ (1 ≤ a.toInt ∧ a.toInt ≤ 60) ∨ ¬ (1 ≤ b.toInt ∧ b.toInt ≤ 9)) → tp_Res 102 [.ref 58, .int a, .int b] (-1) σ := fun hb =>
    sg_102_0 _ _ (tp_if (sp_101 tp_i64 (l := 1) rfl (h := 60) rfl) (fun p1 => tp_if (sp_101 tp_i64 (l := 1) rfl (h := 9) rfl) (fun p2 => by omega) (fun p2 => ⟨rfl, h⟩)) (fun p1 => ⟨rfl, h⟩))
  refine sg_61_0 _ _ (tp_if (sp_91 (l := 1) rfl (h := 60) rfl) (fun q1 => bad (by omega)) (fun q1 => tp_if (sp_91 (l := 1) rfl (h := 9) rfl) (fun q2 => bad (by omega)) (fun q2 => ?_)))
  refine sg_60_0 _ _ ?_
  rw [t2, tp_c (show nT < 1000000 by omega), nI_1]
  refine ⟨fun c => ?_, fun c => ?_⟩
  · have c5 : nT < 5 := by rw [tp_lt, tp_t (by omega)] at c; have : (nT : Int) < 5 := c; omega
    refine ⟨tp_vi (by omega) (by omega), tp_vi (by omega) (by omega), ?_⟩
    refine sg_102_0 _ _ (tp_if (sp_101 tp_i64 (l := 1) rfl (h := 60) rfl) (fun p1 => tp_if (sp_101 tp_i64 (l := 1) rfl (h := 9) rfl) (fun p2 => ?_) (fun p2 => by omega)) (fun p1 => by omega))
    rw [tp_sg_ne (by omega), tp_sg_ne (by omega), tp_sg_ne (by omega), t3, tp_c (show nT < 1000000 by omega), nI_1, nI_pred]
    refine ⟨fun c2 => ?_, fun c2 => ⟨tp_vi (by omega) (by omega), tp_vi (by omega) (by omega), rfl, ?_⟩⟩
    · rw [tp_eq, tp_t (by omega)] at c2
      have : (nT : Int) = 5 := c2
      omega
    · refine ⟨nT + 1, nR, nS, nB, nD, ⟨by omega, ?_, ?_, fun k hk => ?_⟩, RP_fr hP (fun o k hd => (tp_sg_ne (by omega)).trans ((tp_sg_ne (by omega)).trans ((tp_sg_ne (by omega)).trans ((tp_sg_ne (by omega)).trans ((tp_sg_ne (by omega)).trans ((tp_sg_ne (by omega)).trans (rfl))))))), RR_fr hR (fun o k hd => (tp_sg_ne (by omega)).trans ((tp_sg_ne (by omega)).trans ((tp_sg_ne (by omega)).trans ((tp_sg_ne (by omega)).trans ((tp_sg_ne (by omega)).trans ((tp_sg_ne (by omega)).trans (rfl))))))), RS_fr hS (by omega) (Nat.le_refl _) (fun o k hd => (tp_sg_ne (by omega)).trans ((tp_sg_ne (by omega)).trans ((tp_sg_ne (by omega)).trans ((tp_sg_ne (by omega)).trans ((tp_sg_ne (by omega)).trans ((tp_sg_ne (by omega)).trans (rfl))))))), RH_fr hH (fun o k hd => (tp_sg_ne (by omega)).trans ((tp_sg_ne (by omega)).trans ((tp_sg_ne (by omega)).trans ((tp_sg_ne (by omega)).trans ((tp_sg_ne (by omega)).trans ((tp_sg_ne (by omega)).trans (rfl))))))), RA_fr hA (fun o k hd => (tp_sg_ne (by omega)).trans ((tp_sg_ne (by omega)).trans ((tp_sg_ne (by omega)).trans ((tp_sg_ne (by omega)).trans ((tp_sg_ne (by omega)).trans ((tp_sg_ne (by omega)).trans (rfl))))))), RLw_fr hL rfl (fun o k hd => (tp_sg_ne (by omega)).trans ((tp_sg_ne (by omega)).trans ((tp_sg_ne (by omega)).trans ((tp_sg_ne (by omega)).trans ((tp_sg_ne (by omega)).trans ((tp_sg_ne (by omega)).trans (rfl))))))), RD_fr hD (fun o k hd => (tp_sg_ne (by omega)).trans ((tp_sg_ne (by omega)).trans ((tp_sg_ne (by omega)).trans ((tp_sg_ne (by omega)).trans ((tp_sg_ne (by omega)).trans ((tp_sg_ne (by omega)).trans (rfl))))))), RK_fr hK (fun o k hd => (tp_sg_ne (by omega)).trans ((tp_sg_ne (by omega)).trans ((tp_sg_ne (by omega)).trans ((tp_sg_ne (by omega)).trans ((tp_sg_ne (by omega)).trans ((tp_sg_ne (by omega)).trans (rfl)))))))⟩
      · rw [tp_sg_ne (by omega), tp_sg_ne (by omega), tp_sg_ne (by omega), tp_sg_eq]
      · rw [tp_sg_eq]
      · by_cases e : k = nT
        · subst e
          simp only [tp_sg]
          simp
          exact ⟨⟨by omega, by omega⟩, by omega, by omega⟩
        · rw [tp_sg_ne (by omega), tp_sg_ne (by omega), tp_sg_ne (by omega), tp_sg_ne (by omega), tp_sg_ne (by omega), tp_sg_ne (by omega), tp_sg_ne (by omega), tp_sg_ne (by omega), tp_sg_ne (by omega), tp_sg_ne (by omega), tp_sg_ne (by omega), tp_sg_ne (by omega), tp_sg_ne (by omega), tp_sg_ne (by omega), tp_sg_ne (by omega), tp_sg_ne (by omega), tp_sg_ne (by omega), tp_sg_ne (by omega), tp_sg_ne (by omega), tp_sg_ne (by omega), tp_sg_ne (by omega), tp_sg_ne (by omega), tp_sg_ne (by omega), tp_sg_ne (by omega)]
          exact t4 k (by omega)
  · have c5 : nT = 5 := by rw [tp_lt, tp_t (by omega)] at c; have : ¬ (nT : Int) < 5 := c; omega
    refine sg_102_0 _ _ (tp_if (sp_101 tp_i64 (l := 1) rfl (h := 60) rfl) (fun p1 => tp_if (sp_101 tp_i64 (l := 1) rfl (h := 9) rfl) (fun p2 => ?_) (fun p2 => by omega)) (fun p1 => by omega))
    rw [t3, c5]
    exact ⟨fun _ => ⟨rfl, h⟩, fun c2 => absurd rfl c2⟩
theorem sp_14 {σ : tp_St} {c y : Nat} (hc : c < 6) (hy : y < 5) : tp_val 14 [.ref 2, .int (nI c), .int (nI y)] σ (σ.1 (52 + c) y - σ.1 (46 + c) y) := by
  intro post hp
  refine sg_14_0 _ _ ?_
  rw [tp_c (show c < 1000000 by omega), tp_c (show y < 1000000 by omega)]
  exact ⟨tp_vi hc (by omega), tp_vi hy (by omega), tp_vi hc (by omega), tp_vi hy (by omega), hp⟩
theorem tp_5c {c y : Nat} : (5 : Int32) * nI c + nI y = nI (5 * c + y) := by
  rw [show (5 : Int32) = nI 5 from rfl, pk_mul, nI_add]
theorem tp_lit {a b : Int32} {x y : Int} (ha : a.toInt = x) (hb : b.toInt = y) : a = b ↔ x = y := by rw [tp_eq, ha, hb]
theorem tp_sub0 {a b : Int32} (h : a - b = 0) : a = b := by rw [← Int32.sub_add_cancel a b, h, Int32.zero_add]
theorem op_pack {σ : tp_St} {a b w : Int32} (h : RR_all σ) : tp_E 63 0 [.ref 0, .int a, .int b, .int w, .null] [] σ (tp_Res 105 [.ref 58, .int a, .int b, .int w, .null]) := by
  obtain ⟨nT, nR, nS, nB, nD, hT, hP, hR, hS, hH, hA, hL, hD, hK⟩ := id h
  obtain ⟨t1, t2, t3, t4⟩ := id hT
  have bad : (¬ ((0 ≤ a.toInt ∧ a.toInt < 6) ∧ 0 ≤ b.toInt ∧ b.toInt < nT) ∨ ¬ (0 ≤ w.toInt ∧ w.toInt ≤ 1)) → tp_Res 105 [.ref 58, .int a, .int b, .int w, .null] (-1) σ := fun hb =>
    sg_105_0 _ _ _ (tp_if (sp_103 t3 (by omega)) (fun p1 => tp_if (sp_101 tp_i64 (l := 0) rfl (h := 1) rfl) (fun p2 => by omega) (fun p2 => ⟨rfl, h⟩)) (fun p1 => ⟨rfl, h⟩))
  refine sg_63_0 _ _ _ (tp_if (sp_92 t2 (by omega)) (fun q1 => tp_if (sp_91 (l := 0) rfl (h := 1) rfl) (fun q2 => bad (by omega)) (fun q2 => ?_)) (fun q1 => bad (Or.inl q1)))
  obtain ⟨c, hc, rfl⟩ := tp_rg_nI (x := a) (hi := 5) ⟨q1.1.1, by omega⟩ (by omega)
  obtain ⟨y, hy, rfl⟩ := tp_rg_nI (x := b) (hi := nT - 1) ⟨q1.2.1, by omega⟩ (by omega)
  have hyT : y < nT := by have := q1.2.2; rw [tp_t (by omega)] at this; omega
  refine sp_14 (show c < 6 by omega) (show y < 5 by omega) _ ?_
  obtain ⟨p1, p2, p3, p4, p5⟩ := hP c y (by omega) (by omega)
  rw [tp_c (show c < 1000000 by omega), tp_c (show y < 1000000 by omega)]
  have model : ∀ r, (w = 1 → r = σ.1 (52 + c) y - σ.1 (46 + c) y) → (¬ w = 1 → σ.1 (52 + c) y = σ.1 (46 + c) y → r = -4) → (¬ w = 1 → ¬ σ.1 (52 + c) y = σ.1 (46 + c) y → r = σ.1 (46 + c) y) → tp_Res 105 [.ref 58, .int (nI c), .int (nI y), .int w, .null] r σ := fun r e1 e2 e3 => by
    refine sg_105_0 _ _ _ (tp_if (sp_103 t3 (by omega)) (fun _ => tp_if (sp_101 tp_i64 (l := 0) rfl (h := 1) rfl) (fun _ => ?_) (fun z => by omega)) (fun z => absurd q1 z))
    rw [tp_5c, tp_c (show 5 * c + y < 1000000 by omega), p1, p2]
    have hv := tp_vi (show 5 * c + y < 30 by omega) (by omega)
    refine ⟨fun z => ⟨hv, hv, e1 z, h⟩, fun z => ⟨hv, hv, fun z2 => ⟨e2 z ?_, h⟩, fun z2 => ⟨hv, e3 z (fun z3 => z2 ?_), h⟩⟩⟩
    · rw [tp_le] at z2; rw [tp_eq]; omega
    · rw [tp_le, z3]; exact Int.le_refl _
  refine ⟨fun z => model _ (fun _ => rfl) (fun z2 => absurd z z2) (fun z2 => absurd z z2), fun z => ⟨fun z2 => model _ (fun z3 => absurd z3 z) (fun _ _ => rfl) (fun _ z4 => absurd ?_ z4), fun z2 => ⟨tp_vi (show c < 6 by omega) (by omega), tp_vi (show y < 5 by omega) (by omega), model _ (fun z3 => absurd z3 z) (fun _ z4 => absurd ?_ z2) (fun _ _ => rfl)⟩⟩⟩
  · exact tp_sub0 z2
  · rw [z4, Int32.sub_self]
theorem tp_bool01 {a : Int32} (h : a = 0 ∨ a = 1) : vp_nar .boolean a = a := by rcases h with rfl | rfl <;> first | exact tp_bz | exact tp_bo
theorem sp_55 {σ : tp_St} {c : Int32} {n : Nat} (hn : σ.1 3 3 = nI n) (h : n ≤ 16) : tp_bool 55 [.ref 3, .int c, .null] σ (∃ k, k < n ∧ σ.1 12 k = c ∧ ¬ σ.1 14 k = 0) := by
  intro post h1 h0
  refine sg_55_0 _ ?_
  refine tp_up_loop (E := fun i => (∀ k, k < i → ¬ (σ.1 12 k = c ∧ ¬ σ.1 14 k = 0)) → tp_E 55 2 [.ref 3, .int c, .int (nI i)] [] σ post) (n := n) (fun i hi g hno => ?_) (fun hno => ?_) 0 (Nat.zero_le _) (fun k hk => absurd hk (Nat.not_lt_zero _))
  · refine sg_55_2 _ _ ?_
    rw [tp_c (show i < 1000000 by omega), hn, nI_1]
    have step : ¬ (σ.1 12 i = c ∧ ¬ σ.1 14 i = 0) → tp_E 55 2 [.ref 3, .int c, .int (nI (i + 1))] [] σ post := fun q => g (fun k hk => by
      by_cases e : k = i
      · rw [e]; exact q
      · exact hno k (by omega))
    exact ⟨fun z => absurd z (tp_nle hi (by omega)), fun _ => ⟨tp_vi (by omega) (by omega), fun z => step (fun q => q.2 z), fun z => ⟨tp_vi (by omega) (by omega), fun z2 => h1 ⟨i, hi, z2, z⟩, fun z2 => step (fun q => z2 q.1)⟩⟩⟩
  · refine sg_55_2 _ _ ?_
    rw [hn]
    exact ⟨fun _ => h0 (fun ⟨k, hk, q⟩ => hno k hk q), fun z => absurd (tp_le.mpr (Int.le_refl _)) z⟩
theorem op_trip {σ : tp_St} {a u : Int32} (hu : u = 0 ∨ u = 1) (h : RR_all σ) : tp_E 64 0 [.ref 0, .int a, .int u] [] σ (tp_Res 106 [.ref 58, .int a, .int u, .null]) := by
  obtain ⟨nT, nR, nS, nB, nD, hT, hP, hR, hS, hH, hA, hL, hD, hK⟩ := id h
  obtain ⟨r1, r2, r3, r4⟩ := id hR
  refine sg_64_0 _ _ (tp_if (sp_91 (l := 0) rfl (h := 5) rfl) (fun q1 => ?_) (fun q1 => tp_if (sp_55 r2 r1) (fun q2 => ?_) (fun q2 => ?_)))
  · exact sg_106_0 _ _ (tp_if (sp_101 tp_i64 (l := 0) rfl (h := 5) rfl) (fun p1 => by omega) (fun p1 => ⟨rfl, h⟩))
  · -- one is open
    refine sg_106_0 _ _ (tp_if (sp_101 tp_i64 (l := 0) rfl (h := 5) rfl) (fun p1 => ?_) (fun p1 => by omega))
    obtain ⟨k, hk, hk1, hk2⟩ := q2
    refine tp_up_loop (E := fun i => i ≤ k → tp_E 106 16 [.ref 58, .int a, .int u, .int (nI i)] [] σ _) (n := k + 1) (fun i hi g hik => ?_) (fun z => absurd z (by omega)) 0 (Nat.zero_le _) (Nat.zero_le _)
    refine sg_106_16 _ _ _ ?_
    obtain ⟨k1, k2, k3, k4, k5, k6⟩ := r4 i (by omega)
    rw [tp_c (show i < 1000000 by omega), r3, k1, k3]
    simp only [nI_1]
    refine ⟨fun z => absurd z (tp_nle (by omega) (by omega)), fun _ => ⟨tp_vi (by omega) (by omega), fun z => ⟨tp_vi (by omega) (by omega), fun z2 => ?_, fun z2 => ⟨trivial, h⟩⟩, fun z => ?_⟩⟩
    · by_cases e : i = k
      · rw [e] at z2
        exact absurd z2 hk2
      · exact g (by omega)
    · by_cases e : i = k
      · rw [e] at z
        exact absurd hk1 z
      · exact g (by omega)
  · refine sg_54_0 _ _ ?_
    rw [r2, tp_c (show nR < 1000000 by omega), nI_1, tp_bool01 hu, tp_bo]
    have hno : ∀ k, k < nR → ¬ (σ.1 12 k = a ∧ ¬ σ.1 14 k = 0) := fun k hk z => q2 ⟨k, hk, z⟩
    have e6 : nR < 16 → tp_E 106 0 [.ref 58, .int a, .int u, .null] [] (tp_set (tp_set (tp_set (tp_set σ 12 nR a) 13 nR u) 14 nR 1) 3 3 (nI (nR + 1))) (fun r' σ2 => nI nR = r' ∧ RR_all σ2) := by
      intro c16
      refine sg_106_0 _ _ (tp_if (sp_101 tp_i64 (l := 0) rfl (h := 5) rfl) (fun p1 => ?_) (fun p1 => by omega))
      refine tp_up_loop (E := fun i => tp_E 106 16 [.ref 58, .int a, .int u, .int (nI i)] [] _ _) (n := nR) (fun i hi g => ?_) ?_ 0 (Nat.zero_le _)
      · refine sg_106_16 _ _ _ ?_
        obtain ⟨k1, k2, k3, k4, k5, k6⟩ := r4 i hi
        have e1 : ∀ o, o ≠ 12 → o ≠ 13 → o ≠ 14 → o ≠ 3 → ∀ j, (tp_set (tp_set (tp_set (tp_set σ 12 nR a) 13 nR u) 14 nR 1) 3 3 (nI (nR + 1))).1 o j = σ.1 o j := fun o h1 h2 h3 h4 j => by rw [tp_sg_ne (by omega), tp_sg_ne (by omega), tp_sg_ne (by omega), tp_sg_ne (by omega)]
        rw [tp_c (show i < 1000000 by omega), e1 58 (by decide) (by decide) (by decide) (by decide), e1 63 (by decide) (by decide) (by decide) (by decide), e1 65 (by decide) (by decide) (by decide) (by decide), r3, k1, k3]
        simp only [nI_1]
        refine ⟨fun z => absurd z (tp_nle (by omega) (by omega)), fun _ => ⟨tp_vi (by omega) (by omega), fun z => ⟨tp_vi (by omega) (by omega), fun z2 => g, fun z2 => absurd ⟨z, z2⟩ (hno i hi)⟩, fun z => g⟩⟩
      · refine sg_106_16 _ _ _ ?_
        rw [tp_sg_ne (by omega), tp_sg_ne (by omega), tp_sg_ne (by omega), tp_sg_ne (by omega), r3, tp_c (show nR < 1000000 by omega), tp_bool01 hu, tp_bo, nI_1, nI_pred]
        refine ⟨fun _ => ⟨fun z => ?_, fun _ => ⟨tp_vi (by omega) (by omega), tp_vi (by omega) (by omega), tp_vi (by omega) (by omega), rfl, ?_⟩⟩, fun z => absurd (tp_le.mpr (Int.le_refl _)) z⟩
        · rw [tp_eq, tp_t (by omega)] at z
          have : (nR : Int) = 16 := z
          omega
        · obtain ⟨c, hc, rfl⟩ := tp_rg_nI (x := a) (hi := 5) ⟨p1.1, p1.2⟩ (by omega)
          refine ⟨nT, nR + 1, nS, nB, nD, RT_fr hT (fun o k hd => (tp_sg_ne (by omega)).trans ((tp_sg_ne (by omega)).trans ((tp_sg_ne (by omega)).trans ((tp_sg_ne (by omega)).trans ((tp_sg_ne (by omega)).trans ((tp_sg_ne (by omega)).trans ((tp_sg_ne (by omega)).trans ((tp_sg_ne (by omega)).trans (rfl))))))))), RP_fr hP (fun o k hd => (tp_sg_ne (by omega)).trans ((tp_sg_ne (by omega)).trans ((tp_sg_ne (by omega)).trans ((tp_sg_ne (by omega)).trans ((tp_sg_ne (by omega)).trans ((tp_sg_ne (by omega)).trans ((tp_sg_ne (by omega)).trans ((tp_sg_ne (by omega)).trans (rfl))))))))), ⟨by omega, ?_, ?_, fun k hk => ?_⟩, ?_, RH_fr hH (fun o k hd => (tp_sg_ne (by omega)).trans ((tp_sg_ne (by omega)).trans ((tp_sg_ne (by omega)).trans ((tp_sg_ne (by omega)).trans ((tp_sg_ne (by omega)).trans ((tp_sg_ne (by omega)).trans ((tp_sg_ne (by omega)).trans ((tp_sg_ne (by omega)).trans (rfl))))))))), RA_fr hA (fun o k hd => (tp_sg_ne (by omega)).trans ((tp_sg_ne (by omega)).trans ((tp_sg_ne (by omega)).trans ((tp_sg_ne (by omega)).trans ((tp_sg_ne (by omega)).trans ((tp_sg_ne (by omega)).trans ((tp_sg_ne (by omega)).trans ((tp_sg_ne (by omega)).trans (rfl))))))))), RLw_fr hL rfl (fun o k hd => (tp_sg_ne (by omega)).trans ((tp_sg_ne (by omega)).trans ((tp_sg_ne (by omega)).trans ((tp_sg_ne (by omega)).trans ((tp_sg_ne (by omega)).trans ((tp_sg_ne (by omega)).trans ((tp_sg_ne (by omega)).trans ((tp_sg_ne (by omega)).trans (rfl))))))))), RD_fr hD (fun o k hd => (tp_sg_ne (by omega)).trans ((tp_sg_ne (by omega)).trans ((tp_sg_ne (by omega)).trans ((tp_sg_ne (by omega)).trans ((tp_sg_ne (by omega)).trans ((tp_sg_ne (by omega)).trans ((tp_sg_ne (by omega)).trans ((tp_sg_ne (by omega)).trans (rfl))))))))), RK_fr hK (fun o k hd => (tp_sg_ne (by omega)).trans ((tp_sg_ne (by omega)).trans ((tp_sg_ne (by omega)).trans ((tp_sg_ne (by omega)).trans ((tp_sg_ne (by omega)).trans ((tp_sg_ne (by omega)).trans ((tp_sg_ne (by omega)).trans ((tp_sg_ne (by omega)).trans (rfl)))))))))⟩
          · rw [tp_sg_ne (by omega), tp_sg_ne (by omega), tp_sg_ne (by omega), tp_sg_ne (by omega), tp_sg_eq]
          · rw [tp_sg_eq]
          · by_cases e : k = nR
            · subst e
              simp only [tp_sg]
              simp
              exact ⟨⟨c, by omega, rfl⟩, hu⟩
            · obtain ⟨m1, m2, m3, m4, m5, m6⟩ := r4 k (by omega)
              have e1 : ∀ o, o ≠ 3 → o ≠ 58 → (tp_set (tp_set (tp_set (tp_set (tp_set (tp_set (tp_set (tp_set σ 12 nR (nI c)) 13 nR u) 14 nR 1) 3 3 (nI (nR + 1))) 63 nR (nI c)) 64 nR u) 65 nR 1) 58 5 (nI (nR + 1))).1 o k = σ.1 o k := fun o h1 h2 => by rw [tp_sg_ne (by omega), tp_sg_ne (by omega), tp_sg_ne (by omega), tp_sg_ne (by omega), tp_sg_ne (by omega), tp_sg_ne (by omega), tp_sg_ne (by omega), tp_sg_ne (by omega)]
              rw [e1 63 (by decide) (by decide), e1 64 (by decide) (by decide), e1 65 (by decide) (by decide), e1 12 (by decide) (by decide), e1 13 (by decide) (by decide), e1 14 (by decide) (by decide)]
              exact ⟨m1, m2, m3, m4, m5, m6⟩
          · exact RS_fr hS (Nat.le_refl _) (by omega) (fun o k hd => (tp_sg_ne (by omega)).trans ((tp_sg_ne (by omega)).trans ((tp_sg_ne (by omega)).trans ((tp_sg_ne (by omega)).trans ((tp_sg_ne (by omega)).trans ((tp_sg_ne (by omega)).trans ((tp_sg_ne (by omega)).trans ((tp_sg_ne (by omega)).trans (rfl)))))))))
    refine ⟨fun c => ⟨tp_vi ?_ (by omega), tp_vi ?_ (by omega), tp_vi ?_ (by omega), e6 ?_⟩, fun c => ?_⟩
    · rw [tp_lt, tp_t (by omega)] at c; have : (nR : Int) < 16 := c; omega
    · rw [tp_lt, tp_t (by omega)] at c; have : (nR : Int) < 16 := c; omega
    · rw [tp_lt, tp_t (by omega)] at c; have : (nR : Int) < 16 := c; omega
    · rw [tp_lt, tp_t (by omega)] at c; have : (nR : Int) < 16 := c; omega
    · have c16 : nR = 16 := by rw [tp_lt, tp_t (by omega)] at c; have : ¬ (nR : Int) < 16 := c; omega
      refine sg_106_0 _ _ (tp_if (sp_101 tp_i64 (l := 0) rfl (h := 5) rfl) (fun p1 => ?_) (fun p1 => by omega))
      refine tp_up_loop (E := fun i => tp_E 106 16 [.ref 58, .int a, .int u, .int (nI i)] [] _ _) (n := nR) (fun i hi g => ?_) ?_ 0 (Nat.zero_le _)
      · refine sg_106_16 _ _ _ ?_
        obtain ⟨k1, k2, k3, k4, k5, k6⟩ := r4 i hi
        rw [tp_c (show i < 1000000 by omega), r3, k1, k3]
        simp only [nI_1]
        exact ⟨fun z => absurd z (tp_nle (by omega) (by omega)), fun _ => ⟨tp_vi (by omega) (by omega), fun z => ⟨tp_vi (by omega) (by omega), fun z2 => g, fun z2 => absurd ⟨z, z2⟩ (hno i hi)⟩, fun z => g⟩⟩
      · refine sg_106_16 _ _ _ ?_
        rw [r3, c16]
        exact ⟨fun _ => ⟨fun _ => ⟨rfl, h⟩, fun z => absurd rfl z⟩, fun z => absurd (tp_le.mpr (Int.le_refl _)) z⟩
