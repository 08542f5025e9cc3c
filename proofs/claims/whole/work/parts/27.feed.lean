/-! feeding the tape -/
theorem and255 (x : Int32) : (x &&& 255).toInt = x.toInt % 256 := by
  have e : x.toInt = (x.toBitVec.toNat : Int).bmod (2 ^ 32) := by rw [← Int32.toInt_toBitVec, BitVec.toInt_eq_toNat_bmod]
  have e2 : (x &&& 255).toInt = ((x.toBitVec.toNat % 256 : Nat) : Int).bmod (2 ^ 32) := by
    rw [← Int32.toInt_toBitVec, BitVec.toInt_eq_toNat_bmod, Int32.toBitVec_and, BitVec.toNat_and, show (255 : Int32).toBitVec.toNat = 2 ^ 8 - 1 from rfl, Nat.and_two_pow_sub_one_eq_mod]
  rw [e, e2]
  have := x.toBitVec.isLt
  simp only [Int.bmod_def]
  omega
theorem i8_8 (x : Int32) : x.toInt8.toInt32.toInt8.toInt32 = x.toInt8.toInt32 := by
  apply Int32.toInt_inj.mp
  rw [Int8.toInt_toInt32, Int32.toInt_toInt8, Int8.toInt_toInt32, Int32.toInt_toInt8, Int.bmod_bmod]
theorem nar8 (x : Int32) : vp_nar .byte x = x.toInt8.toInt32 := rfl
/-- a byte of a long, as the class keeps it -/
def fd_b (v : Int64) (s : Int32) : Int32 := vp_nar .byte ((((v).toUInt64 >>> ((s).toInt64.toUInt64 &&& Int64.toUInt64 63)).toInt64).toInt32).toInt8.toInt32
def fd_m (v : Int64) (s : Int32) : Int32 := ((v >>> ((s).toInt64 &&& 63))).toInt32 &&& 255
theorem fd_8 (v : Int64) (s : Int32) : (fd_b v s).toInt8.toInt32 = fd_b v s := by
  unfold fd_b
  rw [nar8, i8_8, i8_8]
theorem bm_mod (x : Int) {m : Nat} (h : (256 : Int) ∣ (m : Int)) : x.bmod m % 256 = x % 256 := by
  rw [← Int.emod_emod_of_dvd (x.bmod m) h, Int.bmod_emod, Int.emod_emod_of_dvd x h]
theorem fd_gen {v : Int64} {s : Int32} {k : Nat} (hk : k ≤ 56) (hu : (s.toInt64.toUInt64 &&& Int64.toUInt64 63).toNat % 64 = k) (hs : ((s.toInt64 &&& 63).toBitVec.smod 64).toNat = k) (hmod : ∀ n : Nat, ((n : Int).bmod (2 ^ 64) / 2 ^ k) % 256 = ((n / 2 ^ k : Nat) : Int) % 256) : fd_m v s = fd_b v s &&& 255 := by
  apply Int32.toInt_inj.mp
  unfold fd_m fd_b
  rw [nar8, i8_8, and255, and255, Int8.toInt_toInt32, Int32.toInt_toInt8, Int64.toInt_toInt32, Int64.toInt_toInt32]
  have e1 : (v >>> (s.toInt64 &&& 63)).toInt = (v.toBitVec.toNat : Int).bmod (2 ^ 64) / 2 ^ k := by
    rw [← Int64.toInt_toBitVec, Int64.toBitVec_shiftRight, BitVec.sshiftRight_eq', BitVec.toInt_sshiftRight, hs, BitVec.toInt_eq_toNat_bmod, Int.shiftRight_eq_div_pow]
    norm_cast
  have e2 : ((v.toUInt64 >>> (s.toInt64.toUInt64 &&& Int64.toUInt64 63)).toInt64).toInt = ((v.toBitVec.toNat / 2 ^ k : Nat) : Int).bmod (2 ^ 64) := by
    rw [← Int64.toInt_toBitVec, BitVec.toInt_eq_toNat_bmod]
    congr 1
    show (((v.toUInt64 >>> (s.toInt64.toUInt64 &&& Int64.toUInt64 63)).toNat : Nat) : Int) = _
    rw [UInt64.toNat_shiftRight, hu, Nat.shiftRight_eq_div_pow]
    rfl
  rw [e1, e2, bm_mod _ (m := 2 ^ 32) (by decide), bm_mod _ (m := 2 ^ 8) (by decide), bm_mod _ (m := 2 ^ 32) (by decide), bm_mod _ (m := 2 ^ 64) (by decide)]
  exact hmod v.toBitVec.toNat
def fd_s : Nat → Int32
  | 0 => 56
  | i + 1 => fd_s i + (-8)
theorem fd_eq {v : Int64} {i : Nat} (hi : i < 8) : fd_m v (fd_s i) = fd_b v (fd_s i) &&& 255 := by
  rcases (show i = 0 ∨ i = 1 ∨ i = 2 ∨ i = 3 ∨ i = 4 ∨ i = 5 ∨ i = 6 ∨ i = 7 by omega) with rfl | rfl | rfl | rfl | rfl | rfl | rfl | rfl
  · exact fd_gen (k := 56) (by omega) (by decide) (by decide) (fun n => by simp only [Int.bmod_def]; omega)
  · exact fd_gen (k := 48) (by omega) (by decide) (by decide) (fun n => by simp only [Int.bmod_def]; omega)
  · exact fd_gen (k := 40) (by omega) (by decide) (by decide) (fun n => by simp only [Int.bmod_def]; omega)
  · exact fd_gen (k := 32) (by omega) (by decide) (by decide) (fun n => by simp only [Int.bmod_def]; omega)
  · exact fd_gen (k := 24) (by omega) (by decide) (by decide) (fun n => by simp only [Int.bmod_def]; omega)
  · exact fd_gen (k := 16) (by omega) (by decide) (by decide) (fun n => by simp only [Int.bmod_def]; omega)
  · exact fd_gen (k := 8) (by omega) (by decide) (by decide) (fun n => by simp only [Int.bmod_def]; omega)
  · exact fd_gen (k := 0) (by omega) (by decide) (by decide) (fun n => by simp only [Int.bmod_def]; omega)
theorem fd_pos : (∀ i, i < 8 → ¬ fd_s i < 0) ∧ fd_s 8 < 0 := by decide
theorem op_feed {σ : tp_St} {v : Int64} (h : RR_all σ) : tp_E 79 0 [.ref 0, .long v, .null] [] σ (tp_Res 127 [.ref 58, .long v, .null, .null]) := by
  obtain ⟨nT, nR, nS, nB, nD, hT, hP, hR, hS, hH, hA, hL, hD, hK⟩ := id h
  obtain ⟨a1, a2, a3, a4⟩ := id hA
  refine sg_79_0 _ (sg_45_0 _ ?_)
  have c8 : ∀ x : Int32, x = nI nB → (x + 8 ≤ 200 ↔ nB + 8 ≤ 200) := fun x hx => by
    rw [hx, show (8 : Int32) = nI 8 from rfl, nI_add, show (200 : Int32) = nI 200 from rfl, tp_leN (by omega) (by omega)]
  rw [c8 _ a2]
  refine ⟨fun hle => ?_, fun hno => sg_127_0 _ ?_⟩
  · refine tp_up_loop (E := fun i => ∀ σ1 : tp_St, (∀ o k, ¬ (o = 27 ∧ nB ≤ k) → ¬ (o = 19 ∧ k = 1) → σ1.1 o k = σ.1 o k) → σ1.2 = σ.2 → σ1.1 19 1 = nI (nB + i) → (∀ j, j < i → σ1.1 27 (nB + j) = fd_b v (fd_s j)) → tp_E 45 19 [.ref 19, .long v, .null, .int (fd_s i)] [] σ1 _) (n := 8) (fun i hi z σ1 h1 h2 h3 h4 => ?_) (fun σ1 h1 h2 h3 h4 => ?_) 0 (Nat.zero_le _) σ (fun _ _ _ _ => rfl) rfl a2 (fun j hj => absurd hj (Nat.not_lt_zero j))
    · refine sg_45_19 _ _ ?_
      rw [h3, tp_c (show nB + i < 1000000 by omega), nI_1]
      refine ⟨fun w => absurd w (fd_pos.1 i hi), fun _ => ⟨tp_vi (by omega) (by omega), z _ (fun o k q1 q2 => ?_) h2 tp_sg_eq (fun j hj => ?_)⟩⟩
      · rw [tp_sg_ne (by omega), tp_sg_ne (by omega)]; exact h1 o k q1 q2
      · rw [tp_sg_ne (by omega)]
        by_cases q : j = i
        · subst q; rw [tp_sg_eq]; rfl
        · rw [tp_sg_ne (by omega)]; exact h4 j (by omega)
    · refine sg_45_19 _ _ ⟨fun _ => ?_, fun w => absurd fd_pos.2 w⟩
      rw [h3]
      refine sg_127_0 _ ?_
      rw [h1 58 18 (by omega) (by omega), c8 _ a3]
      refine ⟨fun _ => ?_, fun w => absurd hle w⟩
      refine tp_up_loop (E := fun i => ∀ σ2 : tp_St, (∀ o k, ¬ (o = 73 ∧ nB ≤ k) → ¬ (o = 58 ∧ k = 18) → σ2.1 o k = σ1.1 o k) → σ2.2 = σ1.2 → σ2.1 58 18 = nI (nB + i) → (∀ j, j < i → σ2.1 73 (nB + j) = fd_m v (fd_s j)) → tp_E 127 19 [.ref 58, .long v, .null, .int (fd_s i)] [] σ2 (fun r' σ3 => nI (nB + 8) = r' ∧ RR_all σ3)) (n := 8) (fun i hi z σ2 g1 g2 g3 g4 => ?_) (fun σ2 g1 g2 g3 g4 => ?_) 0 (Nat.zero_le _) σ1 (fun _ _ _ _ => rfl) rfl ((h1 58 18 (by omega) (by omega)).trans a3) (fun j hj => absurd hj (Nat.not_lt_zero j))
      · refine sg_127_19 _ _ ?_
        rw [g3, tp_c (show nB + i < 1000000 by omega), nI_1]
        refine ⟨fun w => absurd w (fd_pos.1 i hi), fun _ => ⟨tp_vi (by omega) (by omega), z _ (fun o k q1 q2 => ?_) g2 tp_sg_eq (fun j hj => ?_)⟩⟩
        · rw [tp_sg_ne (by omega), tp_sg_ne (by omega)]; exact g1 o k q1 q2
        · rw [tp_sg_ne (by omega)]
          by_cases q : j = i
          · subst q; rw [tp_sg_eq]; rfl
          · rw [tp_sg_ne (by omega)]; exact g4 j (by omega)
      · refine sg_127_19 _ _ ⟨fun _ => ⟨g3.symm, ?_⟩, fun w => absurd fd_pos.2 w⟩
        have e : ∀ o k, ¬ ((o = 27 ∨ o = 73) ∧ nB ≤ k) → ¬ (o = 19 ∧ k = 1) → ¬ (o = 58 ∧ k = 18) → σ2.1 o k = σ.1 o k := fun o k q1 q2 q3 => (g1 o k (by omega) q3).trans (h1 o k (by omega) q2)
        refine ⟨nT, nR, nS, nB + 8, nD, RT_fr hT (fun o k hd => e o k (by omega) (by omega) (by omega)), RP_fr hP (fun o k hd => e o k (by omega) (by omega) (by omega)), RR_fr hR (fun o k hd => e o k (by omega) (by omega) (by omega)), RS_fr hS (Nat.le_refl _) (Nat.le_refl _) (fun o k hd => e o k (by omega) (by omega) (by omega)), RH_fr hH (fun o k hd => e o k (by omega) (by omega) (by omega)), ⟨hle, ?_, g3, fun j hj => ?_⟩, RLw_fr hL (g2.trans h2) (fun o k hd => e o k (by omega) (by omega) (by omega)), RD_fr hD (fun o k hd => e o k (by omega) (by omega) (by omega)), RK_fr hK (fun o k hd => e o k (by omega) (by omega) (by omega))⟩
        · rw [g1 19 1 (by omega) (by omega)]; exact h3
        · by_cases q : j < nB
          · rw [e 73 j (by omega) (by omega) (by omega), e 27 j (by omega) (by omega) (by omega)]
            exact a4 j q
          · obtain ⟨i, rfl⟩ : ∃ i, j = nB + i := ⟨j - nB, by omega⟩
            rw [g4 i (by omega), g1 27 (nB + i) (by omega) (by omega), h4 i (by omega)]
            exact ⟨fd_eq (by omega), fd_8 _ _⟩
  · rw [c8 _ a3]
    exact ⟨fun w => absurd w hno, fun _ => ⟨rfl, h⟩⟩
