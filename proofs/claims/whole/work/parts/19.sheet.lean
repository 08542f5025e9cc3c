/-! sheets -/
theorem tp_rr20 {σ : tp_St} {k : Nat} (hk : k < 4) : tp_rr σ (20 + k) 0 = 32 + k := by
  rcases (show k = 0 ∨ k = 1 ∨ k = 2 ∨ k = 3 by omega) with rfl | rfl | rfl | rfl <;> rfl
theorem tp_q20 {k : Nat} (hk : k < 4) : 20 + k = 20 ∨ 20 + k = 21 ∨ 20 + k = 22 ∨ 20 + k = 23 := by omega
theorem tp_q4 {k : Nat} {P : Nat → Prop} (hk : k < 4) (h : P (20 + k)) : (nI k = 0 → P 20) ∧ (nI k = 1 → P 21) ∧ (nI k = 2 → P 22) ∧ (nI k = 3 → P 23) := by
  rcases (show k = 0 ∨ k = 1 ∨ k = 2 ∨ k = 3 by omega) with rfl | rfl | rfl | rfl
  · exact ⟨fun _ => h, fun z => absurd z (by decide), fun z => absurd z (by decide), fun z => absurd z (by decide)⟩
  · exact ⟨fun z => absurd z (by decide), fun _ => h, fun z => absurd z (by decide), fun z => absurd z (by decide)⟩
  · exact ⟨fun z => absurd z (by decide), fun z => absurd z (by decide), fun _ => h, fun z => absurd z (by decide)⟩
  · exact ⟨fun z => absurd z (by decide), fun z => absurd z (by decide), fun z => absurd z (by decide), fun _ => h⟩
def tp_fl (o b n : Nat) (σ : tp_St) : tp_St := tp_fo (fun i s => tp_set s o (b + i) 0) n σ
theorem tp_fl_g {o b n : Nat} {σ : tp_St} {o' k' : Nat} : (tp_fl o b n σ).1 o' k' = if o' = o ∧ b ≤ k' ∧ k' < b + n then 0 else σ.1 o' k' := by
  induction n with
  | zero => rw [if_neg (by omega)]; rfl
  | succ n ih =>
    show (tp_set (tp_fl o b n σ) o (b + n) 0).1 o' k' = _
    rw [tp_sg, ih]
    by_cases h1 : o' = o
    · by_cases h2 : k' = b + n
      · rw [if_pos h1, if_pos h2, if_pos ⟨h1, by omega, by omega⟩]
      · rw [if_pos h1, if_neg h2]
        by_cases h3 : b ≤ k' ∧ k' < b + n
        · rw [if_pos ⟨h1, h3⟩, if_pos ⟨h1, by omega, by omega⟩]
        · rw [if_neg (fun z => h3 z.2), if_neg (fun z => h3 ⟨z.2.1, by omega⟩)]
    · rw [if_neg h1, if_neg (fun z => h1 z.1), if_neg (fun z => h1 z.1)]
theorem tp_fl_2 {o b n : Nat} {σ : tp_St} : (tp_fl o b n σ).2 = σ.2 := by
  induction n with
  | zero => rfl
  | succ n ih => exact ih
theorem sp_43 {σ : tp_St} {k : Nat} {l n : Int32} {post : Int32 → tp_St → Prop} (hk : k < 4) (hp : post 0 (tp_fl (32 + k) 0 64 (tp_set (tp_set σ (20 + k) 1 l) (20 + k) 2 n))) : tp_E 43 0 [.ref (20 + k), .int l, .int n, .null] [] σ post := by
  refine sg_43_0 _ _ _ (tp_q20 hk) ?_
  refine tp_up_loop (E := fun i => tp_E 43 12 [.ref (20 + k), .null, .null, .int (nI i)] [] (tp_fl (32 + k) 0 i (tp_set (tp_set σ (20 + k) 1 l) (20 + k) 2 n)) post) (n := 64) (fun i hi g => ?_) ?_ 0 (Nat.zero_le _)
  · refine sg_43_12 _ _ (tp_q20 hk) ?_
    rw [tp_rr20 hk, tp_c (show i < 1000000 by omega), show (64 : Int32) = nI 64 from rfl]
    simp only [nI_1]
    refine ⟨fun z => absurd z (tp_nle hi (by omega)), fun _ => ⟨tp_vi (by omega) (by omega), ?_⟩⟩
    have e : tp_fl (32 + k) 0 (i + 1) (tp_set (tp_set σ (20 + k) 1 l) (20 + k) 2 n) = tp_set (tp_fl (32 + k) 0 i (tp_set (tp_set σ (20 + k) 1 l) (20 + k) 2 n)) (32 + k) i 0 := by
      show tp_set _ _ (0 + i) _ = _
      rw [Nat.zero_add]
      rfl
    rw [e] at g
    exact g
  · refine sg_43_12 _ _ (tp_q20 hk) ?_
    rw [show (64 : Int32) = nI 64 from rfl]
    exact ⟨fun _ => hp, fun z => absurd (tp_le.mpr (Int.le_refl _)) z⟩
theorem tp_64 {k i : Nat} : (64 : Int32) * nI k + nI i = nI (64 * k + i) := by
  rw [show (64 : Int32) = nI 64 from rfl, pk_mul, nI_add]
theorem op_sheet {σ : tp_St} {a b w : Int32} (h : RR_all σ) : tp_E 68 0 [.ref 0, .int a, .int b, .int w] [] σ (tp_Res 114 [.ref 58, .int a, .int b, .int w, .null]) := by
  obtain ⟨nT, nR, nS, nB, nD, hT, hP, hR, hS, hH, hA, hL, hD, hK⟩ := id h
  have model : ∀ (r : Int32) (σ1 : tp_St), ((¬ (0 ≤ a.toInt ∧ a.toInt ≤ 3) ∨ ¬ (0 ≤ b.toInt ∧ b.toInt ≤ 2) ∨ ¬ w ≤ 64) → r = -1 ∧ RR_all σ1) → ((0 ≤ a.toInt ∧ a.toInt ≤ 3) → (0 ≤ b.toInt ∧ b.toInt ≤ 2) → w ≤ 64 → ¬ 0 ≤ w → r = -14 ∧ RR_all σ1) → ((0 ≤ a.toInt ∧ a.toInt ≤ 3) → (0 ≤ b.toInt ∧ b.toInt ≤ 2) → w ≤ 64 → 0 ≤ w → tp_E 114 56 [.ref 58, .int a, .null, .null, .int 0] [] (tp_set (tp_set σ1 70 a.toNatClampNeg b) 71 a.toNatClampNeg w) (fun r' σ2 => r = r' ∧ RR_all σ2)) → tp_Res 114 [.ref 58, .int a, .int b, .int w, .null] r σ1 := fun r σ1 e1 e2 e3 =>
    sg_114_0 _ _ _ (tp_if (sp_101 tp_i64 (l := 0) rfl (h := 3) rfl) (fun p1 => tp_if (sp_101 tp_i64 (l := 0) rfl (h := 2) rfl) (fun p2 => ⟨fun p3 => ⟨fun p4 => ⟨tp_vin.mpr (by omega), tp_vin.mpr (by omega), e3 p1 p2 p3 p4⟩, fun p4 => e2 p1 p2 p3 p4⟩, fun p3 => e1 (Or.inr (Or.inr p3))⟩) (fun p2 => e1 (Or.inr (Or.inl p2)))) (fun p1 => e1 (Or.inl p1)))
  refine sg_68_0 _ _ _ (tp_if (sp_91 (l := 0) rfl (h := 3) rfl) (fun q1 => model _ _ (fun _ => ⟨rfl, h⟩) (fun z => by omega) (fun z => by omega)) (fun q1 => tp_if (sp_91 (l := 0) rfl (h := 2) rfl) (fun q2 => model _ _ (fun _ => ⟨rfl, h⟩) (fun _ z => by omega) (fun _ z => by omega)) (fun q2 => ⟨fun q3 => ⟨fun q4 => ?_, fun q4 => model _ _ (fun z => ?_) (fun _ _ _ _ => ⟨rfl, h⟩) (fun _ _ _ z => absurd z q4)⟩, fun q3 => model _ _ (fun _ => ⟨rfl, h⟩) (fun _ _ z => absurd z q3) (fun _ _ z => absurd z q3)⟩)))
  · obtain ⟨k, hk3, rfl⟩ := tp_rg_nI (x := a) (hi := 3) ⟨by omega, by omega⟩ (by omega)
    have hk : k < 4 := by omega
    refine ⟨tp_vi hk (by omega), tp_q4 (P := fun q => tp_E 43 0 [.ref q, .int b, .int w, .null] [] σ (fun _ σ3 => tp_Res 114 [.ref 58, .int (nI k), .int b, .int w, .null] 1 σ3)) hk (sp_43 hk ?_)⟩
    refine model _ _ (fun z => ?_) (fun _ _ _ z => absurd q4 z) (fun _ _ _ _ => ?_)
    · rcases z with z | z | z
      · omega
      · omega
      · exact absurd q3 z
    · rw [tp_c (show k < 1000000 by omega)]
      have fin : ∀ σ2 : tp_St, σ2 = tp_fl 72 (64 * k) 64 (tp_set (tp_set (tp_fl (32 + k) 0 64 (tp_set (tp_set σ (20 + k) 1 b) (20 + k) 2 w)) 70 k b) 71 k w) → RR_all σ2 := by
        intro σ2 e
        have ne : ∀ o j, o ≠ 20 + k → o ≠ 32 + k → o ≠ 70 → o ≠ 71 → o ≠ 72 → σ2.1 o j = σ.1 o j := fun o j h1 h2 h3 h4 h5 => by
          rw [e, tp_fl_g, if_neg (by omega), tp_sg_ne (by omega), tp_sg_ne (by omega), tp_fl_g, if_neg (by omega), tp_sg_ne (by omega), tp_sg_ne (by omega)]
        refine ⟨nT, nR, nS, nB, nD, RT_fr hT (fun o j hd => ne o j (by omega) (by omega) (by omega) (by omega) (by omega)), RP_fr hP (fun o j hd => ne o j (by omega) (by omega) (by omega) (by omega) (by omega)), RR_fr hR (fun o j hd => ne o j (by omega) (by omega) (by omega) (by omega) (by omega)), RS_fr hS (Nat.le_refl _) (Nat.le_refl _) (fun o j hd => ne o j (by omega) (by omega) (by omega) (by omega) (by omega)), ⟨fun c hc => ?_, fun c j hc hj => ?_⟩, RA_fr hA (fun o j hd => ne o j (by omega) (by omega) (by omega) (by omega) (by omega)), RLw_fr hL (by rw [e, tp_fl_2, tp_s2, tp_s2, tp_fl_2, tp_s2, tp_s2]) (fun o j hd => ne o j (by omega) (by omega) (by omega) (by omega) (by omega)), RD_fr hD (fun o j hd => ne o j (by omega) (by omega) (by omega) (by omega) (by omega)), RK_fr hK (fun o j hd => ne o j (by omega) (by omega) (by omega) (by omega) (by omega))⟩
        · by_cases hck : c = k
          · subst hck
            obtain ⟨l, hl, el⟩ := tp_rg_nI (x := b) (hi := 2) ⟨by omega, by omega⟩ (by omega)
            obtain ⟨n, hn, en⟩ := tp_rg_nI (x := w) (hi := 64) ⟨tp_le.mp q4, tp_le.mp q3⟩ (by omega)
            refine Or.inr ⟨l, n, by omega, hn, ?_, ?_, ?_, ?_⟩
            · rw [e, tp_fl_g, if_neg (by omega), tp_sg_ne (by omega), tp_sg_eq]; exact el
            · rw [e, tp_fl_g, if_neg (by omega), tp_sg_ne (by omega), tp_sg_ne (by omega), tp_fl_g, if_neg (by omega), tp_sg_ne (by omega), tp_sg_eq]; exact el
            · rw [e, tp_fl_g, if_neg (by omega), tp_sg_eq]; exact en
            · rw [e, tp_fl_g, if_neg (by omega), tp_sg_ne (by omega), tp_sg_ne (by omega), tp_fl_g, if_neg (by omega), tp_sg_eq]; exact en
          · have e70 : σ2.1 70 c = σ.1 70 c := by rw [e, tp_fl_g, if_neg (by omega), tp_sg_ne (by omega), tp_sg_ne (by omega), tp_fl_g, if_neg (by omega), tp_sg_ne (by omega), tp_sg_ne (by omega)]
            have e71 : σ2.1 71 c = σ.1 71 c := by rw [e, tp_fl_g, if_neg (by omega), tp_sg_ne (by omega), tp_sg_ne (by omega), tp_fl_g, if_neg (by omega), tp_sg_ne (by omega), tp_sg_ne (by omega)]
            rw [e70, e71, ne (20 + c) 1 (by omega) (by omega) (by omega) (by omega) (by omega), ne (20 + c) 2 (by omega) (by omega) (by omega) (by omega) (by omega)]
            exact hH.1 c hc
        · by_cases hck : c = k
          · subst hck
            rw [e, tp_fl_g, if_pos (by omega), tp_fl_g, if_neg (by omega), tp_sg_ne (by omega), tp_sg_ne (by omega), tp_fl_g, if_pos (by omega)]
          · rw [ne (32 + c) j (by omega) (by omega) (by omega) (by omega) (by omega)]
            rw [e, tp_fl_g, if_neg (by omega), tp_sg_ne (by omega), tp_sg_ne (by omega), tp_fl_g, if_neg (by omega), tp_sg_ne (by omega), tp_sg_ne (by omega)]
            exact hH.2 c j hc hj
      refine tp_up_loop (E := fun i => tp_E 114 56 [.ref 58, .int (nI k), .null, .null, .int (nI i)] [] (tp_fl 72 (64 * k) i (tp_set (tp_set (tp_fl (32 + k) 0 64 (tp_set (tp_set σ (20 + k) 1 b) (20 + k) 2 w)) 70 k b) 71 k w)) _) (n := 64) (fun i hi g => ?_) ?_ 0 (Nat.zero_le _)
      · refine sg_114_56 _ _ ?_
        rw [tp_64, tp_c (show 64 * k + i < 1000000 by omega), show (64 : Int32) = nI 64 from rfl]
        simp only [nI_1]
        exact ⟨fun z => absurd z (tp_nle hi (by omega)), fun _ => ⟨tp_vi (by omega) (by omega), g⟩⟩
      · refine sg_114_56 _ _ ?_
        rw [show (64 : Int32) = nI 64 from rfl]
        exact ⟨fun _ => ⟨rfl, fin _ rfl⟩, fun z => absurd (tp_le.mpr (Int.le_refl _)) z⟩
  · rcases z with z | z | z
    · omega
    · omega
    · exact absurd q3 z
/-! laying a cell -/
theorem sp_41 {σ : tp_St} {k : Nat} (hk : k < 4) : tp_bool 41 [.ref (20 + k)] σ (σ.1 (20 + k) 2 = -1) := fun _ h1 h0 => sg_41_0 _ (tp_q20 hk) ⟨h1, h0⟩
theorem sp_42 {σ : tp_St} {k : Nat} {i : Int32} (hk : k < 4) : tp_bool 42 [.ref (20 + k), .int i] σ (0 ≤ i.toInt ∧ i.toInt < (σ.1 (20 + k) 2).toInt) := by
  intro post h1 h0
  refine sg_42_0 _ _ (tp_q20 hk) ⟨fun z => h0 (fun w => ?_), fun z => ⟨fun z2 => h0 (fun w => ?_), fun z2 => h1 ?_⟩⟩
  · rw [tp_lt] at z; have := w.1; have : i.toInt < 0 := z; omega
  · rw [tp_le] at z2; omega
  · rw [tp_lt] at z; rw [tp_le] at z2; have : ¬ i.toInt < 0 := z; omega
def ly_v (l : Nat) (v : Int32) : Int32 := if l = 0 then v.toInt8.toInt32 else if l = 1 then v.toInt16.toInt32 else v
theorem sh_8 (x : Int32) : (x <<< (24 &&& 31)) >>> (24 &&& 31) = x.toInt8.toInt32 := by
  apply Int32.toInt_inj.mp
  rw [show ((24 : Int32) &&& 31) = 24 from by decide]
  rw [Int8.toInt_toInt32, Int32.toInt_toInt8]
  rw [← Int32.toInt_toBitVec, Int32.toBitVec_shiftRight, Int32.toBitVec_shiftLeft]
  rw [show ((24 : Int32).toBitVec.smod 32) = 24#32 from by decide]
  rw [BitVec.sshiftRight_eq', BitVec.toInt_sshiftRight, BitVec.shiftLeft_eq', BitVec.toInt_shiftLeft]
  have e : x.toInt = (x.toBitVec.toNat : Int).bmod (2 ^ 32) := by rw [← Int32.toInt_toBitVec, BitVec.toInt_eq_toNat_bmod]
  rw [e]
  generalize x.toBitVec.toNat = n
  simp only [Int.bmod_def, Int.shiftRight_eq_div_pow, Nat.shiftLeft_eq]
  simp
  omega
theorem sh_16 (x : Int32) : (x <<< (16 &&& 31)) >>> (16 &&& 31) = x.toInt16.toInt32 := by
  apply Int32.toInt_inj.mp
  rw [show ((16 : Int32) &&& 31) = 16 from by decide]
  rw [Int16.toInt_toInt32, Int32.toInt_toInt16]
  rw [← Int32.toInt_toBitVec, Int32.toBitVec_shiftRight, Int32.toBitVec_shiftLeft]
  rw [show ((16 : Int32).toBitVec.smod 32) = 16#32 from by decide]
  rw [BitVec.sshiftRight_eq', BitVec.toInt_sshiftRight, BitVec.shiftLeft_eq', BitVec.toInt_shiftLeft]
  have e : x.toInt = (x.toBitVec.toNat : Int).bmod (2 ^ 32) := by rw [← Int32.toInt_toBitVec, BitVec.toInt_eq_toNat_bmod]
  rw [e]
  generalize x.toBitVec.toNat = n
  simp only [Int.bmod_def, Int.shiftRight_eq_div_pow, Nat.shiftLeft_eq]
  simp
  omega
theorem sp_44 {σ : tp_St} {k j l n : Nat} {v : Int32} {post : Int32 → tp_St → Prop} (hk : k < 4) (hl : σ.1 (20 + k) 1 = nI l) (hl3 : l < 3) (hn : σ.1 (20 + k) 2 = nI n) (hj : j < n) (hn64 : n ≤ 64) (hp : post 0 (tp_set σ (32 + k) j (ly_v l v))) : tp_E 44 0 [.ref (20 + k), .int (nI j), .int v] [] σ post := by
  refine sg_44_0 _ _ _ (tp_q20 hk) (tp_if (sp_42 hk) (fun q => ?_) (fun q => absurd ⟨by rw [tp_t (by omega)]; omega, by rw [tp_t (by omega), hn, tp_t (by omega)]; omega⟩ q))
  rw [hl, tp_c (show j < 1000000 by omega), tp_t (show l < 1000000 by omega), tp_rr20 hk]
  have hv := tp_vi (show j < 64 by omega) (by omega)
  unfold ly_v at hp
  refine ⟨fun z => ⟨hv, ?_⟩, fun z => ⟨fun z2 => ⟨hv, ?_⟩, fun z2 => ⟨hv, ?_⟩⟩⟩
  · rw [if_pos (by omega)] at hp; exact hp
  · rw [if_neg (by omega), if_pos (by omega)] at hp; exact hp
  · rw [if_neg (by omega), if_neg (by omega)] at hp; exact hp
theorem op_lay {σ : tp_St} {a b v : Int32} (h : RR_all σ) : tp_E 69 0 [.ref 0, .int a, .int b, .int v, .null] [] σ (tp_Res 115 [.ref 58, .int a, .int b, .int v]) := by
  obtain ⟨nT, nR, nS, nB, nD, hT, hP, hR, hS, hH, hA, hL, hD, hK⟩ := id h
  refine sg_69_0 _ _ _ (tp_if (sp_91 (l := 0) rfl (h := 3) rfl) (fun q1 => sg_115_0 _ _ _ (tp_if (sp_101 tp_i64 (l := 0) rfl (h := 3) rfl) (fun p1 => by omega) (fun p1 => ⟨rfl, h⟩))) (fun q1 => ?_))
  obtain ⟨k, hk3, rfl⟩ := tp_rg_nI (x := a) (hi := 3) ⟨by omega, by omega⟩ (by omega)
  have hk : k < 4 := by omega
  refine ⟨tp_vi hk (by omega), tp_q4 (P := fun q => tp_E 41 0 [.ref q] [] σ (fun r2 σ2 => (r2 = 0 → tp_E 42 0 [.ref q, .int b] [] σ2 (fun r6 σ6 => (r6 = 0 → tp_Res 115 [.ref 58, .int (nI k), .int b, .int v] (-12) σ6) ∧ (¬ r6 = 0 → tp_E 44 0 [.ref q, .int b, .int v] [] σ6 (fun _ σ7 => tp_Res 115 [.ref 58, .int (nI k), .int b, .int v] 1 σ7)))) ∧ (¬ r2 = 0 → tp_Res 115 [.ref 58, .int (nI k), .int b, .int v] (-11) σ2))) hk (tp_if (sp_41 hk) (fun q2 => ?_) (fun q2 => ?_))⟩
  · refine sg_115_0 _ _ _ (tp_if (sp_101 tp_i64 (l := 0) rfl (h := 3) rfl) (fun p1 => ?_) (fun p1 => by omega))
    rw [tp_c (show k < 1000000 by omega)]
    rcases hH.1 k hk with ⟨h1, h2⟩ | ⟨l, n, h1, h2, h3, h4, h5, h6⟩
    · exact ⟨tp_vi hk (by omega), fun _ => ⟨rfl, h⟩, fun z => absurd h1 z⟩
    · rw [h6, tp_eq, tp_t (by omega)] at q2
      have : (n : Int) = -1 := q2
      omega
  · rcases hH.1 k hk with ⟨h1, h2⟩ | ⟨l, n, h1, h2, h3, h4, h5, h6⟩
    · exact absurd h2 q2
    have hne : ¬ nI l = -4 := by
      rw [tp_eq, tp_t (by omega)]
      show ¬ (l : Int) = -4
      omega
    refine tp_if (sp_42 hk) (fun q3 => ?_) (fun q3 => ?_)
    · rw [h6, tp_t (by omega)] at q3
      obtain ⟨j, hj, rfl⟩ := tp_rg_nI (x := b) (hi := n - 1) ⟨by omega, by omega⟩ (by omega)
      have hjn : j < n := by have := q3.2; rw [tp_t (by omega)] at this; omega
      refine sp_44 hk h4 h1 h6 hjn h2 ?_
      refine sg_115_0 _ _ _ (tp_if (sp_101 tp_i64 (l := 0) rfl (h := 3) rfl) (fun p1 => ?_) (fun p1 => by omega))
      rw [tp_c (show k < 1000000 by omega), tp_sg_ne (by omega), tp_sg_ne (by omega), h3, h5]
      refine ⟨tp_vi hk (by omega), fun z => absurd z hne, fun _ => ⟨tp_vi hk (by omega), tp_if (sp_101 tp_i64 (l := 0) rfl (h := (n : Int) - 1) (by rw [tp_i64, tp_pred (by omega)])) (fun p2 => ?_) (fun p2 => absurd ⟨q3.1, by omega⟩ p2)⟩⟩
      rw [tp_sg_ne (by omega), h3, tp_64, tp_c (show 64 * k + j < 1000000 by omega)]
      have hv := tp_vi (show 64 * k + j < 256 by omega) (by omega)
      have fin : RR_all (tp_set (tp_set σ (32 + k) j (ly_v l v)) 72 (64 * k + j) (ly_v l v)) := by
        refine ⟨nT, nR, nS, nB, nD, RT_fr hT (fun o k hd => (tp_sg_ne (by omega)).trans ((tp_sg_ne (by omega)).trans (rfl))), RP_fr hP (fun o k hd => (tp_sg_ne (by omega)).trans ((tp_sg_ne (by omega)).trans (rfl))), RR_fr hR (fun o k hd => (tp_sg_ne (by omega)).trans ((tp_sg_ne (by omega)).trans (rfl))), RS_fr hS (Nat.le_refl _) (Nat.le_refl _) (fun o k hd => (tp_sg_ne (by omega)).trans ((tp_sg_ne (by omega)).trans (rfl))), ⟨fun c hc => ?_, fun c i hc hi => ?_⟩, RA_fr hA (fun o k hd => (tp_sg_ne (by omega)).trans ((tp_sg_ne (by omega)).trans (rfl))), RLw_fr hL rfl (fun o k hd => (tp_sg_ne (by omega)).trans ((tp_sg_ne (by omega)).trans (rfl))), RD_fr hD (fun o k hd => (tp_sg_ne (by omega)).trans ((tp_sg_ne (by omega)).trans (rfl))), RK_fr hK (fun o k hd => (tp_sg_ne (by omega)).trans ((tp_sg_ne (by omega)).trans (rfl)))⟩
        · have e : ∀ o i, o ≠ 72 → o ≠ 32 + k → (tp_set (tp_set σ (32 + k) j (ly_v l v)) 72 (64 * k + j) (ly_v l v)).1 o i = σ.1 o i := fun o i h1 h2 => by rw [tp_sg_ne (by omega), tp_sg_ne (by omega)]
          rw [e 70 c (by omega) (by omega), e 71 c (by omega) (by omega), e (20 + c) 1 (by omega) (by omega), e (20 + c) 2 (by omega) (by omega)]
          exact hH.1 c hc
        · by_cases hci : c = k ∧ i = j
          · obtain ⟨rfl, rfl⟩ := hci
            rw [tp_sg_eq, tp_sg_ne (by omega), tp_sg_eq]
          · rw [tp_sg_ne (by omega), tp_sg_ne (by omega), tp_sg_ne (by omega), tp_sg_ne (by omega)]
            exact hH.2 c i hc hi
      unfold ly_v at fin ⊢
      rw [sh_8, sh_16]
      refine ⟨tp_vi hk (by omega), fun z => ⟨hv, rfl, ?_⟩, fun z => ⟨tp_vi hk (by omega), fun z2 => ⟨hv, rfl, ?_⟩, fun z2 => ⟨hv, rfl, ?_⟩⟩⟩
      · have zl : l = 0 := (tp_ne (a := l) (b := 0) (by omega) (by omega)).mp z
        rw [if_pos zl] at fin ⊢; exact fin
      · have zl : ¬ l = 0 := fun w => z (by rw [w]; rfl)
        have zl2 : l = 1 := (tp_ne (a := l) (b := 1) (by omega) (by omega)).mp z2
        rw [if_neg zl, if_pos zl2] at fin ⊢; exact fin
      · have zl : ¬ l = 0 := fun w => z (by rw [w]; rfl)
        have zl2 : ¬ l = 1 := fun w => z2 (by rw [w]; rfl)
        rw [if_neg zl, if_neg zl2] at fin ⊢; exact fin
    · refine sg_115_0 _ _ _ (tp_if (sp_101 tp_i64 (l := 0) rfl (h := 3) rfl) (fun p1 => ?_) (fun p1 => by omega))
      rw [tp_c (show k < 1000000 by omega), h3, h5]
      refine ⟨tp_vi hk (by omega), fun z => absurd z hne, fun _ => ⟨tp_vi hk (by omega), tp_if (sp_101 tp_i64 (l := 0) rfl (h := (n : Int) - 1) (by rw [tp_i64, tp_pred (by omega)])) (fun p2 => absurd ⟨p2.1, by rw [h6, tp_t (by omega)]; omega⟩ q3) (fun p2 => ⟨rfl, h⟩)⟩⟩
