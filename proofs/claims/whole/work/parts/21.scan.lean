/-! sales by sheets, and sales taken back -/
theorem sl_f_u {g : tp_St} {nT nR n : Nat} {t y s : Int32} {r r' : Option Int32} (h : sl_f g nT nR n t y s r) (h' : sl_f g nT nR n t y s r') : r = r' := by
  rcases h with ⟨h1, h2⟩ | ⟨h1, h2⟩ <;> rcases h' with ⟨k1, k2⟩ | ⟨k1, k2⟩
  · rw [h2, k2]
  · exact absurd k1 h1
  · exact absurd h1 k1
  · rw [h2, k2]
theorem sl_f_neg {g : tp_St} {nT nR n : Nat} {t y s e : Int32} (h : sl_f g nT nR n t y s (some e)) : e = -1 ∨ e = -2 ∨ e = -3 ∨ e = -4 := by
  rcases h with ⟨h1, h2⟩ | ⟨h1, h2⟩
  · cases h2; exact Or.inl rfl
  · unfold sl_no at h2
    split at h2
    · cases h2; exact Or.inr (Or.inl rfl)
    · split at h2
      · cases h2; exact Or.inr (Or.inl rfl)
      · split at h2
        · cases h2; exact Or.inr (Or.inl rfl)
        · split at h2
          · cases h2; exact Or.inr (Or.inr (Or.inl rfl))
          · split at h2
            · cases h2; exact Or.inr (Or.inr (Or.inr rfl))
            · cases h2
/-- what a sale that is made knows -/
def sl_k (g : tp_St) (nT nR n : Nat) (t y s : Int32) (tt yy c v : Nat) : Prop := t = nI tt ∧ tt < nR ∧ y = nI yy ∧ yy < nT ∧ c < 6 ∧ g.1 12 tt = nI c ∧ sl_c g t = c ∧ sl_x g t y = nI v ∧ g.1 (46 + c) yy = nI v ∧ v < 101000 ∧ (v : Int) < (g.1 (52 + c) yy).toInt ∧ ¬ g.1 14 tt = 0 ∧ sl_st g t s = (if g.1 13 tt = 0 then 9 - s else s) ∧ ¬ sl_st g t s = 9 ∧ n < 200 ∧ 0 ≤ s.toInt ∧ s.toInt ≤ 9
theorem sl_know {g : tp_St} {nT nR n : Nat} {t y s : Int32} (H : RRn g nT nR n) (h : sl_f g nT nR n t y s none) : ∃ tt yy c v, sl_k g nT nR n t y s tt yy c v := by
  obtain ⟨hT, hP, hR, hS, -⟩ := H
  rcases h with ⟨h1, h2⟩ | ⟨⟨q1, q2, q3⟩, h2⟩
  · cases h2
  have r16 := hR.1
  have t5 := hT.1
  obtain ⟨tt, ht, rfl⟩ := tp_rg_nI (x := t) (hi := nR - 1) ⟨q1.1, by omega⟩ (by omega)
  have htR : tt < nR := by have := q1.2; rw [tp_t (by omega)] at this; omega
  obtain ⟨yy, hy, rfl⟩ := tp_rg_nI (x := y) (hi := nT - 1) ⟨q2.1, by omega⟩ (by omega)
  have hyT : yy < nT := by have := q2.2; rw [tp_t (by omega)] at this; omega
  obtain ⟨-, -, -, ⟨c, hc, ec⟩, -, -⟩ := hR.2.2.2 tt htR
  have ecc : sl_c g (nI tt) = c := by unfold sl_c; rw [tp_c (show tt < 1000000 by omega), ec, tp_c (by omega)]
  obtain ⟨-, -, p3, p4, p5⟩ := hP c yy hc (by omega)
  have ex : sl_x g (nI tt) (nI yy) = g.1 (46 + c) yy := by unfold sl_x; rw [ecc, tp_c (show yy < 1000000 by omega)]
  obtain ⟨v, hv, ev⟩ := tp_rg_of (hi := 101000) (x := g.1 (46 + c) yy) p3 (by omega) (by omega)
  have est : sl_st g (nI tt) s = if g.1 13 tt = 0 then 9 - s else s := by unfold sl_st; rw [tp_c (show tt < 1000000 by omega)]
  unfold sl_no at h2
  rw [ecc, tp_c (show tt < 1000000 by omega), tp_c (show yy < 1000000 by omega), ex] at h2
  split at h2
  · cases h2
  rename_i z1
  split at h2
  · cases h2
  split at h2
  · cases h2
  rename_i z3
  split at h2
  · cases h2
  rename_i z4
  split at h2
  · cases h2
  rename_i z5
  have := hS.1
  have hlt : (v : Int) < (g.1 (52 + c) yy).toInt := by
    have e1 : (g.1 (46 + c) yy).toInt = v := by rw [ev, tp_t (by omega)]
    have e2 : ¬ (g.1 (52 + c) yy).toInt = (g.1 (46 + c) yy).toInt := fun q => z5 (tp_eq.mpr q)
    omega
  exact ⟨tt, yy, c, v, rfl, htR, rfl, hyT, hc, ec, ecc, ex.trans ev, ev, by omega, hlt, z1, est, z3, by omega, q3.1, q3.2⟩
theorem sl_b_ne {g : tp_St} {nT nR n : Nat} {t y s : Int32} {tt yy c v : Nat} (K : sl_k g nT nR n t y s tt yy c v) (h5 : nT ≤ 5) {o k : Nat} (h : ¬ ((o = 46 + c ∧ k = yy) ∨ ((15 ≤ o ∧ o ≤ 18) ∧ k = n) ∨ (o = 4 ∧ k = 4) ∨ ((66 ≤ o ∧ o ≤ 69) ∧ k = n) ∨ (o = 61 ∧ k = 5 * c + yy) ∨ (o = 58 ∧ k = 9))) : (sl_b g n t y s).1 o k = g.1 o k := by
  obtain ⟨rfl, k1, rfl, k3, k4, k5, k6, k7, k8, -⟩ := K
  unfold sl_b sl_ms sl_cs
  rw [k6, tp_c (show yy < 1000000 by omega)]
  rw [tp_sg_ne (by omega), tp_sg_ne (by omega), tp_sg_ne (by omega), tp_sg_ne (by omega), tp_sg_ne (by omega), tp_sg_ne (by omega), tp_sg_ne (by omega), tp_sg_ne (by omega), tp_sg_ne (by omega), tp_sg_ne (by omega), tp_sg_ne (by omega), tp_sg_ne (by omega)]
theorem sl_b_is {g : tp_St} {nT nR n : Nat} {t y s : Int32} {tt yy c v : Nat} (K : sl_k g nT nR n t y s tt yy c v) (h5 : nT ≤ 5) : (sl_b g n t y s).1 (46 + c) yy = nI (v + 1) ∧ (sl_b g n t y s).1 15 n = nI tt ∧ (sl_b g n t y s).1 16 n = nI yy ∧ (sl_b g n t y s).1 17 n = sl_st g t s ∧ (sl_b g n t y s).1 18 n = nI v ∧ (sl_b g n t y s).1 4 4 = nI (n + 1) ∧ (sl_b g n t y s).1 66 n = nI tt ∧ (sl_b g n t y s).1 67 n = nI yy ∧ (sl_b g n t y s).1 68 n = s ∧ (sl_b g n t y s).1 69 n = nI v ∧ (sl_b g n t y s).1 61 (5 * c + yy) = nI (v + 1) ∧ (sl_b g n t y s).1 58 9 = nI (n + 1) := by
  obtain ⟨rfl, k1, rfl, k3, k4, k5, k6, k7, k8, -⟩ := K
  unfold sl_b
  rw [k6, tp_c (show yy < 1000000 by omega), k7]
  refine ⟨?_, ?_, ?_, ?_, ?_, ?_, ?_, ?_, ?_, ?_, ?_, ?_⟩
  · rw [sl_ms_c (by omega)]; unfold sl_cs; rw [tp_sg_ne (by omega), tp_sg_ne (by omega), tp_sg_ne (by omega), tp_sg_ne (by omega), tp_sg_ne (by omega), tp_sg_eq, nI_1]
  · rw [sl_ms_c (by omega)]; unfold sl_cs; rw [tp_sg_ne (by omega), tp_sg_ne (by omega), tp_sg_ne (by omega), tp_sg_ne (by omega), tp_sg_eq]
  · rw [sl_ms_c (by omega)]; unfold sl_cs; rw [tp_sg_ne (by omega), tp_sg_ne (by omega), tp_sg_ne (by omega), tp_sg_eq]
  · rw [sl_ms_c (by omega)]; unfold sl_cs; rw [tp_sg_ne (by omega), tp_sg_ne (by omega), tp_sg_eq]
  · rw [sl_ms_c (by omega)]; unfold sl_cs; rw [tp_sg_ne (by omega), tp_sg_eq]
  · rw [sl_ms_c (by omega)]; unfold sl_cs; rw [tp_sg_eq]
  · unfold sl_ms; rw [tp_sg_ne (by omega), tp_sg_ne (by omega), tp_sg_ne (by omega), tp_sg_ne (by omega), tp_sg_ne (by omega), tp_sg_eq]
  · unfold sl_ms; rw [tp_sg_ne (by omega), tp_sg_ne (by omega), tp_sg_ne (by omega), tp_sg_ne (by omega), tp_sg_eq]
  · unfold sl_ms; rw [tp_sg_ne (by omega), tp_sg_ne (by omega), tp_sg_ne (by omega), tp_sg_eq]
  · unfold sl_ms; rw [tp_sg_ne (by omega), tp_sg_ne (by omega), tp_sg_eq]
  · unfold sl_ms; rw [tp_sg_ne (by omega), tp_sg_eq, nI_1]
  · unfold sl_ms; rw [tp_sg_eq]
theorem sl_RR {g : tp_St} {nT nR n : Nat} {t y s : Int32} (H : RRn g nT nR n) (h : sl_f g nT nR n t y s none) : RRn (sl_b g n t y s) nT nR (n + 1) := by
  obtain ⟨tt, yy, c, v, K⟩ := sl_know H h
  obtain ⟨hT, hP, hR, hS, hH, ⟨nB, hA⟩, hL, ⟨nD, hD⟩, hK⟩ := H
  have t5 := hT.1
  have ne := fun {o k : Nat} => sl_b_ne (o := o) (k := k) K t5
  obtain ⟨b1, b2, b3, b4, b5, b6, b7, b8, b9, b10, b11, b12⟩ := sl_b_is K t5
  obtain ⟨k0, k1, k2, k3, k4, k5, k6, k7, k8, k9, k10, k11, k12, k13, k14, k15, k16⟩ := K
  refine ⟨RT_fr hT (fun o k hd => ne (by omega)), ?_, RR_fr hR (fun o k hd => ne (by omega)), ⟨by omega, b6, b12, fun k hk => ?_⟩, RH_fr hH (fun o k hd => ne (by omega)), ⟨nB, RA_fr hA (fun o k hd => ne (by omega))⟩, RLw_fr hL rfl (fun o k hd => ne (by omega)), ⟨nD, RD_fr hD (fun o k hd => ne (by omega))⟩, RK_fr hK (fun o k hd => ne (by omega))⟩
  · intro c' t' hc' ht'
    by_cases e : c' = c ∧ t' = yy
    · obtain ⟨rfl, rfl⟩ := e
      obtain ⟨p1, p2, p3, p4, p5⟩ := hP c' t' hc' ht'
      rw [b11, b1, ne (o := 62) (by omega), ne (o := 52 + c') (by omega), tp_t (by omega)]
      exact ⟨rfl, p2, by omega, by omega, p5⟩
    · rw [ne (o := 61) (by omega), ne (o := 62) (by omega), ne (o := 46 + c') (by omega), ne (o := 52 + c') (by omega)]
      exact hP c' t' hc' ht'
  · by_cases e : k = n
    · subst e
      refine ⟨⟨tt, k1, b2, b7, ?_⟩, ⟨yy, k3, b3, b8⟩, by rw [b10, b5], ?_, ?_⟩
      · rw [b4, b9, ne (o := 13) (by omega), k12]
      · rw [b4]
        rw [k12] at k13 ⊢
        split
        · rename_i hz
          rw [if_pos hz] at k13
          have e9 : (9 - s).toInt = 9 - s.toInt := by
            rw [Int32.toInt_sub, show (9 : Int32).toInt = 9 from rfl]
            simp only [Int.bmod_def]
            omega
          have : ¬ (9 - s).toInt = 9 := fun w => k13 (tp_eq.mpr w)
          exact ⟨by omega, by omega⟩
        · rename_i hz
          rw [if_neg hz] at k13
          have : ¬ s.toInt = 9 := fun w => k13 (tp_eq.mpr w)
          exact ⟨by omega, by omega⟩
      · rw [b5]
        exact ⟨by rw [tp_t (by omega)]; omega, by rw [tp_t (by omega)]; omega⟩
    · exact RS1_fr (hS.2.2.2 k (by omega)) (Nat.le_refl _) (Nat.le_refl _) (fun o j hj => ne (by omega))
theorem op_sell {σ : tp_St} {a b s : Int32} (h : RR_all σ) : tp_E 66 0 [.ref 0, .int a, .int b, .int s, .null, .null, .null] [] σ (tp_Res 112 [.ref 58, .int a, .int b, .int s, .null]) := by
  obtain ⟨nT, nR, nS, nB, nD, hT, hP, hR, hS, hH, hA, hL, hD, hK⟩ := id h
  have H : RRn σ nT nR nS := ⟨hT, hP, hR, hS, hH, ⟨nB, hA⟩, hL, ⟨nD, hD⟩, hK⟩
  refine sp_66 hT hP hR hS wc_rf (fun e he => ?_) (fun he σ' hw ha => ?_)
  · refine sp_112 hT hP hR hS wr_rf (fun e' he' => ?_) (fun he' => ?_)
    · cases sl_f_u he he'
      exact ⟨rfl, h⟩
    · cases sl_f_u he he'
  · refine sp_112 hT hP hR hS (wr_ag wr_rf ha) (fun e' he' => ?_) (fun he' υ' hr hs => ?_)
    · cases sl_f_u he he'
    · exact ⟨rfl, RR_wk (sl_RR H he) (wc_sc hw hs) hr⟩
theorem sp_99 {g σ : tp_St} {nT nR n : Nat} {t y s : Int32} {post : Int32 → tp_St → Prop} (H : RRn g nT nR n) (h : sl_f g nT nR n t y s none) (hw : wc (n + 1) (sl_b g n t y s) σ) (hp : ∀ σ', wc n g σ' → tp_ag σ σ' → post 0 σ') : tp_E 99 0 [.ref 0, .null, .null] [] σ post := by
  obtain ⟨tt, yy, c, v, K⟩ := sl_know H h
  have t5 := H.1.1
  have r16 := H.2.2.1.1
  have ne := fun {o k : Nat} => sl_b_ne (o := o) (k := k) K t5
  obtain ⟨b1, b2, b3, b4, b5, b6, b7, b8, b9, b10, b11, b12⟩ := sl_b_is K t5
  obtain ⟨k0, k1, k2, k3, k4, k5, k6, k7, k8, k9, k10, k11, k12, k13, k14, k15, k16⟩ := K
  have e44 := (hw.1 4 4 (by omega) (by omega)).trans b6
  have e15 := (hw.1 15 n (by omega) (by omega)).trans b2
  have e16 := (hw.1 16 n (by omega) (by omega)).trans b3
  have e18 := (hw.1 18 n (by omega) (by omega)).trans b5
  have e12 := ((hw.1 12 tt (by omega) (by omega)).trans (ne (by omega))).trans k5
  refine sg_99_0 ?_
  rw [e44, nI_pred, tp_c (show n < 1000000 by omega), e15, tp_c (show tt < 1000000 by omega), e12, tp_c (show c < 1000000 by omega), e16, tp_c (show yy < 1000000 by omega), e18]
  have hv := tp_vi (show n < 200 by omega) (by omega)
  refine ⟨hv, tp_vi (by omega) (by omega), tp_vi k4 (by omega), hv, hv, tp_vi (by omega) (by omega), hp _ ⟨fun o k h1 h2 => ?_, hw.2⟩ (fun o k h1 h2 => by rw [tp_sg_ne (by omega), tp_sg_ne (by omega)])⟩
  by_cases a1 : o = 4 ∧ k = 4
  · obtain ⟨rfl, rfl⟩ := a1
    rw [tp_sg_eq]
    exact H.2.2.2.1.2.1.symm
  · rw [tp_sg_ne (by omega)]
    by_cases a2 : o = 46 + c ∧ k = yy
    · obtain ⟨rfl, rfl⟩ := a2
      rw [tp_sg_eq]
      exact k8.symm
    · rw [tp_sg_ne (by omega), hw.1 o k h1 (by omega), ne (by omega)]
/-! the rows of a sheet -/
def sq_v (g : tp_St) (k : Nat) (f : Int32) (i : Nat) : Int32 := g.1 (32 + k) (f + 2 * nI i).toNatClampNeg
def sq_w (g : tp_St) (k : Nat) (f : Int32) (i : Nat) : Int32 := g.1 (32 + k) (f + 2 * nI i + 1).toNatClampNeg
def sq (g : tp_St) (n k : Nat) (t f : Int32) : Nat → tp_St
  | 0 => g
  | i + 1 => sl_b (sq g n k t f i) (n + i) t (sq_v g k f i) (sq_w g k f i)
def sq_in (m : Nat) (f : Int32) (i : Nat) : Prop := 0 ≤ f.toInt + 2 * (i : Int) ∧ f.toInt + 2 * (i : Int) + 2 ≤ m
def sq_1 (g : tp_St) (nT nR n k m : Nat) (t f : Int32) (i : Nat) : Prop := sq_in m f i ∧ sl_f (sq g n k t f i) nT nR (n + i) t (sq_v g k f i) (sq_w g k f i) none
def sq_e (g : tp_St) (nT nR n k m : Nat) (t f : Int32) (i : Nat) (e : Int32) : Prop := (¬ sq_in m f i ∧ e = -12) ∨ (sq_in m f i ∧ ∃ e', sl_f (sq g n k t f i) nT nR (n + i) t (sq_v g k f i) (sq_w g k f i) (some e') ∧ e = -20 + e')
theorem sq_R {g : tp_St} {nT nR n k m : Nat} {t f : Int32} (H : RRn g nT nR n) : ∀ {i}, (∀ j, j < i → sq_1 g nT nR n k m t f j) → RRn (sq g n k t f i) nT nR (n + i) ∧ ∀ o j, ((20 ≤ o ∧ o < 24) ∨ (32 ≤ o ∧ o < 36) ∨ (70 ≤ o ∧ o ≤ 72)) → (sq g n k t f i).1 o j = g.1 o j
  | 0, _ => ⟨H, fun _ _ _ => rfl⟩
  | i + 1, h => by
    obtain ⟨h1, h2⟩ := sq_R H (i := i) (fun j hj => h j (by omega))
    have h3 := (h i (by omega)).2
    refine ⟨sl_RR h1 h3, fun o j ho => ?_⟩
    obtain ⟨tt, yy, c, v, K⟩ := sl_know h1 h3
    have hc : c < 6 := K.2.2.2.2.1
    exact (sl_b_ne K H.1.1 (by omega)).trans (h2 o j ho)
theorem tp_2i {i : Nat} : (2 : Int32) * nI i = nI (2 * i) := by rw [show (2 : Int32) = nI 2 from rfl, pk_mul]
theorem sq_add {f : Int32} {i : Nat} (hi : i < 1000) : (f + 2 * nI i).toInt = (f.toInt + 2 * (i : Int)).bmod (2 ^ 32) := by
  rw [tp_2i, Int32.toInt_add, tp_t (by omega)]
  congr 1
theorem sq_lo (f : Int32) : -2147483648 ≤ f.toInt ∧ f.toInt ≤ 2147483647 := ⟨Int32.le_toInt f, by have := Int32.toInt_lt f; omega⟩
theorem sq_iff {f : Int32} {i m : Nat} (hi : i < 1000) (hm : m ≤ 64) : sq_in m f i ↔ (0 ≤ (f + 2 * nI i).toInt ∧ (f + 2 * nI i).toInt < m) ∧ 0 ≤ (f + 2 * nI i + 1).toInt ∧ (f + 2 * nI i + 1).toInt < m := by
  have h1 := sq_lo f
  have e2 : (f + 2 * nI i + 1).toInt = ((f + 2 * nI i).toInt + 1).bmod (2 ^ 32) := Int32.toInt_add _ _
  rw [e2, sq_add hi]
  unfold sq_in
  simp only [Int.bmod_def]
  omega
theorem sq_j {f : Int32} {i m : Nat} (hi : i < 1000) (hm : m ≤ 64) (h : sq_in m f i) : ∃ j, j + 1 < m ∧ f + 2 * nI i = nI j := by
  have h1 := sq_lo f
  have h2 := (sq_iff hi hm).mp h
  refine ⟨(f.toInt + 2 * (i : Int)).toNat, by unfold sq_in at h; omega, tp_eq.mpr ?_⟩
  have h3 := h
  unfold sq_in at h3
  rw [tp_t (by omega), sq_add hi]
  simp only [Int.bmod_def]
  omega
theorem sp_97 {g σ : tp_St} {nT nR n k m i : Nat} {t f : Int32} {post : Int32 → tp_St → Prop} (H : RRn g nT nR n) (hk : k < 4) (hm : m ≤ 64) (e2 : g.1 (20 + k) 2 = nI m) (hi : i < 1000) (ho : ∀ j, j < i → sq_1 g nT nR n k m t f j) (hw : wc (n + i) (sq g n k t f i) σ) (hf : ∀ e, sq_e g nT nR n k m t f i e → post e σ) (hp : sq_1 g nT nR n k m t f i → ∀ x σ', 0 ≤ x → wc (n + (i + 1)) (sq g n k t f (i + 1)) σ' → tp_ag σ σ' → post x σ') : tp_E 97 0 [.ref 0, .int t, .ref (20 + k), .int (f + 2 * nI i), .null] [] σ post := by
  obtain ⟨G, G2⟩ := sq_R H ho
  have s2 : σ.1 (20 + k) 2 = nI m := ((hw.1 _ _ (by omega) (by omega)).trans (G2 _ _ (by omega))).trans e2
  have cell : ∀ j, σ.1 (32 + k) j = g.1 (32 + k) j := fun j => (hw.1 _ _ (by omega) (by omega)).trans (G2 _ _ (by omega))
  refine sg_97_0 _ _ _ (tp_q20 hk) (tp_if (sp_42 hk) (fun q1 => tp_if (sp_42 hk) (fun q2 => ?_) (fun q2 => hf _ (Or.inl ⟨fun w => ?_, rfl⟩))) (fun q1 => hf _ (Or.inl ⟨fun w => ?_, rfl⟩)))
  · rw [s2, tp_t (by omega)] at q1 q2
    have hin := (sq_iff hi hm).mpr ⟨q1, q2⟩
    refine ⟨tp_vin.mpr ⟨q1.1, by have := q1.2; omega⟩, tp_vin.mpr ⟨q2.1, by have := q2.2; omega⟩, ?_⟩
    rw [tp_rr20 hk, cell, cell]
    refine sp_66 G.1 G.2.1 G.2.2.1 G.2.2.2.1 hw (fun e he => ⟨fun z => ?_, fun z => hf _ (Or.inr ⟨hin, e, he, rfl⟩)⟩) (fun he σ' hw' ha => ⟨fun z => hp ⟨hin, he⟩ _ _ z hw' ha, fun z => ?_⟩)
    · rcases sl_f_neg he with rfl | rfl | rfl | rfl <;> exact absurd z (by decide)
    · obtain ⟨tt, yy, c, v, K⟩ := sl_know G he
      refine absurd ?_ z
      have hv : v < 101000 := K.2.2.2.2.2.2.2.2.2.1
      have hx : sl_x (sq g n k t f i) t (sq_v g k f i) = nI v := K.2.2.2.2.2.2.2.1
      show 0 ≤ sl_x (sq g n k t f i) t (sq_v g k f i)
      rw [hx, tp_le, tp_t (by omega)]
      show (0 : Int) ≤ v
      omega
  · rw [s2, tp_t (by omega)] at q2
    exact q2 ((sq_iff hi hm).mp w).2
  · rw [s2, tp_t (by omega)] at q1
    exact q1 ((sq_iff hi hm).mp w).1
theorem sp_98 {g σ0 : tp_St} {nT nR n k m i : Nat} {t f : Int32} {post : Int32 → tp_St → Prop} (H : RRn g nT nR n) (hi : i < 1000) (ho : ∀ j, j < i → sq_1 g nT nR n k m t f j) (hw : wc (n + i) (sq g n k t f i) σ0) (hp : ∀ σ', wc n g σ' → tp_ag σ0 σ' → post 0 σ') : tp_E 98 0 [.ref 0, .int (nI i), .null] [] σ0 post := by
  refine sg_98_0 _ ?_
  refine tp_up_loop (E := fun q => ∀ σ, wc (n + (i - q)) (sq g n k t f (i - q)) σ → tp_ag σ0 σ → tp_E 98 2 [.ref 0, .int (nI i), .int (nI q)] [] σ post) (n := i) (fun q hq z σ h1 h2 => ?_) (fun σ h1 h2 => ?_) 0 (Nat.zero_le _) σ0 hw tp_ag_rf
  · refine sg_98_2 _ _ ?_
    simp only [nI_1]
    have ei : i - q = (i - (q + 1)) + 1 := by omega
    obtain ⟨G, -⟩ := sq_R H (i := i - (q + 1)) (fun j hj => ho j (by omega))
    have G3 := (ho (i - (q + 1)) (by omega)).2
    obtain ⟨G4, -⟩ := sq_R H (i := i - q) (fun j hj => ho j (by omega))
    have h44 : σ.1 4 4 = nI (n + (i - q)) := (h1.1 4 4 (by omega) (by omega)).trans G4.2.2.2.1.2.1
    have := G4.2.2.2.1.1
    refine ⟨fun w => absurd w (tp_nle hq (by omega)), fun _ => ⟨fun w => ?_, fun _ => ?_⟩⟩
    · rw [h44, tp_le, tp_t (by omega)] at w
      have : ((n + (i - q) : Nat) : Int) ≤ 0 := w
      omega
    · rw [ei] at h1
      exact sp_99 G G3 h1 (fun σ' h3 h4 => z σ' h3 (ag_tr h2 h4))
  · refine sg_98_2 _ _ ?_
    rw [Nat.sub_self] at h1
    exact ⟨fun _ => hp σ h1 h2, fun w => absurd (tp_le.mpr (Int.le_refl _)) w⟩
theorem sp_scan {g σ0 : tp_St} {nT nR n k m N : Nat} {t f : Int32} {post : Int32 → tp_St → Prop} (H : RRn g nT nR n) (hk : k < 4) (hm : m ≤ 64) (e2 : g.1 (20 + k) 2 = nI m) (hN : N ≤ 32) (hd : (∀ j, j < N → sq_1 g nT nR n k m t f j) → ∀ σ', wc (n + N) (sq g n k t f N) σ' → tp_ag σ0 σ' → post (nI N) σ') (hf : ∀ i e, i < N → (∀ j, j < i → sq_1 g nT nR n k m t f j) → sq_e g nT nR n k m t f i e → ∀ σ', wc n g σ' → tp_ag σ0 σ' → post e σ') : ∀ d i σ, i + d = N → (∀ j, j < i → sq_1 g nT nR n k m t f j) → wc (n + i) (sq g n k t f i) σ → tp_ag σ0 σ → tp_E 70 76 [.ref 0, .int t, .null, .null, .int f, .int (nI N), .ref (20 + k), .int (nI i), .null] [] σ post := by
  intro d
  induction d with
  | zero =>
    intro i σ hid ho hw ha
    have ei : i = N := by omega
    subst ei
    exact sg_70_76 _ _ _ _ _ (tp_q20 hk) ⟨fun _ => hd ho σ hw ha, fun w => absurd (tp_le.mpr (Int.le_refl _)) w⟩
  | succ d ih =>
    intro i σ hid ho hw ha
    refine sg_70_76 _ _ _ _ _ (tp_q20 hk) ⟨fun w => absurd w (tp_nle (by omega) (by omega)), fun _ => ?_⟩
    simp only [nI_1]
    refine sp_97 H hk hm e2 (by omega) ho hw (fun e he => ⟨fun w => ?_, fun _ => ?_⟩) (fun h1 x σ' hx hw' ha' => ⟨fun _ => ih (i + 1) σ' (by omega) (fun j hj => ?_) hw' (ag_tr ha ha'), fun w => absurd hx w⟩)
    · rcases he with ⟨-, rfl⟩ | ⟨-, e', he', rfl⟩
      · exact absurd w (by decide)
      · rcases sl_f_neg he' with rfl | rfl | rfl | rfl <;> exact absurd w (by decide)
    · exact sp_98 H (by omega) ho hw (fun σ' h1 h2 => hf i e (by omega) ho he σ' h1 (ag_tr ha h2))
    · by_cases ej : j = i
      · rw [ej]; exact h1
      · exact ho j (by omega)
