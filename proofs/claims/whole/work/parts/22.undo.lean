/-! the reference's scan -/
theorem tp_6432 {a b : Int32} : (a.toInt64 + b.toInt64).toInt32 = a + b := by simp
theorem tp_m2 {m : Nat} (h : m ≤ 64) : (nI m - 2).toInt = (m : Int) - 2 := by
  rw [Int32.toInt_sub, tp_t (by omega), show (2 : Int32).toInt = 2 from rfl]
  simp only [Int.bmod_def]
  omega
theorem sq_64 {f : Int32} {i : Nat} (hi : i < 1000) : (f.toInt64 + (2 * nI i).toInt64).toInt = f.toInt + 2 * (i : Int) := by
  have h1 := sq_lo f
  rw [Int64.toInt_add, tp_i64, tp_i64, tp_2i, tp_t (by omega)]
  simp only [Int.bmod_def]
  omega
theorem sm_88 {g υ : tp_St} {nT nR n k m N j : Nat} {t f : Int32} {post : Int32 → tp_St → Prop} (H : RRn g nT nR n) (hk : k < 4) (hm : m ≤ 64) (e71 : g.1 71 k = nI m) (hN : N ≤ 32) (hj : j < N) (ho : ∀ i, i < j → sq_1 g nT nR n k m t f i) (hw : wr (n + j) (sq g n k t f j) υ) (hf : ∀ e, sq_e g nT nR n k m t f j e → tp_E 116 88 [.ref 58, .int t, .int (nI k), .null, .int f, .int (nI N), .int (nI n), .int e, .int (nI (j + 1)), .null, .null, .null, .null] [] υ post) (hp : sq_1 g nT nR n k m t f j → ∀ υ', wr (n + (j + 1)) (sq g n k t f (j + 1)) υ' → sc υ υ' → tp_E 116 88 [.ref 58, .int t, .int (nI k), .null, .int f, .int (nI N), .int (nI n), .int 0, .int (nI (j + 1)), .null, .null, .null, .null] [] υ' post) : tp_E 116 88 [.ref 58, .int t, .int (nI k), .null, .int f, .int (nI N), .int (nI n), .int 0, .int (nI j), .null, .null, .null, .null] [] υ post := by
  obtain ⟨G, G2⟩ := sq_R H ho
  have s71 : υ.1 71 k = nI m := ((hw _ _ (by omega) (by omega)).trans (G2 _ _ (by omega))).trans e71
  refine sg_116_88 _ _ _ _ _ _ _ ?_
  rw [tp_6432, tp_c (show k < 1000000 by omega), s71]
  simp only [nI_1]
  refine ⟨fun w => absurd w (tp_nle hj (by omega)), fun _ => ⟨fun _ => ⟨tp_vi hk (by omega), tp_if (sp_101 (sq_64 (by omega)) (l := 0) rfl (h := (m : Int) - 2) (by rw [tp_i64, tp_m2 hm])) (fun p => ?_) (fun p => hf _ (Or.inl ⟨fun w => p ⟨w.1, by have := w.2; omega⟩, rfl⟩))⟩, fun w => absurd trivial w⟩⟩
  have hin : sq_in m f j := ⟨p.1, by have := p.2; omega⟩
  obtain ⟨jj, hjj, ej⟩ := sq_j (by omega) hm hin
  have ev : sq_v g k f j = υ.1 72 (64 * k + jj) := by
    unfold sq_v
    rw [ej, tp_c (show jj < 1000000 by omega), ((hw _ _ (by omega) (by omega)).trans (G2 72 _ (by omega)))]
    exact (H.2.2.2.2.1.2 k jj hk (by omega)).symm
  have ew : sq_w g k f j = υ.1 72 (64 * k + jj + 1) := by
    unfold sq_w
    rw [ej, nI_1, tp_c (show jj + 1 < 1000000 by omega), ((hw _ _ (by omega) (by omega)).trans (G2 72 _ (by omega)))]
    exact (H.2.2.2.2.1.2 k (jj + 1) hk (by omega)).symm
  rw [ej, tp_64, nI_1, tp_c (show 64 * k + jj < 1000000 by omega), tp_c (show 64 * k + jj + 1 < 1000000 by omega), ← ev, ← ew]
  refine ⟨tp_vi (by omega) (by omega), tp_vi (by omega) (by omega), ?_⟩
  refine sp_112 G.1 G.2.1 G.2.2.1 G.2.2.2.1 hw (fun e he => ⟨fun z => ?_, fun z => hf _ (Or.inr ⟨hin, e, he, rfl⟩)⟩) (fun he υ' hw' hs => ⟨fun z => hp ⟨hin, he⟩ υ' hw' hs, fun z => ?_⟩)
  · rcases sl_f_neg he with rfl | rfl | rfl | rfl <;> exact absurd z (by decide)
  · obtain ⟨tt, yy, c, v, K⟩ := sl_know G he
    refine absurd ?_ z
    have hv : v < 101000 := K.2.2.2.2.2.2.2.2.2.1
    have hx : sl_x (sq g n k t f j) t (sq_v g k f j) = nI v := K.2.2.2.2.2.2.2.1
    show 0 ≤ sl_x (sq g n k t f j) t (sq_v g k f j)
    rw [hx, tp_le, tp_t (by omega)]
    show (0 : Int) ≤ v
    omega
theorem sm_back {g : tp_St} {nT nR n k m N : Nat} {t f e : Int32} {post : Int32 → tp_St → Prop} (H : RRn g nT nR n) (he : ¬ 0 ≤ e) : ∀ i, i ≤ 32 → ∀ υ, (∀ j, j < i → sq_1 g nT nR n k m t f j) → wr (n + i) (sq g n k t f i) υ → (∀ υ', wr n g υ' → sc υ υ' → post e υ') → tp_E 116 191 [.ref 58, .int t, .null, .null, .null, .int (nI N), .int (nI n), .int e, .null, .null, .null, .null, .null] [] υ post := by
  intro i
  induction i with
  | zero =>
    intro _ υ ho hw hp
    refine sg_116_191 _ _ _ _ ?_
    have h59 : υ.1 58 9 = nI n := (hw 58 9 (by omega) (by omega)).trans H.2.2.2.1.2.2.1
    rw [h59]
    exact ⟨fun z => absurd z he, fun _ => ⟨fun _ => ⟨fun z => absurd z he, fun _ => hp υ hw sc_rf⟩, fun w => absurd (tp_le.mpr (Int.le_refl _)) w⟩⟩
  | succ i ih =>
    intro hi υ ho hw hp
    obtain ⟨G, G2⟩ := sq_R H (i := i) (fun j hj => ho j (by omega))
    have G3 := (ho i (by omega)).2
    obtain ⟨tt, yy, c, v, K⟩ := sl_know G G3
    have t5 := G.1.1
    have r16 := G.2.2.1.1
    have ne := fun {o k : Nat} => sl_b_ne (o := o) (k := k) K t5
    obtain ⟨b1, b2, b3, b4, b5, b6, b7, b8, b9, b10, b11, b12⟩ := sl_b_is K t5
    obtain ⟨k0, k1, k2, k3, k4, k5, k6, k7, k8, k9, k10, k11, k12, k13, k14, k15, k16⟩ := K
    subst k0
    have hw2 : wr (n + i + 1) (sl_b (sq g n k (nI tt) f i) (n + i) (nI tt) (sq_v g k f i) (sq_w g k f i)) υ := hw
    have e58 := (hw2 58 9 (by omega) (by omega)).trans b12
    have e67 := (hw2 67 (n + i) (by omega) (by omega)).trans b8
    have e61 := (hw2 61 (5 * c + yy) (by omega) (by omega)).trans b11
    have e63 : υ.1 63 tt = nI c := ((hw2 63 tt (by omega) (by omega)).trans (ne (by omega))).trans ((G.2.2.1.2.2.2 tt k1).1.trans k5)
    refine sg_116_191 _ _ _ _ ?_
    rw [e58, nI_pred, tp_c (show n + i < 1000000 by omega), e67, tp_c (show tt < 1000000 by omega), e63, tp_5c, tp_c (show 5 * c + yy < 1000000 by omega), e61, nI_pred]
    have hv30 := tp_vi (show 5 * c + yy < 30 by omega) (by omega)
    refine ⟨fun z => absurd z he, fun _ => ⟨fun z => absurd z (tp_nle (by omega) (by omega)), fun _ => ⟨tp_vi (by omega) (by omega), tp_vi (by omega) (by omega), hv30, hv30, ?_⟩⟩⟩
    have hwr : wr (n + i) (sq g n k (nI tt) f i) (tp_set (tp_set υ 61 (5 * c + yy) (nI v)) 58 9 (nI (n + i))) := by
      intro o q h1 h2
      by_cases a1 : o = 58 ∧ q = 9
      · obtain ⟨rfl, rfl⟩ := a1
        rw [tp_sg_eq]
        exact G.2.2.2.1.2.2.1.symm
      · rw [tp_sg_ne (by omega)]
        by_cases a2 : o = 61 ∧ q = 5 * c + yy
        · obtain ⟨rfl, rfl⟩ := a2
          rw [tp_sg_eq]
          exact ((G.2.1 c yy k4 (by omega)).1.trans k8).symm
        · rw [tp_sg_ne (by omega), hw2 o q h1 (by omega), ne (by omega)]
    have hsc : sc υ (tp_set (tp_set υ 61 (5 * c + yy) (nI v)) 58 9 (nI (n + i))) := ⟨fun o q h1 => by rw [tp_sg_ne (by omega), tp_sg_ne (by omega)], rfl⟩
    exact ih (by omega) _ (fun j hj => ho j (by omega)) hwr (fun υ' h1 h2 => hp υ' h1 (sc_tr hsc h2))
theorem sm_fail {υ : tp_St} {t f e a b c d : Int32} {post : Int32 → tp_St → Prop} (he : ¬ 0 ≤ e) (h : tp_E 116 191 [.ref 58, .int t, .null, .null, .null, .int b, .int c, .int e, .null, .null, .null, .null, .null] [] υ post) : tp_E 116 88 [.ref 58, .int t, .int a, .null, .int f, .int b, .int c, .int e, .int d, .null, .null, .null, .null] [] υ post :=
  sg_116_88 _ _ _ _ _ _ _ ⟨fun _ => h, fun _ => ⟨fun z => absurd (by rw [z]; decide) he, fun _ => h⟩⟩
theorem sm_run {g υ0 : tp_St} {nT nR n k m N i : Nat} {t f : Int32} {post : Int32 → tp_St → Prop} (H : RRn g nT nR n) (hk : k < 4) (hm : m ≤ 64) (e71 : g.1 71 k = nI m) (hN : N ≤ 32) (hi : i ≤ N) (ho : ∀ j, j < i → sq_1 g nT nR n k m t f j) (hw : wr n g υ0) (hp : ∀ υ, wr (n + i) (sq g n k t f i) υ → sc υ0 υ → tp_E 116 88 [.ref 58, .int t, .int (nI k), .null, .int f, .int (nI N), .int (nI n), .int 0, .int (nI i), .null, .null, .null, .null] [] υ post) : tp_E 116 88 [.ref 58, .int t, .int (nI k), .null, .int f, .int (nI N), .int (nI n), .int 0, .int 0, .null, .null, .null, .null] [] υ0 post := by
  refine tp_up_loop (E := fun j => ∀ υ, wr (n + j) (sq g n k t f j) υ → sc υ0 υ → tp_E 116 88 [.ref 58, .int t, .int (nI k), .null, .int f, .int (nI N), .int (nI n), .int 0, .int (nI j), .null, .null, .null, .null] [] υ post) (n := i) (fun j hj z υ h1 h2 => ?_) hp 0 (Nat.zero_le _) υ0 hw sc_rf
  have h1j := ho j hj
  refine sm_88 H hk hm e71 hN (by omega) (fun q hq => ho q (by omega)) h1 (fun e he => ?_) (fun _ υ' h3 h4 => z υ' h3 (sc_tr h2 h4))
  rcases he with ⟨q, -⟩ | ⟨-, e', he', -⟩
  · exact absurd h1j.1 q
  · cases sl_f_u he' h1j.2
theorem sq_neg {g : tp_St} {nT nR n k m i : Nat} {t f e : Int32} (h : sq_e g nT nR n k m t f i e) : ¬ 0 ≤ e := by
  rcases h with ⟨-, rfl⟩ | ⟨-, e', he', rfl⟩
  · decide
  · rcases sl_f_neg he' with rfl | rfl | rfl | rfl <;> decide
theorem sq_e_u {g : tp_St} {nT nR n k m i : Nat} {t f e e' : Int32} (h : sq_e g nT nR n k m t f i e) (h' : sq_e g nT nR n k m t f i e') : e = e' := by
  rcases h with ⟨h1, h2⟩ | ⟨h1, x, h2, h3⟩ <;> rcases h' with ⟨k1, k2⟩ | ⟨k1, z, k2, k3⟩
  · rw [h2, k2]
  · exact absurd k1 h1
  · exact absurd h1 k1
  · cases sl_f_u h2 k2
    rw [h3, k3]
theorem op_scan {σ : tp_St} {a b l f w : Int32} (h : RR_all σ) : tp_E 70 0 [.ref 0, .int a, .int b, .int l, .int f, .int w, .null, .null, .null] [] σ (tp_Res 116 [.ref 58, .int a, .int b, .int l, .int f, .int w, .null, .null, .null, .null, .null, .null, .null]) := by
  obtain ⟨nT, nR, nS, nB, nD, hT, hP, hR, hS, hH, hA, hL, hD, hK⟩ := id h
  have H : RRn σ nT nR nS := ⟨hT, hP, hR, hS, hH, ⟨nB, hA⟩, hL, ⟨nD, hD⟩, hK⟩
  obtain ⟨r1, r2, r3, r4⟩ := id hR
  have bad : (¬ (0 ≤ a.toInt ∧ a.toInt < nR) ∨ ¬ (0 ≤ b.toInt ∧ b.toInt ≤ 3) ∨ ¬ (0 ≤ l.toInt ∧ l.toInt ≤ 2) ∨ ¬ (0 ≤ w.toInt ∧ w.toInt ≤ 32)) → tp_Res 116 [.ref 58, .int a, .int b, .int l, .int f, .int w, .null, .null, .null, .null, .null, .null, .null] (-1) σ := fun hb =>
    sg_116_0 _ _ _ _ _ (tp_if (sp_107 r3 (by omega)) (fun p1 => tp_if (sp_101 tp_i64 (l := 0) rfl (h := 3) rfl) (fun p2 => tp_if (sp_101 tp_i64 (l := 0) rfl (h := 2) rfl) (fun p3 => tp_if (sp_101 tp_i64 (l := 0) rfl (h := 32) rfl) (fun p4 => by omega) (fun p4 => ⟨rfl, h⟩)) (fun p3 => ⟨rfl, h⟩)) (fun p2 => ⟨rfl, h⟩)) (fun p1 => ⟨rfl, h⟩))
  refine sg_70_0 _ _ _ _ _ (tp_if (sp_53 r2 (by omega)) (fun q1 => tp_if (sp_91 (l := 0) rfl (h := 3) rfl) (fun q2 => bad (by omega)) (fun q2 => tp_if (sp_91 (l := 0) rfl (h := 2) rfl) (fun q3 => bad (by omega)) (fun q3 => tp_if (sp_91 (l := 0) rfl (h := 32) rfl) (fun q4 => bad (by omega)) (fun q4 => ?_)))) (fun q1 => bad (by omega)))
  obtain ⟨k, hk3, rfl⟩ := tp_rg_nI (x := b) (hi := 3) ⟨by omega, by omega⟩ (by omega)
  obtain ⟨N, hN, rfl⟩ := tp_rg_nI (x := w) (hi := 32) ⟨by omega, by omega⟩ (by omega)
  have hk : k < 4 := by omega
  have model : ∀ (r : Int32) (σ1 : tp_St), wr nS σ σ1 → (σ.1 70 k = l → tp_E 116 88 [.ref 58, .int a, .int (nI k), .null, .int f, .int (nI N), .int (nI nS), .int 0, .int 0, .null, .null, .null, .null] [] σ1 (fun r' σ2 => r = r' ∧ RR_all σ2)) → (¬ σ.1 70 k = l → (σ.1 70 k = -4 → r = -11 ∧ RR_all σ1) ∧ (¬ σ.1 70 k = -4 → r = -13 ∧ RR_all σ1)) → tp_Res 116 [.ref 58, .int a, .int (nI k), .int l, .int f, .int (nI N), .null, .null, .null, .null, .null, .null, .null] r σ1 := fun r σ1 hw e1 e2 => by
    have h70 : σ1.1 70 k = σ.1 70 k := hw 70 k (by omega) (by omega)
    refine sg_116_0 _ _ _ _ _ (tp_if (sp_107 (n := nR) ((hw 58 5 (by omega) (by omega)).trans r3) (by omega)) (fun p1 => tp_if (sp_101 tp_i64 (l := 0) rfl (h := 3) rfl) (fun p2 => tp_if (sp_101 tp_i64 (l := 0) rfl (h := 2) rfl) (fun p3 => tp_if (sp_101 tp_i64 (l := 0) rfl (h := 32) rfl) (fun p4 => ?_) (fun p4 => absurd ⟨by omega, by omega⟩ p4)) (fun p3 => absurd ⟨by omega, by omega⟩ p3)) (fun p2 => absurd ⟨by omega, by omega⟩ p2)) (fun p1 => absurd q1 p1))
    rw [tp_c (show k < 1000000 by omega), h70, hw 58 9 (by omega) (by omega), hS.2.2.1]
    exact ⟨tp_vi hk (by omega), e1, fun z => ⟨tp_vi hk (by omega), (e2 z).1, (e2 z).2⟩⟩
  refine ⟨tp_vi hk (by omega), tp_q4 (P := fun q => tp_E 41 0 [.ref q] [] σ (fun r5 σ5 => (r5 = 0 → (σ5.1 q 1 = l → tp_E 70 76 [.ref 0, .int a, .null, .null, .int f, .int (nI N), .ref q, .int 0, .null] [] σ5 (tp_Res 116 [.ref 58, .int a, .int (nI k), .int l, .int f, .int (nI N), .null, .null, .null, .null, .null, .null, .null])) ∧ (¬ σ5.1 q 1 = l → tp_Res 116 [.ref 58, .int a, .int (nI k), .int l, .int f, .int (nI N), .null, .null, .null, .null, .null, .null, .null] (-13) σ5)) ∧ (¬ r5 = 0 → tp_Res 116 [.ref 58, .int a, .int (nI k), .int l, .int f, .int (nI N), .null, .null, .null, .null, .null, .null, .null] (-11) σ5))) hk (tp_if (sp_41 hk) (fun q5 => ?_) (fun q5 => ?_))⟩
  · rcases hH.1 k hk with ⟨h1, h2⟩ | ⟨l', n, h1, h2, h3, h4, h5, h6⟩
    · refine model _ _ wr_rf (fun z => ?_) (fun _ => ⟨fun _ => ⟨rfl, h⟩, fun z => absurd h1 z⟩)
      rw [← z, h1] at q3
      exact absurd (Or.inl (by decide)) q3
    · rw [h6, tp_eq, tp_t (by omega)] at q5
      have : (n : Int) = -1 := q5
      omega
  · rcases hH.1 k hk with ⟨h1, h2⟩ | ⟨l', m, h1, h2, h3, h4, h5, h6⟩
    · exact absurd h2 q5
    · rw [h4]
      refine ⟨fun z => ?_, fun z => model _ _ wr_rf (fun w => absurd (h3.symm.trans w) z) (fun _ => ⟨fun w => ?_, fun _ => ⟨rfl, h⟩⟩)⟩
      · refine sp_scan H hk h2 h6 hN (fun ho σ' hw ha => ?_) (fun i e hi ho he σ' hw ha => ?_) N 0 σ (by omega) (fun j hj => absurd hj (by omega)) wc_rf tp_ag_rf
        · refine model _ _ (wr_ag wr_rf ha) (fun _ => ?_) (fun y => absurd (h3.trans z) y)
          refine sm_run H hk h2 h5 hN (Nat.le_refl N) ho (wr_ag wr_rf ha) (fun υ h7 h8 => ?_)
          refine sg_116_88 _ _ _ _ _ _ _ ⟨fun _ => ?_, fun y => absurd (tp_le.mpr (Int.le_refl _)) y⟩
          have fin : RR_all υ := RR_wk (sq_R H ho).1 (wc_sc hw h8) h7
          exact sg_116_191 _ _ _ _ ⟨fun _ => ⟨fun _ => ⟨rfl, fin⟩, fun y => absurd (by decide) y⟩, fun y => absurd (by decide) y⟩
        · refine model _ _ (wr_ag wr_rf ha) (fun _ => ?_) (fun y => absurd (h3.trans z) y)
          refine sm_run H hk h2 h5 hN (i := i) (by omega) ho (wr_ag wr_rf ha) (fun υ h7 h8 => ?_)
          refine sm_88 H hk h2 h5 hN hi ho h7 (fun e' he' => ?_) (fun h1j => ?_)
          · cases sq_e_u he he'
            refine sm_fail (sq_neg he) (sm_back H (sq_neg he) i (by omega) υ ho h7 (fun υ' h9 h10 => ⟨rfl, ?_⟩))
            exact RR_wk H (wc_sc (wc_sc hw h8) h10) h9
          · rcases he with ⟨y, -⟩ | ⟨-, e', he', -⟩
            · exact absurd h1j.1 y
            · cases sl_f_u he' h1j.2
      · rw [h3, tp_eq, tp_t (by omega)] at w
        have : (l' : Int) = -4 := w
        omega
theorem op_undo {σ : tp_St} (h : RR_all σ) : tp_E 67 0 [.ref 0, .null, .null, .null] [] σ (tp_Res 113 [.ref 58, .null, .null]) := by
  obtain ⟨nT, nR, nS, nB, nD, hT, hP, hR, hS, hH, hA, hL, hD, hK⟩ := id h
  obtain ⟨s1, s2, s3, s4⟩ := id hS
  have t5 := hT.1
  have r16 := hR.1
  refine sg_67_0 ?_
  rw [s2]
  cases nS with
  | zero =>
    refine ⟨fun _ => sg_113_0 ?_, fun z => absurd rfl z⟩
    rw [s3]
    exact ⟨fun _ => ⟨rfl, h⟩, fun z => absurd rfl z⟩
  | succ n =>
    obtain ⟨⟨tt, k1, e15, e66, -⟩, ⟨yy, k3, e16, e67⟩, e69, -, e18⟩ := s4 n (by omega)
    obtain ⟨l1, l2, l3, ⟨c, hc, ec⟩, -, -⟩ := hR.2.2.2 tt k1
    obtain ⟨p1, p2, p3, p4, p5⟩ := hP c yy hc (by omega)
    have hne : ¬ nI (n + 1) = 0 := by
      rw [tp_eq, tp_t (by omega)]
      show ¬ ((n + 1 : Nat) : Int) = 0
      omega
    have hv := tp_vi (show n < 200 by omega) (by omega)
    have hv16 := tp_vi (show tt < 16 by omega) (by omega)
    have hv30 := tp_vi (show 5 * c + yy < 30 by omega) (by omega)
    rw [nI_pred, tp_c (show n < 1000000 by omega), e15, tp_c (show tt < 1000000 by omega), ec, tp_c (show c < 1000000 by omega), e16, tp_c (show yy < 1000000 by omega)]
    have model : ∀ (r : Int32) (σ1 : tp_St), tp_ag σ σ1 → (σ.1 14 tt = 0 → r = -2 ∧ RR_all σ1) → (¬ σ.1 14 tt = 0 → (σ.1 (46 + c) yy = σ.1 18 n + 1 → r = nI n ∧ RR_all (tp_set (tp_set σ1 61 (5 * c + yy) (σ.1 (46 + c) yy - 1)) 58 9 (nI n))) ∧ (¬ σ.1 (46 + c) yy = σ.1 18 n + 1 → r = -2 ∧ RR_all σ1)) → tp_Res 113 [.ref 58, .null, .null] r σ1 := fun r σ1 ag e1 e2 => by
      refine sg_113_0 ?_
      rw [ag 58 9 (by omega) (by omega), s3, nI_pred, tp_c (show n < 1000000 by omega), ag 66 n (by omega) (by omega), e66, tp_c (show tt < 1000000 by omega), ag 65 tt (by omega) (by omega), l3, ag 63 tt (by omega) (by omega), l1, ec, ag 67 n (by omega) (by omega), e67, tp_5c, tp_c (show 5 * c + yy < 1000000 by omega), ag 61 _ (by omega) (by omega), p1, ag 69 n (by omega) (by omega), e69]
      exact ⟨fun z => absurd z hne, fun _ => ⟨hv, hv16, hv, hv, hv16, e1, fun z => ⟨hv30, hv, fun w => ⟨hv30, hv30, (e2 z).1 w⟩, (e2 z).2⟩⟩⟩
    refine ⟨fun z => absurd z hne, fun _ => ⟨hv, hv16, tp_vi hc (by omega), hv, tp_vi (by omega) (by omega), hv16, fun z => model _ _ tp_ag_rf (fun _ => ⟨rfl, h⟩) (fun y => absurd z y), fun z => ⟨hv, fun w => ?_, fun w => model _ _ tp_ag_rf (fun y => absurd y z) (fun _ => ⟨fun y => absurd ?_ w, fun _ => ⟨rfl, h⟩⟩)⟩⟩⟩
    · refine sg_99_0 ?_
      rw [s2, nI_pred, tp_c (show n < 1000000 by omega), e15, tp_c (show tt < 1000000 by omega), ec, tp_c (show c < 1000000 by omega), e16, tp_c (show yy < 1000000 by omega)]
      refine ⟨hv, hv16, tp_vi hc (by omega), hv, hv, tp_vi (by omega) (by omega), ?_⟩
      rw [tp_sg_eq]
      refine model _ _ (fun o k h1 h2 => by rw [tp_sg_ne (by omega), tp_sg_ne (by omega)]) (fun y => absurd y z) (fun _ => ⟨fun y => ⟨rfl, ?_⟩, fun y => absurd ?_ y⟩)
      · refine ⟨nT, nR, n, nB, nD, RT_fr hT (fun o k hd => (tp_sg_ne (by omega)).trans ((tp_sg_ne (by omega)).trans ((tp_sg_ne (by omega)).trans ((tp_sg_ne (by omega)).trans (rfl))))), ?_, RR_fr hR (fun o k hd => (tp_sg_ne (by omega)).trans ((tp_sg_ne (by omega)).trans ((tp_sg_ne (by omega)).trans ((tp_sg_ne (by omega)).trans (rfl))))), ⟨by omega, ?_, ?_, fun k hk => RS1_fr (s4 k (by omega)) (Nat.le_refl _) (Nat.le_refl _) (fun o k hd => (tp_sg_ne (by omega)).trans ((tp_sg_ne (by omega)).trans ((tp_sg_ne (by omega)).trans ((tp_sg_ne (by omega)).trans (rfl)))))⟩, RH_fr hH (fun o k hd => (tp_sg_ne (by omega)).trans ((tp_sg_ne (by omega)).trans ((tp_sg_ne (by omega)).trans ((tp_sg_ne (by omega)).trans (rfl))))), RA_fr hA (fun o k hd => (tp_sg_ne (by omega)).trans ((tp_sg_ne (by omega)).trans ((tp_sg_ne (by omega)).trans ((tp_sg_ne (by omega)).trans (rfl))))), RLw_fr hL rfl (fun o k hd => (tp_sg_ne (by omega)).trans ((tp_sg_ne (by omega)).trans ((tp_sg_ne (by omega)).trans ((tp_sg_ne (by omega)).trans (rfl))))), RD_fr hD (fun o k hd => (tp_sg_ne (by omega)).trans ((tp_sg_ne (by omega)).trans ((tp_sg_ne (by omega)).trans ((tp_sg_ne (by omega)).trans (rfl))))), RK_fr hK (fun o k hd => (tp_sg_ne (by omega)).trans ((tp_sg_ne (by omega)).trans ((tp_sg_ne (by omega)).trans ((tp_sg_ne (by omega)).trans (rfl)))))⟩
        · intro c' t' hc' ht'
          by_cases e : c' = c ∧ t' = yy
          · obtain ⟨rfl, rfl⟩ := e
            rw [tp_sg_ne (by omega), tp_sg_eq, tp_sg_ne (by omega), tp_sg_ne (by omega), tp_sg_ne (by omega), tp_sg_eq, tp_sg_ne (by omega), tp_sg_ne (by omega), tp_sg_ne (by omega), tp_sg_ne (by omega), tp_sg_ne (by omega), tp_sg_ne (by omega), tp_sg_ne (by omega), tp_sg_ne (by omega)]
            have hx : (σ.1 (46 + c') t').toInt = (σ.1 18 n).toInt + 1 := by
              rw [y, Int32.toInt_add, show (1 : Int32).toInt = 1 from rfl]
              have := e18.1
              have := e18.2
              simp only [Int.bmod_def]
              omega
            exact ⟨w.symm, p2, e18.1, by omega, p5⟩
          · rw [tp_sg_ne (by omega), tp_sg_ne (by omega), tp_sg_ne (by omega), tp_sg_ne (by omega), tp_sg_ne (by omega), tp_sg_ne (by omega), tp_sg_ne (by omega), tp_sg_ne (by omega), tp_sg_ne (by omega), tp_sg_ne (by omega), tp_sg_ne (by omega), tp_sg_ne (by omega), tp_sg_ne (by omega), tp_sg_ne (by omega), tp_sg_ne (by omega), tp_sg_ne (by omega)]
            exact hP c' t' hc' ht'
        · rw [tp_sg_ne (by omega), tp_sg_ne (by omega), tp_sg_eq]
        · rw [tp_sg_eq]
      · rw [w, Int32.sub_add_cancel]
    · rw [y, Int32.add_sub_cancel]
