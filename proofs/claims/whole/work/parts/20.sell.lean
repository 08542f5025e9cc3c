/-! selling: a ghost g of both sides; rows behind the n sales may be anything -/
def wc (n : Nat) (g σ : tp_St) : Prop := (∀ o k, ¬ (58 ≤ o ∧ o < 82) → ¬ ((15 ≤ o ∧ o ≤ 18) ∧ n ≤ k) → σ.1 o k = g.1 o k) ∧ σ.2 = g.2
def wr (n : Nat) (g σ : tp_St) : Prop := ∀ o k, (58 ≤ o ∧ o < 82) → ¬ ((66 ≤ o ∧ o ≤ 69) ∧ n ≤ k) → σ.1 o k = g.1 o k
def sc (σ τ : tp_St) : Prop := (∀ o k, ¬ (58 ≤ o ∧ o < 82) → τ.1 o k = σ.1 o k) ∧ τ.2 = σ.2
theorem wc_rf {n : Nat} {g : tp_St} : wc n g g := ⟨fun _ _ _ _ => rfl, rfl⟩
theorem wr_rf {n : Nat} {g : tp_St} : wr n g g := fun _ _ _ _ => rfl
theorem wr_ag {n : Nat} {g σ τ : tp_St} (h : wr n g σ) (a : tp_ag σ τ) : wr n g τ := fun o k h1 h2 => (a o k h1.1 h1.2).trans (h o k h1 h2)
theorem wc_sc {n : Nat} {g σ τ : tp_St} (h : wc n g σ) (a : sc σ τ) : wc n g τ := ⟨fun o k h1 h2 => (a.1 o k h1).trans (h.1 o k h1 h2), a.2.trans h.2⟩
theorem sc_rf {σ : tp_St} : sc σ σ := ⟨fun _ _ _ => rfl, rfl⟩
theorem sc_tr {a b c : tp_St} (h : sc a b) (k : sc b c) : sc a c := ⟨fun o i h1 => (k.1 o i h1).trans (h.1 o i h1), k.2.trans h.2⟩
theorem ag_tr {a b c : tp_St} (h : tp_ag a b) (k : tp_ag b c) : tp_ag a c := fun o i h1 h2 => (k o i h1 h2).trans (h o i h1 h2)
theorem sg_cg {σ g : tp_St} {a b o k : Nat} {v : Int32} (h : ¬ (o = a ∧ k = b) → σ.1 o k = g.1 o k) : (tp_set σ a b v).1 o k = (tp_set g a b v).1 o k := by
  by_cases e : o = a ∧ k = b
  · obtain ⟨rfl, rfl⟩ := e
    rw [tp_sg_eq, tp_sg_eq]
  · rw [tp_sg_ne (by omega), tp_sg_ne (by omega)]
    exact h e
def RRn (g : tp_St) (nT nR n : Nat) : Prop := RT g nT ∧ RP g ∧ RR g nR ∧ RS g nT nR n ∧ RH g ∧ (∃ nB, RA g nB) ∧ RLw g ∧ (∃ nD, RD g nD) ∧ RK g
theorem RRn_all {g : tp_St} {nT nR n : Nat} (h : RRn g nT nR n) : RR_all g := by
  obtain ⟨hT, hP, hR, hS, hH, ⟨nB, hA⟩, hL, ⟨nD, hD⟩, hK⟩ := h
  exact ⟨nT, nR, n, nB, nD, hT, hP, hR, hS, hH, hA, hL, hD, hK⟩
theorem RR_wk {g σ : tp_St} {nT nR n : Nat} (h : RRn g nT nR n) (hc : wc n g σ) (hr : wr n g σ) : RR_all σ := by
  obtain ⟨hT, hP, hR, hS, hH, ⟨nB, hA⟩, hL, ⟨nD, hD⟩, hK⟩ := h
  have e : ∀ o k, ¬ (((15 ≤ o ∧ o ≤ 18) ∨ (66 ≤ o ∧ o ≤ 69)) ∧ n ≤ k) → σ.1 o k = g.1 o k := fun o k h1 => by
    by_cases h2 : 58 ≤ o ∧ o < 82
    · exact hr o k h2 (by omega)
    · exact hc.1 o k h2 (by omega)
  refine ⟨nT, nR, n, nB, nD, RT_fr hT (fun o k hd => e o k (by omega)), RP_fr hP (fun o k hd => e o k (by omega)), RR_fr hR (fun o k hd => e o k (by omega)), ⟨hS.1, by rw [e 4 4 (by omega)]; exact hS.2.1, by rw [e 58 9 (by omega)]; exact hS.2.2.1, fun k hk => RS1_fr (hS.2.2.2 k hk) (Nat.le_refl _) (Nat.le_refl _) (fun o j hj => e o j (by omega))⟩, RH_fr hH (fun o k hd => e o k (by omega)), RA_fr hA (fun o k hd => e o k (by omega)), RLw_fr hL hc.2 (fun o k hd => e o k (by omega)), RD_fr hD (fun o k hd => e o k (by omega)), RK_fr hK (fun o k hd => e o k (by omega))⟩
def ls (g : tp_St) (t : Int32) : Nat → Int32
  | 0 => 0
  | n + 1 => if g.1 15 n = t then g.1 17 n else ls g t n
def sl_st (g : tp_St) (t s : Int32) : Int32 := if g.1 13 t.toNatClampNeg = 0 then 9 - s else s
def sl_c (g : tp_St) (t : Int32) : Nat := (g.1 12 t.toNatClampNeg).toNatClampNeg
def sl_x (g : tp_St) (t y : Int32) : Int32 := g.1 (46 + sl_c g t) y.toNatClampNeg
def sl_ok (nT nR : Nat) (t y s : Int32) : Prop := (0 ≤ t.toInt ∧ t.toInt < nR) ∧ (0 ≤ y.toInt ∧ y.toInt < nT) ∧ (0 ≤ s.toInt ∧ s.toInt ≤ 9)
def sl_no (g : tp_St) (n : Nat) (t y s : Int32) : Option Int32 := if g.1 14 t.toNatClampNeg = 0 then some (-2) else if sl_st g t s < ls g t n then some (-2) else if sl_st g t s = 9 then some (-2) else if n = 200 then some (-3) else if g.1 (52 + sl_c g t) y.toNatClampNeg = sl_x g t y then some (-4) else none
/-- what a sale answers when it fails -/
def sl_f (g : tp_St) (nT nR n : Nat) (t y s : Int32) (r : Option Int32) : Prop := (¬ sl_ok nT nR t y s ∧ r = some (-1)) ∨ (sl_ok nT nR t y s ∧ r = sl_no g n t y s)
def sl_cs (g : tp_St) (c yy n : Nat) (t y st x : Int32) : tp_St := tp_set (tp_set (tp_set (tp_set (tp_set (tp_set g (46 + c) yy (x + 1)) 15 n t) 16 n y) 17 n st) 18 n x) 4 4 (nI (n + 1))
def sl_ms (g : tp_St) (c yy n : Nat) (t y s x : Int32) : tp_St := tp_set (tp_set (tp_set (tp_set (tp_set (tp_set g 66 n t) 67 n y) 68 n s) 69 n x) 61 (5 * c + yy) (x + 1)) 58 9 (nI (n + 1))
def sl_b (g : tp_St) (n : Nat) (t y s : Int32) : tp_St := sl_ms (sl_cs g (sl_c g t) y.toNatClampNeg n t y (sl_st g t s) (sl_x g t y)) (sl_c g t) y.toNatClampNeg n t y s (sl_x g t y)
theorem sl_ms_c {g : tp_St} {c yy n : Nat} {t y s x : Int32} {o k : Nat} (h : ¬ (58 ≤ o ∧ o < 82)) : (sl_ms g c yy n t y s x).1 o k = g.1 o k := by
  unfold sl_ms
  rw [tp_sg_ne (by omega), tp_sg_ne (by omega), tp_sg_ne (by omega), tp_sg_ne (by omega), tp_sg_ne (by omega), tp_sg_ne (by omega)]
theorem sl_cs_r {g : tp_St} {c yy n : Nat} {t y st x : Int32} {o k : Nat} (hc : c < 6) (h : 58 ≤ o ∧ o < 82) : (sl_cs g c yy n t y st x).1 o k = g.1 o k := by
  unfold sl_cs
  rw [tp_sg_ne (by omega), tp_sg_ne (by omega), tp_sg_ne (by omega), tp_sg_ne (by omega), tp_sg_ne (by omega), tp_sg_ne (by omega)]
/-- the class's side -/
theorem sp_32 {g σ : tp_St} {t : Int32} {n : Nat} (h4 : σ.1 4 4 = nI n) (hn : n ≤ 200) (e : ∀ o k, (o = 15 ∨ o = 17) → k < n → σ.1 o k = g.1 o k) : tp_val 32 [.ref 4, .int t, .null] σ (ls g t n) := by
  intro post hp
  refine sg_32_0 _ ?_
  rw [h4]
  have key : ∀ m, m ≤ n → post (ls g t m) σ → tp_E 32 7 [.ref 4, .int t, .int (nI m - 1)] [] σ post := by
    intro m
    induction m with
    | zero =>
      intro _ h
      refine sg_32_7 _ _ ?_
      rw [tp_neg1]
      exact ⟨fun _ => h, fun z => absurd (by decide) z⟩
    | succ m ih =>
      intro hle h
      refine sg_32_7 _ _ ?_
      rw [nI_pred, tp_m1, tp_c (show m < 1000000 by omega), e 15 m (Or.inl rfl) (by omega), e 17 m (Or.inr rfl) (by omega)]
      unfold ls at h
      refine ⟨fun z => absurd z (by rw [tp_lt, tp_t (by omega)]; show ¬ (m : Int) < 0; omega), fun _ => ⟨tp_vi (by omega) (by omega), fun z => ⟨tp_vi (by omega) (by omega), ?_⟩, fun z => ih (by omega) ?_⟩⟩
      · rw [if_pos z] at h; exact h
      · rw [if_neg z] at h; exact h
  exact key n (Nat.le_refl _) hp
theorem sp_57 {σ : tp_St} {t : Nat} {s : Int32} (ht : t < 16) : tp_val 57 [.ref 3, .int (nI t), .int s] σ (if σ.1 13 t = 0 then 9 - s else s) := by
  intro post hp
  refine sg_57_0 _ _ ?_
  rw [tp_c (show t < 1000000 by omega)]
  refine ⟨tp_vi ht (by omega), fun z => ?_, fun z => ?_⟩
  · rw [if_pos z] at hp; exact hp
  · rw [if_neg z] at hp; exact hp
theorem sp_30 {σ : tp_St} {n : Nat} (h4 : σ.1 4 4 = nI n) (hn : n ≤ 200) : tp_bool 30 [.ref 4] σ (n = 200) := by
  intro post h1 h0
  refine sg_30_0 ?_
  rw [h4, tp_lt, tp_t (by omega)]
  refine ⟨fun z => h0 (fun w => ?_), fun z => h1 ?_⟩
  · have : (n : Int) < 200 := z
    omega
  · have : ¬ (n : Int) < 200 := z
    omega
theorem sp_66 {g σ : tp_St} {nT nR n : Nat} {t y s : Int32} {post : Int32 → tp_St → Prop} (hT : RT g nT) (hP : RP g) (hR : RR g nR) (hS : RS g nT nR n) (hw : wc n g σ) (hf : ∀ e, sl_f g nT nR n t y s (some e) → post e σ) (hk : sl_f g nT nR n t y s none → ∀ σ', wc (n + 1) (sl_b g n t y s) σ' → tp_ag σ σ' → post (sl_x g t y) σ') : tp_E 66 0 [.ref 0, .int t, .int y, .int s, .null, .null, .null] [] σ post := by
  obtain ⟨s1, s2, s3, s4⟩ := id hS
  have h33 : σ.1 3 3 = nI nR := (hw.1 3 3 (by omega) (by omega)).trans hR.2.1
  have h12 : σ.1 1 2 = nI nT := (hw.1 1 2 (by omega) (by omega)).trans hT.2.1
  have h44 : σ.1 4 4 = nI n := (hw.1 4 4 (by omega) (by omega)).trans s2
  have r16 := hR.1
  have t5 := hT.1
  have bad : ¬ sl_ok nT nR t y s → post (-1) σ := fun z => hf _ (Or.inl ⟨z, rfl⟩)
  refine sg_66_0 _ _ _ (tp_if (sp_53 h33 (by omega)) (fun q1 => tp_if (sp_59 h12 (by omega)) (fun q2 => tp_if (sp_91 (l := 0) rfl (h := 9) rfl) (fun q3 => bad (fun z => by have := z.2.2; omega)) (fun q3 => ?_)) (fun q2 => bad (fun z => q2 z.2.1))) (fun q1 => bad (fun z => q1 z.1)))
  have hok : sl_ok nT nR t y s := ⟨q1, q2, by omega, by omega⟩
  obtain ⟨tt, ht, rfl⟩ := tp_rg_nI (x := t) (hi := nR - 1) ⟨q1.1, by omega⟩ (by omega)
  have htR : tt < nR := by have := q1.2; rw [tp_t (by omega)] at this; omega
  obtain ⟨yy, hy, rfl⟩ := tp_rg_nI (x := y) (hi := nT - 1) ⟨q2.1, by omega⟩ (by omega)
  have hyT : yy < nT := by have := q2.2; rw [tp_t (by omega)] at this; omega
  obtain ⟨-, -, -, ⟨c, hc, ec⟩, -, -⟩ := hR.2.2.2 tt htR
  have ecc : sl_c g (nI tt) = c := by unfold sl_c; rw [tp_c (show tt < 1000000 by omega), ec, tp_c (by omega)]
  obtain ⟨-, -, p3, p4, p5⟩ := hP c yy hc (by omega)
  have fail : ∀ e, sl_no g n (nI tt) (nI yy) s = some e → post e σ := fun e z => hf e (Or.inr ⟨hok, z.symm⟩)
  have good : sl_no g n (nI tt) (nI yy) s = none → ∀ σ', wc (n + 1) (sl_b g n (nI tt) (nI yy) s) σ' → tp_ag σ σ' → post (sl_x g (nI tt) (nI yy)) σ' := fun z => hk (Or.inr ⟨hok, z.symm⟩)
  unfold sl_no at fail good
  have est : sl_st g (nI tt) s = if σ.1 13 tt = 0 then 9 - s else s := by unfold sl_st; rw [tp_c (show tt < 1000000 by omega), hw.1 13 tt (by omega) (by omega)]
  have e14 := hw.1 14 tt (by omega) (by omega)
  have e12 := (hw.1 12 tt (by omega) (by omega)).trans ec
  have e46 := hw.1 (46 + c) yy (by omega) (by omega)
  have e52 := hw.1 (52 + c) yy (by omega) (by omega)
  have ex : sl_x g (nI tt) (nI yy) = σ.1 (46 + c) yy := by unfold sl_x; rw [ecc, tp_c (show yy < 1000000 by omega), e46]
  refine sp_57 (by omega) _ ?_
  rw [← est, tp_c (show tt < 1000000 by omega), e14]
  rw [ecc, tp_c (show tt < 1000000 by omega), tp_c (show yy < 1000000 by omega), ex, ← e52] at fail good
  refine ⟨tp_vi (by omega) (by omega), fun z => fail _ (by rw [if_pos z]), fun z1 => sp_32 h44 s1 (fun o k ho hk => hw.1 o k (by omega) (by omega)) _ ⟨fun z => fail _ (by rw [if_neg z1, if_pos z]), fun z2 => ⟨fun z => fail _ (by rw [if_neg z1, if_neg z2, if_pos z]), fun z3 => tp_if (sp_30 h44 s1) (fun z => fail _ (by rw [if_neg z1, if_neg z2, if_neg z3, if_pos z])) (fun z4 => ⟨tp_vi (by omega) (by omega), ?_⟩)⟩⟩⟩
  rw [e12]
  refine sp_14 hc (by omega) _ ⟨fun z => fail _ (by rw [if_neg z1, if_neg z2, if_neg z3, if_neg z4, if_pos (tp_sub0 z)]), fun z5 => ?_⟩
  have z6 : ¬ σ.1 (52 + c) yy = σ.1 (46 + c) yy := fun w => z5 (by rw [w, Int32.sub_self])
  refine sg_16_0 _ _ ?_
  rw [tp_c (show c < 1000000 by omega), tp_c (show yy < 1000000 by omega)]
  refine ⟨tp_vi hc (by omega), tp_vi (by omega) (by omega), tp_vi (by omega) (by omega), ?_⟩
  refine sg_31_0 _ _ _ _ (tp_if (sp_30 (n := n) (by rw [tp_sg_ne (by omega)]; exact h44) s1) (fun z => absurd z z4) (fun _ => ?_))
  rw [tp_sg_ne (by omega), h44, tp_c (show n < 1000000 by omega), nI_1]
  have hv := tp_vi (show n < 200 by omega) (by omega)
  refine ⟨hv, hv, hv, hv, ?_⟩
  have g2 := good (by rw [if_neg z1, if_neg z2, if_neg z3, if_neg z4, if_neg z6])
  refine g2 _ ⟨fun o k h1 h2 => ?_, hw.2⟩ (fun o k h1 h2 => ?_)
  · unfold sl_b
    rw [sl_ms_c h1, ecc, tp_c (show yy < 1000000 by omega), ex]
    unfold sl_cs
    exact sg_cg (fun a1 => sg_cg (fun a2 => sg_cg (fun a3 => sg_cg (fun a4 => sg_cg (fun a5 => sg_cg (fun a6 => hw.1 o k h1 (by omega)))))))
  · rw [tp_sg_ne (by omega), tp_sg_ne (by omega), tp_sg_ne (by omega), tp_sg_ne (by omega), tp_sg_ne (by omega), tp_sg_ne (by omega)]
/-- the reference's side -/
theorem sp_110g {g υ : tp_St} {t : Nat} {s : Int32} (ht : t < 16) (e : υ.1 64 t = g.1 13 t) : tp_val 110 [.ref 58, .int (nI t), .int s] υ (if g.1 13 t = 0 then 9 - s else s) := by
  intro post hp
  refine sg_110_0 _ _ ?_
  rw [tp_c (show t < 1000000 by omega), e]
  refine ⟨tp_vi (by omega) (by omega), fun z => ?_, fun z => ?_⟩
  · rw [if_pos z] at hp; exact hp
  · rw [if_neg z] at hp; exact hp
theorem sp_111 {g υ : tp_St} {t nT nR n : Nat} (hR : RR g nR) (hS : RS g nT nR n) (hw : wr n g υ) (ht : t < nR) : tp_val 111 [.ref 58, .int (nI t), .null, .null] υ (ls g (nI t) n) := by
  intro post hp
  have r16 := hR.1
  obtain ⟨s1, s2, s3, s4⟩ := id hS
  have h59 : υ.1 58 9 = nI n := (hw 58 9 (by omega) (by omega)).trans s3
  refine sg_111_0 _ ?_
  refine tp_up_loop (E := fun i => tp_E 111 4 [.ref 58, .int (nI t), .int (ls g (nI t) i), .int (nI i)] [] υ post) (n := n) (fun i hi h => ?_) ?_ 0 (Nat.zero_le _)
  · obtain ⟨⟨u, u1, u2, u3, u4⟩, -⟩ := s4 i hi
    refine sg_111_4 _ _ _ ?_
    rw [tp_c (show i < 1000000 by omega), h59, hw 66 i (by omega) (by omega), hw 68 i (by omega) (by omega), u3, nI_1]
    unfold ls at h
    rw [u2] at h
    refine ⟨fun z => absurd z (tp_nle hi (by omega)), fun _ => ⟨tp_vi (by omega) (by omega), fun z => ⟨tp_vi (by omega) (by omega), sp_110g (g := g) (by omega) ((hw 64 t (by omega) (by omega)).trans (hR.2.2.2 t ht).2.1) _ ?_⟩, fun z => ?_⟩⟩
    · have zt : u = t := (tp_ne (by omega) (by omega)).mp z
      subst zt
      rw [← u4]
      rw [if_pos z] at h
      exact h
    · rw [if_neg z] at h; exact h
  · refine sg_111_4 _ _ _ ?_
    rw [h59]
    exact ⟨fun _ => hp, fun z => absurd (tp_le.mpr (Int.le_refl _)) z⟩
theorem sp_112 {g υ : tp_St} {nT nR n : Nat} {t y s : Int32} {post : Int32 → tp_St → Prop} (hT : RT g nT) (hP : RP g) (hR : RR g nR) (hS : RS g nT nR n) (hw : wr n g υ) (hf : ∀ e, sl_f g nT nR n t y s (some e) → post e υ) (hk : sl_f g nT nR n t y s none → ∀ υ', wr (n + 1) (sl_b g n t y s) υ' → sc υ υ' → post (sl_x g t y) υ') : tp_E 112 0 [.ref 58, .int t, .int y, .int s, .null] [] υ post := by
  obtain ⟨s1, s2, s3, s4⟩ := id hS
  have h33 : υ.1 58 5 = nI nR := (hw 58 5 (by omega) (by omega)).trans hR.2.2.1
  have h12 : υ.1 58 0 = nI nT := (hw 58 0 (by omega) (by omega)).trans hT.2.2.1
  have h44 : υ.1 58 9 = nI n := (hw 58 9 (by omega) (by omega)).trans s3
  have r16 := hR.1
  have t5 := hT.1
  have bad : ¬ sl_ok nT nR t y s → post (-1) υ := fun z => hf _ (Or.inl ⟨z, rfl⟩)
  refine sg_112_0 _ _ _ (tp_if (sp_107 h33 (by omega)) (fun q1 => tp_if (sp_101 tp_i64 (l := 0) rfl (h := (nT : Int) - 1) (by rw [tp_i64, h12, tp_pred (by omega)])) (fun q2 => tp_if (sp_101 tp_i64 (l := 0) rfl (h := 9) rfl) (fun q3 => ?_) (fun q3 => bad (fun z => q3 z.2.2))) (fun q2 => bad (fun z => by have := z.2.1; omega))) (fun q1 => bad (fun z => q1 z.1)))
  have q2' : 0 ≤ y.toInt ∧ y.toInt < nT := by omega
  have hok : sl_ok nT nR t y s := ⟨q1, q2', by omega, by omega⟩
  obtain ⟨tt, ht, rfl⟩ := tp_rg_nI (x := t) (hi := nR - 1) ⟨q1.1, by omega⟩ (by omega)
  have htR : tt < nR := by have := q1.2; rw [tp_t (by omega)] at this; omega
  obtain ⟨yy, hy, rfl⟩ := tp_rg_nI (x := y) (hi := nT - 1) ⟨q2.1, by omega⟩ (by omega)
  have hyT : yy < nT := by have := q2'.2; rw [tp_t (by omega)] at this; omega
  obtain ⟨k1, k2, k3, ⟨c, hc, ec⟩, -, -⟩ := hR.2.2.2 tt htR
  have ecc : sl_c g (nI tt) = c := by unfold sl_c; rw [tp_c (show tt < 1000000 by omega), ec, tp_c (by omega)]
  obtain ⟨p1, p2, p3, p4, p5⟩ := hP c yy hc (by omega)
  have fail : ∀ e, sl_no g n (nI tt) (nI yy) s = some e → post e υ := fun e z => hf e (Or.inr ⟨hok, z.symm⟩)
  have good : sl_no g n (nI tt) (nI yy) s = none → ∀ υ', wr (n + 1) (sl_b g n (nI tt) (nI yy) s) υ' → sc υ υ' → post (sl_x g (nI tt) (nI yy)) υ' := fun z => hk (Or.inr ⟨hok, z.symm⟩)
  unfold sl_no at fail good
  have est : sl_st g (nI tt) s = if g.1 13 tt = 0 then 9 - s else s := by unfold sl_st; rw [tp_c (show tt < 1000000 by omega)]
  have e65 := (hw 65 tt (by omega) (by omega)).trans k3
  have e64 := (hw 64 tt (by omega) (by omega)).trans k2
  have e63 := (hw 63 tt (by omega) (by omega)).trans (k1.trans ec)
  have e61 := (hw 61 (5 * c + yy) (by omega) (by omega)).trans p1
  have e62 := (hw 62 (5 * c + yy) (by omega) (by omega)).trans p2
  have ex : sl_x g (nI tt) (nI yy) = g.1 (46 + c) yy := by unfold sl_x; rw [ecc, tp_c (show yy < 1000000 by omega)]
  rw [ecc, tp_c (show tt < 1000000 by omega), tp_c (show yy < 1000000 by omega), ex] at fail good
  rw [tp_c (show tt < 1000000 by omega), e65]
  refine ⟨tp_vi (by omega) (by omega), fun z => fail _ (by rw [if_pos z]), fun z1 => sp_110g (g := g) (by omega) e64 _ (sp_111 hR hS hw htR _ ?_)⟩
  rw [← est]
  refine ⟨fun z => fail _ (by rw [if_neg z1, if_pos z]), fun z2 => sp_110g (g := g) (by omega) e64 _ ?_⟩
  rw [← est]
  refine ⟨fun z => fail _ (by rw [if_neg z1, if_neg z2, if_pos z]), fun z3 => ?_⟩
  rw [h44, e63, tp_5c, tp_c (show 5 * c + yy < 1000000 by omega), e61, e62, tp_c (show n < 1000000 by omega), nI_1, nI_pred, tp_c (show n < 1000000 by omega)]
  have hv30 := tp_vi (show 5 * c + yy < 30 by omega) (by omega)
  refine ⟨fun z => ?_, fun z => ⟨tp_vi (by omega) (by omega), hv30, hv30, fun w => ?_, fun w => ?_⟩⟩
  · have zn : n = 200 := by rw [tp_eq, tp_t (by omega)] at z; have : (n : Int) = 200 := z; omega
    exact fail _ (by rw [if_neg z1, if_neg z2, if_neg z3, if_pos zn])
  · have zn : ¬ n = 200 := fun q => z (by rw [q]; rfl)
    exact fail _ (by rw [if_neg z1, if_neg z2, if_neg z3, if_neg zn, if_pos w.symm])
  · have zn : ¬ n = 200 := fun q => z (by rw [q]; rfl)
    have hv := tp_vi (show n < 200 by omega) (by omega)
    refine ⟨hv, hv, hv, hv30, hv, hv30, hv30, hv, ?_⟩
    rw [tp_sg_ne (o' := 69) (by omega), tp_sg_ne (o' := 69) (by omega), tp_sg_eq (o := 69)]
    refine good (by rw [if_neg z1, if_neg z2, if_neg z3, if_neg zn, if_neg (fun q => w q.symm)]) _ (fun o k h1 h2 => ?_) ⟨fun o k h1 => ?_, rfl⟩
    · unfold sl_b
      rw [ecc, tp_c (show yy < 1000000 by omega), ex]
      unfold sl_ms
      refine sg_cg (fun a1 => sg_cg (fun a2 => sg_cg (fun a3 => sg_cg (fun a4 => sg_cg (fun a5 => sg_cg (fun a6 => ?_))))))
      rw [sl_cs_r hc h1]
      exact hw o k h1 (by omega)
    · rw [tp_sg_ne (by omega), tp_sg_ne (by omega), tp_sg_ne (by omega), tp_sg_ne (by omega), tp_sg_ne (by omega), tp_sg_ne (by omega)]
