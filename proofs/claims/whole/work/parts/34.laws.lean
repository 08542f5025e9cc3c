/-! laws: equal -/
theorem RLw_keep {g τ : tp_St} (h : RLw g) (e2 : τ.2 = g.2) (e1 : τ.1 6 2 = τ.1 58 19) (e : ∀ o k, ((o = 58 ∧ (k = 20 ∨ k = 22 ∨ k = 24 ∨ k = 25)) ∨ o = 74 ∨ o = 75 ∨ (o = g.2.1 ∧ 5 ≤ k ∧ k ≤ 7) ∨ (tp_lb g.2.1 ≤ o ∧ o < tp_lb g.2.1 + 5)) → τ.1 o k = g.1 o k) : RLw τ := by
  obtain ⟨h1, h2, nf, nw, a1, a2, a3, a4, a5, a6, a7, a8, a9⟩ := h
  unfold RLw
  rw [e2]
  refine ⟨h1, e1, nf, nw, a1, a2, ?_, ?_, ?_, ?_, fun k hk => ?_, fun k hk => ?_, ?_⟩
  · rw [e _ 5 (by omega)]; exact a3
  · rw [e 58 20 (by omega)]; exact a4
  · rw [e _ 6 (by omega)]; exact a5
  · rw [e 58 22 (by omega)]; exact a6
  · rw [e 74 _ (by omega), e 74 _ (by omega), e (tp_lb g.2.1) _ (by omega), e (tp_lb g.2.1 + 1) _ (by omega)]; exact a7 k hk
  · rw [e 75 _ (by omega), e 75 _ (by omega), e 75 _ (by omega), e (tp_lb g.2.1 + 2) _ (by omega), e (tp_lb g.2.1 + 3) _ (by omega), e (tp_lb g.2.1 + 4) _ (by omega)]; exact a8 k hk
  · rw [e g.2.1 7 (by omega), e 58 24 (by omega), e 58 25 (by omega)]; exact a9
theorem RR_core {g τ : tp_St} {q : Nat} (h : RR_all g) (hq : q = 24 ∨ q = 25) (e : ∀ o k, ¬ (cfr q o k ∨ (o = 19 ∧ k = 1) ∨ (74 ≤ o ∧ o ≤ 78) ∨ (o = 58 ∧ 18 ≤ k ∧ k ≤ 35)) → τ.1 o k = g.1 o k) (hl : RLw τ) (h1 : τ.1 19 1 = 0) (h2 : τ.1 58 18 = 0) : RR_all τ := by
  obtain ⟨nT, nR, nS, nB, nD, hT, hP, hR, hS, hH, hA, hL, hD, hK⟩ := h
  have hlb := lb_is hq
  refine ⟨nT, nR, nS, 0, nD, RT_fr hT (fun o k hd => e o k (by unfold cfr; omega)), RP_fr hP (fun o k hd => e o k (by unfold cfr; omega)), RR_fr hR (fun o k hd => e o k (by unfold cfr; omega)), RS_fr hS (Nat.le_refl _) (Nat.le_refl _) (fun o k hd => e o k (by unfold cfr; omega)), RH_fr hH (fun o k hd => e o k (by unfold cfr; omega)), ⟨by omega, h1, h2, fun j hj => absurd hj (Nat.not_lt_zero j)⟩, hl, RD_fr hD (fun o k hd => e o k (by unfold cfr; omega)), RK_fr hK (fun o k hd => e o k (by unfold cfr; omega))⟩
theorem tk_k_le {B : Nat → Int32} {n s : Nat} : tk_k B n s < 10 := by
  unfold tk_k
  split
  · omega
  · split
    · split <;> omega
    · split
      · split <;> omega
      · split <;> omega
theorem tk_v_nm {B : Nat → Int32} {n s : Nat} (h : tk_k B n s = 2) : ∃ l, l < 3 ∧ tk_v B n s = nI l := by
  unfold tk_k at h
  split at h
  · omega
  · split at h
    · rename_i hl
      unfold tk_v
      rw [if_pos hl]
      split
      · exact ⟨0, by omega, rfl⟩
      · split
        · exact ⟨1, by omega, rfl⟩
        · exact ⟨2, by omega, rfl⟩
    · split at h
      · split at h <;> omega
      · split at h <;> omega
theorem tk_e_gt {B : Nat → Int32} {n s : Nat} (hs : s < n) : s < tk_e B n s ∧ tk_e B n s ≤ n := by
  unfold tk_e
  split
  · rename_i hl
    rw [rn_go hs hl]
    have := rn_le (P := is_l B) (d := n - (s + 1)) (p := s + 1)
    omega
  · split
    · rename_i hf
      rw [rn_go hs hf]
      have := rn_le (P := is_f B) (d := n - (s + 1)) (p := s + 1)
      omega
    · omega
theorem tk_k_lt {B : Nat → Int32} {n s : Nat} (h : ¬ tk_k B n s = 1) : s < n := by
  unfold tk_k at h
  split at h
  · omega
  · omega
def HA (q p l t f w : Nat) (σ a : tp_St) (Q : Int32 → tp_St → Prop) : Prop := ∀ υ, mG a υ → υ.1 58 27 = nI p → υ.1 58 30 = 0 → MS σ q f w υ → MN (σ.1 26) l t f w υ → tp_E 132 0 [.ref 58, .null] [] υ (fun _ υ' => KK l t f w (σ.1 26) Q υ')
def Hi (g : tp_St) (q p l t f w : Nat) (σ : tp_St) : Prop := ∀ a Q, tp_ag g a → HA q p l t f w σ a Q → tp_E 136 0 [.ref 58, .null] [] a Q
theorem hm_tok {g a σ : tp_St} {B : Nat → Int32} {n q p l t f w : Nat} {Q : Int32 → tp_St → Prop} (hn : n ≤ 200) (hp : p ≤ n) (hb : mB g B n) (ag : tp_ag g a) (cont : ∀ υ', TK a (tk_s B n p) (tk_k B n (tk_s B n p)) (tk_v B n (tk_s B n p)) υ' → (tk_k B n (tk_s B n p) = 2 ∨ tk_k B n (tk_s B n p) = 3 ∨ tk_k B n (tk_s B n p) = 4 → υ'.1 58 27 = nI (tk_e B n (tk_s B n p))) → MS σ q f w υ' → MN (σ.1 26) l t f w υ' → KK l t f w (σ.1 26) Q υ') : HA q p l t f w σ a Q := by
  intro υ hG h27 h30 hM hN
  have hb2 : mB υ B n := ⟨((hG.1 58 18 (by omega)).trans (ag 58 18 (by omega) (by omega))).trans hb.1, fun j hj => by rw [hG.1 73 j (by omega), ag 73 j (by omega) (by omega)]; exact hb.2 j hj⟩
  refine sp_132 hn hp hb2 h27 h30 (fun υ' hF g26 g0 g1 g27 g29 => cont υ' ⟨mG_F hG hF, g26, fun w => ⟨mG_F hG hF, (g0 w).1, (g0 w).2, by decide⟩, g1, g29⟩ g27 (MS_fr hM (fun o k hk => hF.1 o k (by omega))) ⟨fun x y => ?_, fun x y => ?_, fun x y => ?_⟩)
  · rw [hF.1 77 _ (by omega)]; exact hN.1 x y
  · rw [hF.1 78 _ (by omega)]; exact hN.2.1 x y
  · rw [hF.1 78 _ (by omega)]; exact hN.2.2 x y
theorem c_stop {σ : tp_St} {c a1 a2 : Int32} {post : Int32 → tp_St → Prop} (h : σ.1 6 2 = c) (hc : ¬ c = 0) (hp : post (-10 - σ.1 19 2) (tp_set σ 19 1 0)) : tp_E 0 28 [.ref 6, .int a1, .int a2, .null] [] σ post := by
  have n0 : ¬ σ.1 6 2 = 0 := by rw [h]; exact hc
  exact sg_0_28 _ _ ⟨fun _ => ⟨fun w => absurd w n0, fun _ => hp⟩, fun _ => ⟨fun _ => ⟨fun w => absurd w n0, fun _ => ⟨fun w => absurd w n0, fun _ => hp⟩⟩, fun _ => ⟨fun w => absurd w n0, fun _ => hp⟩⟩⟩
theorem c_done {σ : tp_St} {a2 : Int32} {post : Int32 → tp_St → Prop} (h : σ.1 6 2 = 0) (hp : tp_E 1 0 [.ref 6, .null] [] (tp_set σ 19 1 0) post) : tp_E 0 28 [.ref 6, .int 1, .int a2, .null] [] σ post :=
  sg_0_28 _ _ ⟨fun _ => ⟨fun _ => hp, fun w => absurd h w⟩, fun _ => ⟨fun w => absurd w (by decide), fun _ => ⟨fun _ => hp, fun w => absurd h w⟩⟩⟩
theorem kC_ag {g σ : tp_St} {q : Nat} (h : kC g q σ) (hq : q = 24 ∨ q = 25) : tp_ag g σ := fun o k h1 h2 => h.1 o k (by have := lb_is hq; unfold cfr; omega)
theorem lw_fault {g σ0 σ2 : tp_St} {B : Nat → Int32} {n q p l t f w : Nat} {c : Int32} (H : RR_all g) (hn : n ≤ 200) (hp : p ≤ n) (hb : mB g B n) (hd : g.2.2 = q) (hq : q = 24 ∨ q = 25) (hist : Hi g q p l t f w σ0) (hC : kC g q σ2) (h2 : σ2.1 19 2 = nI (tk_s B n p)) (hc : 0 < c.toInt)
    (kf : ∀ a Q υ', TK a (tk_s B n p) (tk_k B n (tk_s B n p)) (tk_v B n (tk_s B n p)) υ' → MS σ0 q f w υ' → MN (σ0.1 26) l t f w υ' → FQ a c (tk_s B n p) Q → KK l t f w (σ0.1 26) Q υ') (a1 a2 : Int32) : tp_E 0 28 [.ref 6, .int a1, .int a2, .null] [] (tp_set σ2 6 2 c) (tp_Res 136 [.ref 58, .null]) := by
  have hlb := lb_is hq
  have hC2 : kC g q (tp_set σ2 6 2 c) := kC_set hC (by unfold cfr; omega)
  refine c_stop tp_sg_eq (fun w => by rw [w] at hc; exact absurd hc (by decide)) ?_
  have ag : tp_ag g (tp_set (tp_set σ2 6 2 c) 19 1 0) := fun o k x y => by rw [tp_sg_ne (by omega)]; exact kC_ag hC2 hq o k x y
  refine hist _ _ ag (hm_tok hn hp hb ag (fun υ' T _ hM hN => kf _ _ υ' T hM hN (fun υ F => ⟨?_, ?_⟩)))
  · rw [tp_sg_ne (by omega), h2]
  · obtain ⟨F1, F2, F3, F4⟩ := F
    have e0 : ∀ o k, ¬ (o = 76 ∨ o = 77 ∨ o = 78 ∨ (o = 58 ∧ 26 ≤ k ∧ k ≤ 35)) → ¬ (o = 58 ∧ (k = 18 ∨ k = 19)) → (tp_set (tp_set υ 58 18 0) 58 19 c).1 o k = (tp_set (tp_set σ2 6 2 c) 19 1 0).1 o k := fun o k x y => by
      rw [tp_sg_ne (by omega), tp_sg_ne (by omega)]; exact F1.1 o k x
    have e : ∀ o k, ¬ cfr q o k → ¬ (o = 19 ∧ k = 1) → ¬ (o = 76 ∨ o = 77 ∨ o = 78 ∨ (o = 58 ∧ 26 ≤ k ∧ k ≤ 35)) → ¬ (o = 58 ∧ (k = 18 ∨ k = 19)) → (tp_set (tp_set υ 58 18 0) 58 19 c).1 o k = g.1 o k := fun o k w x y z => by
      rw [e0 o k y z, tp_sg_ne (by omega)]; exact hC2.1 o k w
    obtain ⟨nT, nR, nS, nB, nD, -, -, -, -, -, -, hL, -, -⟩ := id H
    have htold : (g.2.1 = 24 ∧ q = 25 ∧ tp_lb g.2.1 = 36) ∨ (g.2.1 = 25 ∧ q = 24 ∧ tp_lb g.2.1 = 41) := by
      rcases hL.1 with z | z
      · rw [z] at hd ⊢; exact Or.inl ⟨rfl, hd.symm, rfl⟩
      · rw [z] at hd ⊢; exact Or.inr ⟨rfl, hd.symm, rfl⟩
    refine RR_core H hq (fun o k x => e o k (fun w => x (Or.inl w)) (fun w => x (Or.inr (Or.inl w))) (fun w => x (Or.inr (Or.inr (by omega)))) (fun w => x (Or.inr (Or.inr (by omega))))) (RLw_keep hL (F1.2.trans hC2.2) ?_ (fun o k x => e o k (by unfold cfr; omega) (by omega) (by omega) (by omega))) ?_ ?_
    · rw [e0 6 2 (by omega) (by omega), tp_sg_ne (by omega), tp_sg_eq, tp_sg_eq]
    · rw [e0 19 1 (by omega) (by omega), tp_sg_eq]
    · rw [tp_sg_ne (by omega), tp_sg_eq]
theorem lw_done {g σ0 σ2 : tp_St} {B : Nat → Int32} {n q p t f w : Nat} {i : Int32} (H : RR_all g) (hn : n ≤ 200) (hp : p ≤ n) (hb : mB g B n) (hd : g.2.2 = q) (hq : q = 24 ∨ q = 25) (hist : Hi g q p 3 t f w σ0) (hC : kC g q σ2) (hV : CV σ2 q f w) (h02 : ∀ o k, ((o = q ∧ 5 ≤ k ∧ k ≤ 7) ∨ (tp_lb q ≤ o ∧ o < tp_lb q + 5)) → σ2.1 o k = σ0.1 o k) (hk : tk_k B n (tk_s B n p) = 1) : tp_E 0 28 [.ref 6, .int 1, .int i, .null] [] (tp_set σ2 6 2 0) (tp_Res 136 [.ref 58, .null]) := by
  have hlb := lb_is hq
  have hC2 : kC g q (tp_set σ2 6 2 0) := kC_set hC (by unfold cfr; omega)
  obtain ⟨nT, nR, nS, nB, nD, -, -, -, -, -, -, hL, -, -⟩ := id H
  generalize htt : g.2.1 = told at *
  have htold : (told = 24 ∧ q = 25) ∨ (told = 25 ∧ q = 24) := by
    rcases hL.1 with z | z
    · rw [z] at hd htt; exact Or.inl ⟨htt.symm, hd.symm⟩
    · rw [z] at hd htt; exact Or.inr ⟨htt.symm, hd.symm⟩
  have g2 : g.2 = (told, q) := by rw [← htt, ← hd]
  refine c_done tp_sg_eq ?_
  generalize hσ3 : tp_set (tp_set σ2 6 2 0) 19 1 0 = σ3
  have e3 : ∀ o k, ¬ cfr q o k → ¬ (o = 19 ∧ k = 1) → σ3.1 o k = g.1 o k := fun o k x y => by rw [← hσ3, tp_sg_ne (by omega)]; exact hC2.1 o k x
  have e32 : σ3.2 = (told, q) := by rw [← hσ3, ← g2]; exact hC2.2
  have e62 : σ3.1 6 2 = 0 := by rw [← hσ3, tp_sg_ne (by omega), tp_sg_eq]
  have e19 : σ3.1 19 1 = 0 := by rw [← hσ3, tp_sg_eq]
  have ed : ∀ o k, ((o = q ∧ 5 ≤ k ∧ k ≤ 7) ∨ (tp_lb q ≤ o ∧ o < tp_lb q + 5)) → σ3.1 o k = σ2.1 o k := fun o k x => by rw [← hσ3, tp_sg_ne (by omega), tp_sg_ne (by omega)]
  obtain ⟨v1, v2, v3, v4, v5, v6, v7⟩ := CV_fr hV ed
  have key : tp_E 7 0 [.ref q] [] (σ3.1, (q, told)) (tp_Res 136 [.ref 58, .null]) := by
    have ag : tp_ag g (σ3.1, (q, told)) := fun o k x y => e3 o k (by unfold cfr; omega) (by omega)
    have model : ∀ r, ((σ3.1 q 7 = -1 → r = nI (f + w)) ∧ (¬ σ3.1 q 7 = -1 → r = nI (f + w + 1))) → tp_Res 136 [.ref 58, .null] r (σ3.1, (q, told)) := fun r hr => by
      refine hist _ _ ag (hm_tok hn hp hb ag (fun υ' T _ hM hN => ?_))
      unfold KK
      rw [if_neg (by omega), if_neg (by omega), if_neg (by omega)]
      rw [hk] at T
      refine n_end T hM v2 v4 (fun τ r' t1 t2 t3 t4 t5 t6 t7 t8 t9 => ?_)
      have s7 : σ0.1 q 7 = σ3.1 q 7 := ((ed q 7 (by omega)).trans (h02 q 7 (by omega))).symm
      have sl : ∀ j k, j < 5 → σ0.1 (tp_lb q + j) k = σ3.1 (tp_lb q + j) k := fun j k hj => ((ed _ k (by omega)).trans (h02 _ k (by omega))).symm
      have t1' : ∀ o k, ¬ (o = 74 ∨ o = 75 ∨ o = 76 ∨ o = 77 ∨ o = 78 ∨ (o = 58 ∧ 18 ≤ k ∧ k ≤ 35)) → τ.1 o k = σ3.1 o k := t1
      rw [s7] at t7
      refine ⟨?_, RR_core H hq (fun o k x => (t1' o k (fun w => x (Or.inr (Or.inr (by omega))))).trans (e3 o k (fun w => x (Or.inl w)) (fun w => x (Or.inr (Or.inl w))))) ?_ ((t1' 19 1 (by omega)).trans e19) t3⟩
      · rcases t7 with ⟨x1, -, -, x2⟩ | ⟨m, x0, x1, -, -, x2⟩
        · rw [hr.1 x1, x2]
        · rw [hr.2 ?_, x2]
          rw [x1, tp_eq, tp_t (by omega)]
          show ¬ (m : Int) = -1
          omega
      · have t2' : τ.2 = (q, told) := t2
        unfold RLw
        rw [t2']
        refine ⟨?_, ?_, f, w, v2, v4, ?_, t5, ?_, t6, fun k hk => ?_, fun k hk => ?_, ?_⟩
        · rcases htold with ⟨x, y⟩ | ⟨x, y⟩ <;> rw [x, y] <;> simp
        · rw [t1' 6 2 (by omega), e62, t4]
        · show τ.1 q 5 = nI f
          rw [t1' q 5 (by omega)]; exact v1
        · show τ.1 q 6 = nI w
          rw [t1' q 6 (by omega)]; exact v3
        · show τ.1 74 (2 * k) = τ.1 (tp_lb q) k ∧ τ.1 74 (2 * k + 1) = τ.1 (tp_lb q + 1) k ∧ tp_rg 1 9 (τ.1 (tp_lb q) k) ∧ tp_rg 1 999 (τ.1 (tp_lb q + 1) k)
          rw [t1' (tp_lb q) k (by omega), t1' (tp_lb q + 1) k (by omega), (t8 k hk).1, (t8 k hk).2]
          exact ⟨sl 0 k (by omega), sl 1 k (by omega), v6 k hk⟩
        · show τ.1 75 (3 * k) = τ.1 (tp_lb q + 2) k ∧ τ.1 75 (3 * k + 1) = τ.1 (tp_lb q + 3) k ∧ τ.1 75 (3 * k + 2) = τ.1 (tp_lb q + 4) k ∧ tp_rg 0 23 (τ.1 (tp_lb q + 2) k) ∧ tp_rg 1 24 (τ.1 (tp_lb q + 3) k) ∧ tp_rg 0 100 (τ.1 (tp_lb q + 4) k)
          rw [t1' (tp_lb q + 2) k (by omega), t1' (tp_lb q + 3) k (by omega), t1' (tp_lb q + 4) k (by omega), (t9 k hk).1, (t9 k hk).2.1, (t9 k hk).2.2]
          exact ⟨sl 2 k (by omega), sl 3 k (by omega), sl 4 k (by omega), v7 k hk⟩
        · show (τ.1 q 7 = -1 ∧ τ.1 58 24 = -4 ∧ τ.1 58 25 = nI (f + w)) ∨ ∃ m : Nat, m ≤ 120 ∧ τ.1 q 7 = nI m ∧ τ.1 58 24 = nI m ∧ τ.1 58 25 = nI (f + w + 1)
          rw [t1' q 7 (by omega)]
          rcases t7 with ⟨x1, x2, x3, -⟩ | ⟨m, x0, x1, x2, x3, -⟩
          · exact Or.inl ⟨x1, x2, x3⟩
          · exact Or.inr ⟨m, x0, x1, x2, x3⟩
    refine sg_7_0 _ hq ?_
    show (σ3.1 q 7 = -1 → tp_Res 136 [.ref 58, .null] (σ3.1 q 5 + σ3.1 q 6 + 0) (σ3.1, (q, told))) ∧ (¬ σ3.1 q 7 = -1 → tp_Res 136 [.ref 58, .null] (σ3.1 q 5 + σ3.1 q 6 + 1) (σ3.1, (q, told)))
    rw [v1, v3, nI_add, Int32.add_zero, nI_1]
    exact ⟨fun y => model _ ⟨fun _ => rfl, fun z => absurd y z⟩, fun y => model _ ⟨fun z => absurd z y, fun _ => rfl⟩⟩
  refine sg_1_0 ?_
  rw [e32]
  rcases htold with ⟨rfl, rfl⟩ | ⟨rfl, rfl⟩
  · exact ⟨Or.inl rfl, fun _ => ⟨Or.inr rfl, fun y => absurd y (by decide), fun _ => key⟩, fun y => absurd y (by decide)⟩
  · exact ⟨Or.inr rfl, fun y => absurd y (by decide), fun _ => ⟨Or.inl rfl, fun _ => key, fun y => absurd y (by decide)⟩⟩
