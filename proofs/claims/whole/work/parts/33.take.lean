/-! the class reads the laws -/
def cfr (q o k : Nat) : Prop := (o = 19 ∧ 2 ≤ k ∧ k ≤ 4) ∨ (o = 6 ∧ (k = 2 ∨ k = 5 ∨ k = 6)) ∨ o = 26 ∨ (o = q ∧ 5 ≤ k ∧ k ≤ 7) ∨ (tp_lb q ≤ o ∧ o < tp_lb q + 5)
def kC (g : tp_St) (q : Nat) (σ : tp_St) : Prop := (∀ o k, ¬ cfr q o k → σ.1 o k = g.1 o k) ∧ σ.2 = g.2
theorem kC_set {g σ : tp_St} {q o k : Nat} {v : Int32} (h : kC g q σ) (hc : cfr q o k) : kC g q (tp_set σ o k v) := ⟨fun o' k' h' => by
  rw [tp_sg_ne (fun w => h' (by rw [w.1, w.2]; exact hc))]; exact h.1 o' k' h', h.2⟩
theorem kC_F {g σ σ' : tp_St} {q : Nat} (h : kC g q σ) (f : cF σ σ') : kC g q σ' := ⟨fun o k ho => (f.1 o k (fun w => ho (by unfold cfr; omega))).trans (h.1 o k ho), f.2.trans h.2⟩
theorem lb_is {q : Nat} (hq : q = 24 ∨ q = 25) : (q = 24 ∧ tp_lb q = 36) ∨ (q = 25 ∧ tp_lb q = 41) := by rcases hq with rfl | rfl <;> simp [tp_lb]
def CV (σ : tp_St) (q f w : Nat) : Prop := σ.1 q 5 = nI f ∧ f ≤ 9 ∧ σ.1 q 6 = nI w ∧ w ≤ 4 ∧ (σ.1 q 7 = -1 ∨ ∃ m : Nat, m ≤ 120 ∧ σ.1 q 7 = nI m) ∧ (∀ k, k < f → tp_rg 1 9 (σ.1 (tp_lb q) k) ∧ tp_rg 1 999 (σ.1 (tp_lb q + 1) k)) ∧ (∀ k, k < w → tp_rg 0 23 (σ.1 (tp_lb q + 2) k) ∧ tp_rg 1 24 (σ.1 (tp_lb q + 3) k) ∧ tp_rg 0 100 (σ.1 (tp_lb q + 4) k))
theorem CV_fr {σ σ' : tp_St} {q f w : Nat} (h : CV σ q f w) (e : ∀ o k, ((o = q ∧ 5 ≤ k ∧ k ≤ 7) ∨ (tp_lb q ≤ o ∧ o < tp_lb q + 5)) → σ'.1 o k = σ.1 o k) : CV σ' q f w := by
  obtain ⟨h1, h2, h3, h4, h5, h6, h7⟩ := h
  refine ⟨by rw [e q 5 (by omega)]; exact h1, h2, by rw [e q 6 (by omega)]; exact h3, h4, by rw [e q 7 (by omega)]; exact h5, fun k hk => ?_, fun k hk => ?_⟩
  · rw [e (tp_lb q) k (by omega), e (tp_lb q + 1) k (by omega)]; exact h6 k hk
  · rw [e (tp_lb q + 2) k (by omega), e (tp_lb q + 3) k (by omega), e (tp_lb q + 4) k (by omega)]; exact h7 k hk
def rmc (σ : tp_St) (q l f w : Nat) : Prop := (l = 0 ∧ f < 9) ∨ (l = 1 ∧ w < 4) ∨ (l = 2 ∧ σ.1 q 7 = -1)
theorem sp_8 {σ : tp_St} {q l f w : Nat} (hq : q = 24 ∨ q = 25) (hl : l < 3) (h : CV σ q f w) : tp_bool 8 [.ref q, .int (nI l)] σ (rmc σ q l f w) := by
  intro post h1 h0
  obtain ⟨c1, c2, c3, c4, -⟩ := h
  refine sg_8_0 _ _ hq ?_
  rw [tp_t (show l < 1000000 by omega), c1, c3, show (9 : Int32) = nI 9 from rfl, show (4 : Int32) = nI 4 from rfl, tp_leN (by omega) (by omega), tp_leN (by omega) (by omega)]
  unfold rmc at h1 h0
  exact ⟨fun z => ⟨fun y => h0 (by omega), fun y => h1 (by omega)⟩, fun z => ⟨fun z2 => ⟨fun y => h0 (by omega), fun y => h1 (by omega)⟩, fun z2 => ⟨fun y => h1 (Or.inr (Or.inr ⟨by omega, y⟩)), fun y => h0 (fun w => by rcases w with w | w | w <;> first | omega | exact y w.2)⟩⟩⟩
theorem sp_10 {σ : tp_St} {q f w j : Nat} (hq : q = 24 ∨ q = 25) (hj : j < 2) (h : CV σ q f w) : tp_val 10 [.ref q, .int (nI j)] σ (lf σ q f j) := by
  intro post hp
  obtain ⟨c1, c2, -⟩ := h
  refine sg_10_0 _ _ hq ?_
  rw [c1, tp_rr24 hq (by omega), tp_rr24 hq (by omega), show (0 : Int32) = nI 0 from rfl, tp_ne (by omega) (by omega), tp_ne (by omega) (by omega)]
  unfold lf at hp
  refine ⟨fun z => ?_, fun z => ?_⟩
  · rw [if_pos z] at hp; exact hp
  · rw [if_neg z] at hp
    rw [show nI f - 1 = nI (f - 1) by rw [show (1 : Int32) = nI 1 from rfl, tp_subN (by omega) (by omega)], tp_c (show f - 1 < 1000000 by omega)]
    refine ⟨fun y => ⟨tp_vi (by omega) (by omega), ?_⟩, fun y => ⟨tp_vi (by omega) (by omega), ?_⟩⟩
    · rw [y] at hp; exact hp
    · rw [show j = 1 by omega] at hp; exact hp
/-- the class's draft with a law more -/
def ad_l (σ : tp_St) (q l f w : Nat) : tp_St := if l = 0 then tp_set (tp_set (tp_set σ (tp_lb q) f (σ.1 26 0)) (tp_lb q + 1) f (σ.1 26 1)) q 5 (nI (f + 1)) else if l = 1 then tp_set (tp_set (tp_set (tp_set σ (tp_lb q + 2) w (σ.1 26 0)) (tp_lb q + 3) w (σ.1 26 1)) (tp_lb q + 4) w (σ.1 26 2)) q 6 (nI (w + 1)) else tp_set σ q 7 (σ.1 26 0)
theorem sp_9 {σ : tp_St} {q l f w : Nat} {post : Int32 → tp_St → Prop} (hq : q = 24 ∨ q = 25) (hl : l < 3) (h : CV σ q f w) (hr : rmc σ q l f w) (hp : post 0 (ad_l σ q l f w)) : tp_E 9 0 [.ref q, .int (nI l), .int (σ.1 26 0), .int (σ.1 26 1), .int (σ.1 26 2)] [] σ post := by
  have h8 := sp_8 hq hl h
  obtain ⟨c1, c2, c3, c4, -⟩ := h
  have hlb := lb_is hq
  refine sg_9_0 _ _ _ _ _ hq (tp_if h8 (fun _ => ?_) (fun y => absurd hr y))
  rw [tp_t (show l < 1000000 by omega)]
  unfold ad_l at hp
  simp only [tp_rr24 hq (show 0 < 5 by omega), tp_rr24 hq (show 1 < 5 by omega), tp_rr24 hq (show 2 < 5 by omega), tp_rr24 hq (show 3 < 5 by omega), tp_rr24 hq (show 4 < 5 by omega), Nat.add_zero]
  have n1 : ∀ (τ : tp_St) (o k j : Nat) (v : Int32), (tp_lb q ≤ o ∧ o < tp_lb q + 5) → (tp_set τ o k v).1 q j = τ.1 q j := fun τ o k j v ho => tp_sg_ne (by omega)
  unfold rmc at hr
  refine ⟨fun z => ?_, fun z => ⟨fun z2 => ?_, fun z2 => ?_⟩⟩
  · have hl0 : l = 0 := by omega
    rw [if_pos hl0] at hp
    repeat rw [n1 _ _ _ _ _ (by omega)]
    rw [c1, tp_c (show f < 1000000 by omega), nI_1]
    exact ⟨tp_vi (by omega) (by omega), tp_vi (by omega) (by omega), hp⟩
  · have hl1 : l = 1 := by omega
    rw [if_neg (by omega), if_pos hl1] at hp
    repeat rw [n1 _ _ _ _ _ (by omega)]
    rw [c3, tp_c (show w < 1000000 by omega), nI_1]
    exact ⟨tp_vi (by omega) (by omega), tp_vi (by omega) (by omega), tp_vi (by omega) (by omega), hp⟩
  · rw [if_neg (by omega), if_neg (by omega)] at hp
    exact hp
theorem sp_4 {σ : tp_St} {q l t f w : Nat} {v : Int32} {post : Int32 → tp_St → Prop} (hK : RK σ) (hlt : lt_ok l t) (hd : σ.2.2 = q) (hq : q = 24 ∨ q = 25) (h : CV σ q f w) (h5 : σ.1 6 5 = nI l) (h6 : σ.1 6 6 = nI t) (hp3 : ¬ nb_in l t (σ.1 26) v → post 3 σ) (hp4 : nb_in l t (σ.1 26) v → l = 0 → ¬ lf σ q f t < v → post 4 σ) (hp0 : nb_in l t (σ.1 26) v → (l = 0 → lf σ q f t < v) → post 0 (tp_set (tp_set σ 26 t v) 6 6 (nI (t + 1)))) : tp_E 4 0 [.ref 6, .int v, .null] [] σ post := by
  obtain ⟨-, k2, k3⟩ := hK
  have hl3 : l < 3 := by rcases hlt with z | z | z <;> omega
  have ht3 : t < 3 := by rcases hlt with z | z | z <;> omega
  have i9 : 3 * l + t < 9 := by rcases hlt with z | z | z <;> omega
  have e0 : nI l = 0 ↔ l = 0 := by rw [show (0 : Int32) = nI 0 from rfl, tp_ne (by omega) (by omega)]
  have e1 : nI l = 1 ↔ l = 1 := by rw [show (1 : Int32) = nI 1 from rfl, tp_ne (by omega) (by omega)]
  have e2 : nI t = 1 ↔ t = 1 := by rw [show (1 : Int32) = nI 1 from rfl, tp_ne (by omega) (by omega)]
  refine sg_4_0 _ ?_
  rw [h5, h6, show nI l * 3 = nI (3 * l) by rw [Int32.mul_comm]; exact tp_3, nI_add, tp_c (show 3 * l + t < 1000000 by omega), k2 _ i9, k3 _ i9]
  have tail : nb_in l t (σ.1 26) v → (nI l = 0 → (σ.2.2 = 24 ∨ σ.2.2 = 25) ∧ (σ.2.2 = 24 → tp_E 10 0 [.ref 24, .int (nI t)] [] σ (fun r2 σ2 => (r2 < v → vp_in (σ2.1 6 6) 3 ∧ post 0 (tp_set (tp_set σ2 26 (σ2.1 6 6).toNatClampNeg v) 6 6 (σ2.1 6 6 + 1))) ∧ (¬ r2 < v → post 4 σ2))) ∧ (σ.2.2 = 25 → tp_E 10 0 [.ref 25, .int (nI t)] [] σ (fun r2 σ2 => (r2 < v → vp_in (σ2.1 6 6) 3 ∧ post 0 (tp_set (tp_set σ2 26 (σ2.1 6 6).toNatClampNeg v) 6 6 (σ2.1 6 6 + 1))) ∧ (¬ r2 < v → post 4 σ2)))) ∧ (¬ nI l = 0 → vp_in (nI t) 3 ∧ post 0 (tp_set (tp_set σ 26 (nI t).toNatClampNeg v) 6 6 (nI t + 1))) := fun hin => by
    rw [e0, hd]
    refine ⟨fun z => tp_t2 (P := fun q => tp_E 10 0 [.ref q, .int (nI t)] [] σ (fun r2 σ2 => (r2 < v → vp_in (σ2.1 6 6) 3 ∧ post 0 (tp_set (tp_set σ2 26 (σ2.1 6 6).toNatClampNeg v) 6 6 (σ2.1 6 6 + 1))) ∧ (¬ r2 < v → post 4 σ2))) hq (sp_10 hq (by rcases hlt with y | y | y <;> omega) h _ ⟨fun y => ?_, fun y => hp4 hin z y⟩), fun z => ?_⟩
    · rw [h6, tp_c (show t < 1000000 by omega), nI_1]
      exact ⟨tp_vi (by omega) (by omega), hp0 hin (fun _ => y)⟩
    · rw [tp_c (show t < 1000000 by omega), nI_1]
      exact ⟨tp_vi (by omega) (by omega), hp0 hin (fun y => absurd y z)⟩
  refine ⟨tp_vi i9 (by omega), tp_vi i9 (by omega), tp_if (sp_91 (l := (b_lo l t).toInt) rfl (h := (b_hi l t).toInt) rfl) (fun z => hp3 (fun y => ?_)) (fun z => ?_)⟩
  · have := y.1
    unfold tp_in at this
    omega
  · rw [h5, h6, e1, e2]
    have hin0 : tp_in (b_lo l t) (b_hi l t) v := ⟨by omega, by omega⟩
    refine ⟨fun z1 => ⟨fun z2 => ⟨fun z3 => tail ⟨hin0, fun _ _ => z3⟩, fun z3 => hp3 (fun y => z3 (y.2 z1 z2))⟩, fun z2 => tail ⟨hin0, fun _ y => absurd y z2⟩⟩, fun z1 => tail ⟨hin0, fun y => absurd y z1⟩⟩
