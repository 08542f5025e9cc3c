/-! THE GHOST: what is sold, as naturals -/
def ct (p : Nat → Bool) : Nat → Nat
  | 0 => 0
  | n + 1 => if p n = true then ct p n + 1 else ct p n
theorem ct_le {p : Nat → Bool} : ∀ n, ct p n ≤ n
  | 0 => Nat.le_refl _
  | n + 1 => by
    unfold ct
    have := ct_le (p := p) n
    split <;> omega
def sm (f : Nat → Nat) : Nat → Nat
  | 0 => 0
  | n + 1 => sm f n + f n
theorem sm_add {f g : Nat → Nat} : ∀ n, sm (fun r => f r + g r) n = sm f n + sm g n
  | 0 => rfl
  | n + 1 => by
    unfold sm
    rw [sm_add n]
    omega
theorem sm_congr {f g : Nat → Nat} : ∀ {n}, (∀ r, r < n → f r = g r) → sm f n = sm g n
  | 0, _ => rfl
  | n + 1, h => by
    unfold sm
    rw [sm_congr (n := n) (fun r hr => h r (by omega)), h n (by omega)]
theorem sm_one {q : Bool} {t : Nat} : ∀ m, sm (fun r => if r = t ∧ q = true then 1 else 0) m = if t < m ∧ q = true then 1 else 0
  | 0 => by unfold sm; rw [if_neg (by omega)]
  | m + 1 => by
    unfold sm
    rw [sm_one m]
    cases q with
    | false => simp
    | true =>
      by_cases h : t < m
      · rw [if_pos ⟨h, rfl⟩, if_neg (by omega), if_pos ⟨by omega, rfl⟩]
      · by_cases h2 : m = t
        · rw [if_neg (fun z => h z.1), if_pos ⟨h2, rfl⟩, if_pos ⟨by omega, rfl⟩]
        · rw [if_neg (fun z => h z.1), if_neg (fun z => h2 z.1), if_neg (fun z => by omega)]
theorem sm_ct {q : Nat → Bool} {tr : Nat → Nat} {p : Nat → Bool} {m : Nat} : ∀ {n}, (∀ k, k < n → tr k < m) → sm (fun r => if q r = true then ct (fun k => decide (tr k = r) && p k) n else 0) m = ct (fun k => q (tr k) && p k) n
  | 0, _ => by
    unfold ct
    have : ∀ m, sm (fun r => if q r = true then (0 : Nat) else 0) m = 0 := by
      intro m
      induction m with
      | zero => rfl
      | succ m ih => unfold sm; rw [ih]; split <;> rfl
    exact this m
  | n + 1, h => by
    have ih := sm_ct (q := q) (tr := tr) (p := p) (m := m) (n := n) (fun k hk => h k (by omega))
    have e : sm (fun r => if q r = true then ct (fun k => decide (tr k = r) && p k) (n + 1) else 0) m = sm (fun r => (if q r = true then ct (fun k => decide (tr k = r) && p k) n else 0) + (if r = tr n ∧ (q (tr n) && p n) = true then 1 else 0)) m := by
      refine sm_congr (fun r _ => ?_)
      conv => lhs; unfold ct
      by_cases hq : q r = true
      · rw [if_pos hq, if_pos hq]
        by_cases hr : r = tr n
        · subst hr
          rw [hq]
          cases p n <;> simp
        · simp [hr, show ¬ tr n = r from fun z => hr z.symm]
      · rw [if_neg hq, if_neg hq]
        by_cases hr : r = tr n
        · subst hr
          simp [hq]
        · rw [if_neg (fun z => hr z.1)]
    rw [e, sm_add, ih, sm_one]
    conv => rhs; unfold ct
    have := h n (by omega)
    by_cases hq : (q (tr n) && p n) = true
    · rw [if_pos ⟨this, hq⟩, if_pos hq]
    · rw [if_neg (fun z => hq z.2), if_neg hq]; rfl
theorem ct_succ {p : Nat → Bool} {n : Nat} : ct p (n + 1) = if p n = true then ct p n + 1 else ct p n := rfl
theorem ct_congr {p q : Nat → Bool} : ∀ {n}, (∀ i, i < n → p i = q i) → ct p n = ct q n
  | 0, _ => rfl
  | n + 1, h => by rw [ct_succ, ct_succ, ct_congr (n := n) (fun i hi => h i (by omega)), h n (by omega)]
theorem ct_mono {p : Nat → Bool} {m : Nat} : ∀ d, ct p m ≤ ct p (m + d)
  | 0 => Nat.le_refl _
  | d + 1 => by
    have := ct_mono (p := p) (m := m) d
    rw [show m + (d + 1) = (m + d) + 1 by omega, ct_succ]
    split <;> omega
theorem ct_gt {p : Nat → Bool} {i n : Nat} (h : i < n) (hp : p i = true) : ct p i < ct p n := by
  have h1 := ct_mono (p := p) (m := i + 1) (n - (i + 1))
  rw [show i + 1 + (n - (i + 1)) = n by omega, ct_succ, if_pos hp] at h1
  omega
/-- so many of pack t, k among the first n -/
def g_p (tr ty : Nat → Nat) (t k : Nat) (j : Nat) : Bool := decide (tr j = t) && decide (ty j = k)
/-- the next number of the pack behind n sales -/
def g_nx (tr ty : Nat → Nat) (n t k : Nat) : Nat := 50 * t + ct (g_p tr ty t k) n
/-- the number of sale i -/
def g_no (tr ty : Nat → Nat) (i : Nat) : Nat := g_nx tr ty i (tr i) (ty i)
theorem g_no_ne {tr ty : Nat → Nat} {i j : Nat} (hij : i < j) (hj : j < 50) (hk : ty i = ty j) : ¬ g_no tr ty i = g_no tr ty j := by
  intro h
  unfold g_no g_nx at h
  have h1 := ct_le (p := g_p tr ty (tr i) (ty i)) i
  have h2 := ct_le (p := g_p tr ty (tr j) (ty j)) j
  have ht : tr i = tr j := by omega
  have h3 := ct_gt (p := g_p tr ty (tr j) (ty j)) hij (by unfold g_p; rw [ht, hk]; simp)
  rw [ht, hk] at h
  omega
theorem g_nx_succ {tr ty : Nat → Nat} {n t k : Nat} : g_nx tr ty (n + 1) t k = if tr n = t ∧ ty n = k then g_nx tr ty n t k + 1 else g_nx tr ty n t k := by
  unfold g_nx
  rw [ct_succ]
  unfold g_p
  by_cases h : tr n = t ∧ ty n = k
  · rw [if_pos h, if_pos (by simp [h.1, h.2])]
    omega
  · rw [if_neg h, if_neg (by simpa using h)]
def bI (b : Bool) : Int32 := if b = true then 1 else 0
theorem bI_0 {b : Bool} : bI b = 0 ↔ ¬ b = true := by cases b <;> decide
theorem bI_1 {b : Bool} : bI b = 1 ↔ b = true := by cases b <;> decide
theorem bI_eq {a b : Bool} : bI a = bI b ↔ a = b := by cases a <;> cases b <;> decide
/-- types and trips -/
def G0 (pr sp : Nat → Nat) (u : Nat → Bool) (σ : tp_St) : Prop := σ.1 1 2 = nI 2 ∧ (∀ k, k < 2 → σ.1 8 k = nI (pr k) ∧ σ.1 9 k = nI (sp k) ∧ (1 ≤ pr k ∧ pr k ≤ 30) ∧ 1 ≤ sp k ∧ sp k ≤ 9) ∧ σ.1 3 3 = nI 4 ∧ ∀ t, t < 4 → σ.1 12 t = nI t ∧ σ.1 13 t = bI (u t)
def GO (σ : tp_St) : Prop := ∀ t, t < 4 → σ.1 14 t = 1
/-- sales and packs -/
def GS (lim : Nat → Nat → Nat) (tr ty st : Nat → Nat) (n : Nat) (σ : tp_St) : Prop := n ≤ 14 ∧ σ.1 4 4 = nI n ∧ (∀ i, i < n → (tr i < 4 ∧ ty i < 2 ∧ st i ≤ 8) ∧ σ.1 15 i = nI (tr i) ∧ σ.1 16 i = nI (ty i) ∧ σ.1 17 i = nI (st i) ∧ σ.1 18 i = nI (g_no tr ty i)) ∧ ∀ t k, t < 4 → k < 2 → σ.1 (46 + t) k = nI (g_nx tr ty n t k) ∧ σ.1 (52 + t) k = nI (lim t k) ∧ g_nx tr ty n t k ≤ lim t k ∧ lim t k ≤ 50 * t + 12
theorem G0_fr {pr sp : Nat → Nat} {u : Nat → Bool} {σ σ' : tp_St} (h : G0 pr sp u σ) (e : ∀ o k, ((o = 1 ∧ k = 2) ∨ o = 8 ∨ o = 9 ∨ (o = 3 ∧ k = 3) ∨ o = 12 ∨ o = 13) → σ'.1 o k = σ.1 o k) : G0 pr sp u σ' := by
  obtain ⟨h1, h2, h3, h4⟩ := h
  refine ⟨by rw [e _ _ (by omega)]; exact h1, fun k hk => ?_, by rw [e _ _ (by omega)]; exact h3, fun t ht => ?_⟩
  · rw [e 8 k (by omega), e 9 k (by omega)]; exact h2 k hk
  · rw [e 12 t (by omega), e 13 t (by omega)]; exact h4 t ht
theorem GS_fr {lim : Nat → Nat → Nat} {tr ty st : Nat → Nat} {n : Nat} {σ σ' : tp_St} (h : GS lim tr ty st n σ) (e : ∀ o k, ((o = 4 ∧ k = 4) ∨ (15 ≤ o ∧ o ≤ 18) ∨ (46 ≤ o ∧ o < 58)) → σ'.1 o k = σ.1 o k) : GS lim tr ty st n σ' := by
  obtain ⟨h1, h2, h3, h4⟩ := h
  refine ⟨h1, by rw [e _ _ (by omega)]; exact h2, fun i hi => ?_, fun t k ht hk => ?_⟩
  · rw [e 15 i (by omega), e 16 i (by omega), e 17 i (by omega), e 18 i (by omega)]; exact h3 i hi
  · rw [e (46 + t) k (by omega), e (52 + t) k (by omega)]; exact h4 t k ht hk
/-! money -/
def g_tk (pr tr ty : Nat → Nat) (t : Nat) : Nat → Nat
  | 0 => 0
  | n + 1 => if tr n = t then g_tk pr tr ty t n + pr (ty n) else g_tk pr tr ty t n
def g_w (pr ty : Nat → Nat) : Nat → Nat
  | 0 => 0
  | n + 1 => g_w pr ty n + pr (ty n)
theorem g_tk_w {pr tr ty : Nat → Nat} : ∀ n, (∀ i, i < n → tr i < 4) → g_tk pr tr ty 0 n + g_tk pr tr ty 1 n + g_tk pr tr ty 2 n + g_tk pr tr ty 3 n = g_w pr ty n
  | 0, _ => rfl
  | n + 1, h => by
    have ih := g_tk_w (pr := pr) (tr := tr) (ty := ty) n (fun i hi => h i (by omega))
    have := h n (by omega)
    unfold g_tk g_w
    rcases (show tr n = 0 ∨ tr n = 1 ∨ tr n = 2 ∨ tr n = 3 by omega) with e | e | e | e <;> simp only [e] <;> simp <;> omega
section GC
variable {pr sp : Nat → Nat} {u : Nat → Bool} {lim : Nat → Nat → Nat} {tr ty st : Nat → Nat} {n : Nat} {σ : tp_St} {post : Int32 → tp_St → Prop}
theorem sp_34 {x : Int32} {t : Nat} (h0 : G0 pr sp u σ) (hS : GS lim tr ty st n σ) (hx : x = nI t) (ht : t < 4) (hp : post (nI (g_tk pr tr ty t n)) σ) : tp_E 34 0 [.ref 0, .int x, .null, .null] [] σ post := by
  subst hx
  obtain ⟨s1, s2, s3, s4⟩ := hS
  refine sg_34_0 _ ?_
  refine tp_up_loop (E := fun i => tp_E 34 4 [.ref 0, .int (nI t), .int (nI (g_tk pr tr ty t i)), .int (nI i)] [] σ post) (n := n) (fun i hi h => ?_) ?_ 0 (Nat.zero_le _)
  · obtain ⟨⟨a1, a2, a3⟩, b1, b2, b3, b4⟩ := s3 i hi
    refine sg_34_4 _ _ _ ?_
    rw [tp_c (show i < 1000000 by omega), s2, b1, b2, tp_c (show ty i < 1000000 by omega), (h0.2.1 _ a2).1, nI_1, nI_add]
    unfold g_tk at h
    refine ⟨fun c => absurd c (tp_nle hi (by omega)), fun _ => ⟨tp_vi (by omega) (by omega), fun c => ⟨tp_vi (by omega) (by omega), tp_vi (by omega) (by omega), ?_⟩, fun c => ?_⟩⟩
    · rw [if_pos ((tp_ne (by omega) (by omega)).mp c)] at h
      exact h
    · rw [if_neg (fun z => c (congrArg nI z))] at h
      exact h
  · refine sg_34_4 _ _ _ ?_
    rw [s2]
    exact ⟨fun _ => hp, fun c => absurd (tp_le.mpr (Int.le_refl _)) c⟩
theorem c_money {x : Int32} {t : Nat} (h0 : G0 pr sp u σ) (hS : GS lim tr ty st n σ) (hx : x = nI t) (ht : t < 4) (hp : post (nI (g_tk pr tr ty t n)) σ) : tp_E 26 0 [.ref 0, .int x] [] σ post :=
  sg_26_0 _ (sp_12 h0.2.2.1 hx ht (sp_34 h0 hS hx ht hp))
theorem c_close {x : Int32} {t : Nat} (h0 : G0 pr sp u σ) (hS : GS lim tr ty st 0 σ) (ho : σ.1 14 t = 1) (hx : x = nI t) (ht : t < 4) (hp : post 0 (tp_set σ 14 t 0)) : tp_E 23 0 [.ref 0, .int x] [] σ post := by
  subst hx
  refine sg_23_0 _ (sp_12 h0.2.2.1 rfl ht ?_)
  rw [tp_c (show t < 1000000 by omega), ho, tp_bz]
  refine ⟨tp_vi (by omega) (by omega), fun c => absurd c (by decide), fun _ => ⟨tp_vi (by omega) (by omega), ?_⟩⟩
  exact sp_34 (G0_fr h0 (fun o k hd => tp_sg_ne (by omega))) (GS_fr hS (fun o k hd => tp_sg_ne (by omega))) rfl ht hp
theorem c_gap {x : Int32} {k : Nat} (h0 : G0 pr sp u σ) (hS : GS lim tr ty st 0 σ) (hx : x = nI k) (hk : k < 2) (hp : post (-4) σ) : tp_E 31 0 [.ref 0, .int x, .null, .null, .null, .null] [] σ post := by
  refine sg_31_0 _ (sp_17 h0.1 hx hk (sg_11_0 _ (sg_11_4 _ _ _ ?_)))
  rw [hS.2.1]
  refine ⟨fun _ => ?_, fun c => absurd (by decide) c⟩
  exact sg_31_27 _ _ _ _ ⟨fun c => hp, fun _ => ⟨fun _ => hp, fun c => absurd (by decide) c⟩⟩
theorem c_pack {x y : Int32} {t k : Nat} (h0 : G0 pr sp u σ) (hS : GS lim tr ty st n σ) (hx : x = nI t) (hy : y = nI k) (ht : t < 4) (hk : k < 2) (hl : g_nx tr ty n t k < lim t k) (hp : post (nI (g_nx tr ty n t k)) σ) : tp_E 21 0 [.ref 0, .int x, .int y, .int 0, .null] [] σ post := by
  subst hx hy
  obtain ⟨e1, e2, e3, e4⟩ := hS.2.2.2 t k ht hk
  refine sg_21_0 _ _ _ (sp_33 h0.1 rfl rfl (by omega) hk (sp_in (n := 0) (l := 0) (h := 1) rfl rfl rfl (by omega) (by omega) (by omega) (sp_0 rfl rfl (by omega) (by omega) _ ⟨fun z => absurd z (by decide), fun _ => ⟨fun z => ?_, fun _ => ?_⟩⟩)))
  · have := tp_sub0 z
    rw [e1, e2, tp_ne (by omega) (by omega)] at this
    omega
  · rw [tp_c (show t < 1000000 by omega), tp_c (show k < 1000000 by omega), e1]
    exact ⟨tp_vi (by omega) (by omega), tp_vi (by omega) (by omega), hp⟩
theorem c_undo0 (hS : GS lim tr ty st 0 σ) (hp : post (-4) σ) : tp_E 25 0 [.ref 0, .null, .null, .null] [] σ post := by
  refine sg_25_0 ?_
  rw [hS.2.1]
  exact ⟨fun _ => hp, fun c => absurd rfl c⟩
end GC
