/-! selling; the law's own loop of sales -/
/-- the step of the last sale on trip t, or 0 -/
def g_ls (tr st : Nat → Nat) (t : Nat) : Nat → Nat
  | 0 => 0
  | n + 1 => if tr n = t then st n else g_ls tr st t n
theorem g_ls_le {tr st : Nat → Nat} {t : Nat} : ∀ {n}, (∀ i, i < n → st i ≤ 8) → g_ls tr st t n ≤ 8
  | 0, _ => by unfold g_ls; omega
  | n + 1, h => by
    unfold g_ls
    have := h n (by omega)
    have := g_ls_le (tr := tr) (st := st) (t := t) (n := n) (fun i hi => h i (by omega))
    split <;> omega
/-- a stage by its step -/
def g_sg (u : Nat → Bool) (t s : Nat) : Nat := if u t = true then s else 9 - s
theorem GS_congr {lim : Nat → Nat → Nat} {tr ty st tr' ty' st' : Nat → Nat} {n : Nat} {σ : tp_St} (h : GS lim tr ty st n σ) (e : ∀ i, i < n → tr' i = tr i ∧ ty' i = ty i ∧ st' i = st i) : GS lim tr' ty' st' n σ := by
  obtain ⟨s1, s2, s3, s4⟩ := h
  have hx : ∀ m, m ≤ n → ∀ t k, g_nx tr' ty' m t k = g_nx tr ty m t k := fun m hm t k => by
    unfold g_nx
    rw [ct_congr (p := g_p tr' ty' t k) (q := g_p tr ty t k) (n := m) (fun i hi => by unfold g_p; rw [(e i (by omega)).1, (e i (by omega)).2.1])]
  refine ⟨s1, s2, fun i hi => ?_, fun t k ht hk => ?_⟩
  · unfold g_no
    rw [(e i hi).1, (e i hi).2.1, (e i hi).2.2, hx i (by omega)]
    exact s3 i hi
  · rw [hx n (Nat.le_refl _)]
    exact s4 t k ht hk
section GE
variable {pr sp : Nat → Nat} {u : Nat → Bool} {lim : Nat → Nat → Nat} {tr ty st : Nat → Nat} {n : Nat} {σ : tp_St} {post : Int32 → tp_St → Prop}
theorem sp_7 {x : Int32} {t : Nat} (hS : GS lim tr ty st n σ) (hx : x = nI t) (ht : t < 4) (hp : post (nI (g_ls tr st t n)) σ) : tp_E 7 0 [.ref 4, .int x, .null] [] σ post := by
  subst hx
  obtain ⟨s1, s2, s3, s4⟩ := hS
  refine sg_7_0 _ ?_
  rw [s2]
  have key : ∀ m, m ≤ n → post (nI (g_ls tr st t m)) σ → tp_E 7 7 [.ref 4, .int (nI t), .int (nI m - 1)] [] σ post := by
    intro m
    induction m with
    | zero =>
      intro _ h
      refine sg_7_7 _ _ ?_
      rw [tp_neg1]
      exact ⟨fun _ => h, fun z => absurd (by decide) z⟩
    | succ m ih =>
      intro hle h
      obtain ⟨⟨a1, a2, a3⟩, b1, b2, b3, b4⟩ := s3 m (by omega)
      refine sg_7_7 _ _ ?_
      rw [nI_pred, tp_m1, tp_c (show m < 1000000 by omega), b1, b3]
      unfold g_ls at h
      refine ⟨fun z => absurd z (nI_pos (by omega)), fun _ => ⟨tp_vi (by omega) (by omega), pk_eq (tr m) t (fun z => ⟨tp_vi (by omega) (by omega), ?_⟩) (fun z => ih (by omega) ?_)⟩⟩
      · rw [if_pos z] at h; exact h
      · rw [if_neg z] at h; exact h
  exact key n (Nat.le_refl _) hp
theorem sp_15 {x y : Int32} {t g : Nat} (h0 : G0 pr sp u σ) (hx : x = nI t) (hy : y = nI (g_sg u t g)) (ht : t < 4) (hg : g ≤ 9) (hp : post (nI g) σ) : tp_E 15 0 [.ref 3, .int x, .int y] [] σ post := by
  subst hx hy
  refine sg_15_0 _ _ ?_
  rw [tp_c (show t < 1000000 by omega), (h0.2.2.2 t ht).2]
  unfold g_sg
  refine ⟨tp_vi (by omega) (by omega), fun z => ?_, fun z => ?_⟩
  · rw [if_neg (bI_0.mp z), show (9 : Int32) = nI 9 from rfl, pk_sub (by omega), show 9 - (9 - g) = g by omega]
    exact hp
  · rw [if_pos (Classical.not_not.mp (fun w => z (bI_0.mpr w)))]
    exact hp
theorem c_sell {x y z : Int32} (h0 : G0 pr sp u σ) (ho : GO σ) (hS : GS lim tr ty st n σ) (hn : n < 14) (ht : tr n < 4) (hk : ty n < 2) (hg : st n ≤ 9) (hx : x = nI (tr n)) (hy : y = nI (ty n)) (hz : z = nI (g_sg u (tr n) (st n)))
    (h2 : (st n < g_ls tr st (tr n) n ∨ st n = 9) → post (-2) σ) (h4 : ¬ (st n < g_ls tr st (tr n) n ∨ st n = 9) → g_nx tr ty n (tr n) (ty n) = lim (tr n) (ty n) → post (-4) σ)
    (h1 : ¬ (st n < g_ls tr st (tr n) n ∨ st n = 9) → ¬ g_nx tr ty n (tr n) (ty n) = lim (tr n) (ty n) → ∀ σ', GS lim tr ty st (n + 1) σ' → (∀ o k, ¬ ((o = 4 ∧ k = 4) ∨ (15 ≤ o ∧ o ≤ 18) ∨ (46 ≤ o ∧ o < 52)) → σ'.1 o k = σ.1 o k) → σ'.2 = σ.2 → post (nI (g_no tr ty n)) σ') : tp_E 24 0 [.ref 0, .int x, .int y, .int z, .null, .null, .null] [] σ post := by
  subst hx hy hz
  obtain ⟨s1, s2, s3, s4⟩ := id hS
  obtain ⟨e1, e2, e3, e4⟩ := s4 (tr n) (ty n) ht hk
  have hsg : g_sg u (tr n) (st n) ≤ 9 := by unfold g_sg; split <;> omega
  have hls := g_ls_le (tr := tr) (st := st) (t := tr n) (n := n) (fun i hi => (s3 i hi).1.2.2)
  have hf : ∀ τ : tp_St, τ.1 4 4 = nI n → ∀ {A B : tp_St → Prop}, A τ → tp_E 5 0 [.ref 4] [] τ (fun r σ1 => (r = 0 → A σ1) ∧ (¬ r = 0 → B σ1)) := fun τ h A B k => by
    refine sg_5_0 ?_
    rw [h]
    exact pk_lt n 200 (fun _ => ⟨fun _ => k, fun z => absurd rfl z⟩) (fun z => absurd z (by omega))
  refine sg_24_0 _ _ _ (sp_12 h0.2.2.1 rfl ht (sp_17 h0.1 rfl hk (sp_in (l := 0) (h := 9) rfl rfl rfl (by omega) hsg (by omega) (sp_15 h0 rfl rfl ht hg ?_))))
  rw [tp_c (show tr n < 1000000 by omega), ho _ ht]
  refine ⟨tp_vi (by omega) (by omega), fun c => absurd c (by decide), fun _ => sp_7 hS rfl ht (pk_lt (st n) (g_ls tr st (tr n) n) (fun z => h2 (Or.inl z)) (fun z => pk_eq (st n) 9 (fun z2 => h2 (Or.inr z2)) (fun z2 => hf σ s2 ⟨tp_vi (by omega) (by omega), ?_⟩)))⟩
  have hno : ¬ (st n < g_ls tr st (tr n) n ∨ st n = 9) := by omega
  rw [(h0.2.2.2 _ ht).1]
  refine sp_0 rfl rfl (by omega) (by omega) _ ⟨fun c => ?_, fun c => ?_⟩
  · have := tp_sub0 c
    rw [e1, e2, tp_ne (by omega) (by omega)] at this
    exact h4 hno this.symm
  have hne : ¬ g_nx tr ty n (tr n) (ty n) = lim (tr n) (ty n) := fun w => c (by rw [e1, e2, w, Int32.sub_self])
  refine sg_2_0 _ _ ?_
  rw [tp_c (show tr n < 1000000 by omega), tp_c (show ty n < 1000000 by omega), e1, nI_1]
  have v5 := tp_vi (show ty n < 5 by omega) (by omega)
  refine ⟨tp_vi (by omega) (by omega), v5, v5, ?_⟩
  refine sg_6_0 _ _ _ _ (hf _ (by rw [tp_sg_ne (by omega)]; exact s2) ?_)
  rw [tp_sg_ne (by omega), s2, tp_c (show n < 1000000 by omega), nI_1]
  have hv := tp_vi (show n < 200 by omega) (by omega)
  refine ⟨hv, hv, hv, hv, ?_⟩
  refine h1 hno hne _ ⟨by omega, tp_sg_eq, fun i hi => ?_, fun t k ht2 hk2 => ?_⟩ (fun o k hd => ?_) rfl
  · by_cases e : i = n
    · subst e
      refine ⟨⟨ht, hk, by omega⟩, ?_, ?_, ?_, ?_⟩
      · rw [tp_sg_ne (by omega), tp_sg_ne (by omega), tp_sg_ne (by omega), tp_sg_ne (by omega), tp_sg_eq]
      · rw [tp_sg_ne (by omega), tp_sg_ne (by omega), tp_sg_ne (by omega), tp_sg_eq]
      · rw [tp_sg_ne (by omega), tp_sg_ne (by omega), tp_sg_eq]
      · rw [tp_sg_ne (by omega), tp_sg_eq]
        rfl
    · rw [tp_sg_ne (by omega), tp_sg_ne (by omega), tp_sg_ne (by omega), tp_sg_ne (by omega), tp_sg_ne (by omega), tp_sg_ne (by omega), tp_sg_ne (by omega), tp_sg_ne (by omega), tp_sg_ne (by omega), tp_sg_ne (by omega), tp_sg_ne (by omega), tp_sg_ne (by omega), tp_sg_ne (by omega), tp_sg_ne (by omega), tp_sg_ne (by omega), tp_sg_ne (by omega), tp_sg_ne (by omega), tp_sg_ne (by omega), tp_sg_ne (by omega), tp_sg_ne (by omega), tp_sg_ne (by omega), tp_sg_ne (by omega), tp_sg_ne (by omega), tp_sg_ne (by omega)]
      exact s3 i (by omega)
  · obtain ⟨f1, f2, f3, f4⟩ := s4 t k ht2 hk2
    have hs := g_nx_succ (tr := tr) (ty := ty) (n := n) (t := t) (k := k)
    have e5 : ∀ o, 46 ≤ o → (tp_set (tp_set (tp_set (tp_set (tp_set (tp_set σ (46 + tr n) (ty n) (nI (g_nx tr ty n (tr n) (ty n) + 1))) 15 n (nI (tr n))) 16 n (nI (ty n))) 17 n (nI (st n))) 18 n (nI (g_nx tr ty n (tr n) (ty n)))) 4 4 (nI (n + 1))).1 o k = (tp_set σ (46 + tr n) (ty n) (nI (g_nx tr ty n (tr n) (ty n) + 1))).1 o k := fun o h => by
      rw [tp_sg_ne (by omega), tp_sg_ne (by omega), tp_sg_ne (by omega), tp_sg_ne (by omega), tp_sg_ne (by omega)]
    rw [e5 _ (by omega), e5 _ (by omega), tp_sg_ne (o' := 52 + t) (by omega)]
    by_cases e : t = tr n ∧ k = ty n
    · obtain ⟨rfl, rfl⟩ := e
      rw [if_pos ⟨rfl, rfl⟩] at hs
      rw [tp_sg_eq, hs]
      exact ⟨rfl, f2, by omega, f4⟩
    · rw [if_neg (fun z => e ⟨z.1.symm, z.2.symm⟩)] at hs
      rw [tp_sg_ne (by omega), hs]
      exact ⟨f1, f2, f3, f4⟩
  · rw [tp_sg_ne (by omega), tp_sg_ne (by omega), tp_sg_ne (by omega), tp_sg_ne (by omega), tp_sg_ne (by omega), tp_sg_ne (by omega)]
end GE
