/-! the law's beginning: types, trips and packs -/
section GN
variable {pr sp : Nat → Nat} {u : Nat → Bool} {lim : Nat → Nat → Nat} {L : Nat} {σ : tp_St} {post : Int32 → tp_St → Prop}
/-- a new array of ints -/
def tp_new (σ : tp_St) : tp_St := (fun o k => if o = σ.2.1 then 0 else σ.1 o k, (σ.2.1 + 1, σ.2.2))
theorem tp_new_ne {o k : Nat} (h : ¬ o = σ.2.1) : (tp_new σ).1 o k = σ.1 o k := if_neg h
theorem tp_new_eq {k : Nat} : (tp_new σ).1 σ.2.1 k = 0 := if_pos rfl
theorem c_type {x y : Int32} {m a b : Nat} (h : σ.1 1 2 = nI m) (hm : m < 5) (hx : x = nI a) (hy : y = nI b) (ha : 1 ≤ a ∧ a ≤ 60) (hb : 1 ≤ b ∧ b ≤ 9) (hp : post (nI m) (tp_set (tp_set (tp_set σ 8 m x) 9 m y) 1 2 (nI (m + 1)))) : tp_E 19 0 [.ref 0, .int x, .int y] [] σ post := by
  refine sg_19_0 _ _ (sp_in (l := 1) (h := 60) hx rfl rfl ha.1 ha.2 (by omega) (sp_in (l := 1) (h := 9) hy rfl rfl hb.1 hb.2 (by omega) (sg_18_0 _ _ ?_)))
  rw [h, tp_c (show m < 1000000 by omega), nI_1]
  exact pk_lt m 5 (fun _ => ⟨tp_vi hm (by omega), tp_vi hm (by omega), hp⟩) (fun z => absurd z (by omega))
theorem c_trip {x : Int32} {y : Int32} {b : Bool} {t : Nat} (h : σ.1 3 3 = nI t) (hc : ∀ r, r < t → σ.1 12 r = nI r) (ht : t < 4) (hx : x = nI t) (hy : y = bI b) (hp : post (nI t) (tp_set (tp_set (tp_set (tp_set σ 12 t (nI t)) 13 t (bI b)) 14 t 1) 3 3 (nI (t + 1)))) : tp_E 22 0 [.ref 0, .int x, .int y] [] σ post := by
  subst hx hy
  have nr : vp_nar .boolean (bI b) = bI b := by
    cases b
    · exact tp_bz
    · exact tp_bo
  refine sg_22_0 _ _ (sp_in (l := 0) (h := 5) rfl rfl rfl (by omega) (by omega) (by omega) (sg_14_0 _ ?_))
  refine tp_up_loop (E := fun i => tp_E 14 2 [.ref 3, .int (nI t), .int (nI i)] [] σ _) (n := t) (fun i hi g => ?_) ?_ 0 (Nat.zero_le _)
  · refine sg_14_2 _ _ ?_
    rw [h, tp_c (show i < 1000000 by omega), hc i hi, nI_1]
    exact pk_le t i (fun z => absurd z (by omega)) (fun _ => ⟨tp_vi (by omega) (by omega), fun _ => g, fun _ => ⟨tp_vi (by omega) (by omega), pk_eq i t (fun z => absurd z (by omega)) (fun _ => g)⟩⟩)
  · refine sg_14_2 _ _ ?_
    rw [h]
    refine pk_le t t (fun _ => ⟨fun _ => sg_13_0 _ _ ?_, fun c => absurd rfl c⟩) (fun z => absurd z (by omega))
    rw [h, tp_c (show t < 1000000 by omega), nr, tp_bo, nI_1]
    have v := tp_vi (show t < 16 by omega) (by omega)
    exact pk_lt t 16 (fun _ => ⟨v, v, v, hp⟩) (fun z => absurd z (by omega))
/-- packs that are done, and those that are not -/
def GQ (lim : Nat → Nat → Nat) (m : Nat) (σ : tp_St) : Prop := ∀ c k, c < 6 → k < 2 → (2 * c + k < m → σ.1 (46 + c) k = nI (50 * c) ∧ σ.1 (52 + c) k = nI (lim c k) ∧ 50 * c + 3 ≤ lim c k ∧ lim c k ≤ 50 * c + 12) ∧ (m ≤ 2 * c + k → σ.1 (46 + c) k = 0 ∧ σ.1 (52 + c) k = 0)
theorem c_issue {x y z v : Int32} {t k r : Nat} (h2 : σ.1 1 2 = nI 2) (h4 : σ.1 4 4 = 0) (hQ : GQ lim (2 * t + k) σ) (ht : t < 4) (hk : k < 2) (hr : r < 10) (hx : x = nI t) (hy : y = nI k) (hz : z = nI (50 * t)) (hv : v = nI (3 + r)) (hp : post 0 (tp_set (tp_set σ (46 + t) k (nI (50 * t))) (52 + t) k (nI (50 * t + (3 + r))))) : tp_E 20 0 [.ref 0, .int x, .int y, .int z, .int v, .null] [] σ post := by
  subst hx hy hz hv
  refine sg_20_0 _ _ _ _ (sp_33 h2 rfl rfl (by omega) hk (sp_in (l := 0) (h := 100000) rfl rfl rfl (by omega) (by omega) (by omega) (sp_in (l := 0) (h := 1000) rfl rfl rfl (by omega) (by omega) (by omega) (sg_9_0 _ _ _ (sg_9_3 _ _ _ _ ?_)))))
  rw [h4]
  refine ⟨fun _ => ⟨fun _ => sg_3_0 _ _ _ _ ?_, fun c => absurd rfl c⟩, fun c => absurd (by decide) c⟩
  rw [nI_add]
  refine tp_up_loop (E := fun i => tp_E 3 3 [.ref 2, .int (nI t), .int (nI k), .int (nI (50 * t)), .int (nI (50 * t + (3 + r))), .int (nI i), .null] [] σ _) (n := 6) (fun i hi g => ?_) ?_ 0 (Nat.zero_le _)
  · refine sg_3_3 _ _ _ _ _ ?_
    rw [tp_c (show i < 1000000 by omega), tp_c (show k < 1000000 by omega), nI_1]
    have v6 := tp_vi hi (by omega)
    have v5 := tp_vi (show k < 5 by omega) (by omega)
    refine pk_le 6 i (fun z => absurd z (by omega)) (fun _ => ⟨v6, v5, pk_eq i t (fun _ => g) (fun hne => ⟨v6, v5, fun _ => g, fun hc => absurd ?_ hc⟩)⟩)
    obtain ⟨q1, q2⟩ := hQ i k hi hk
    rw [tp_le]
    by_cases hd : 2 * i + k < 2 * t + k
    · obtain ⟨w1, w2, w3, w4⟩ := q1 hd
      rw [w1, w2, if_pos (by rw [tp_ltN (by omega) (by omega)]; omega), if_neg (by rw [tp_ltN (by omega) (by omega)]; omega), tp_t (by omega), tp_t (by omega)]
      omega
    · obtain ⟨w1, w2⟩ := q2 (by omega)
      rw [w1, w2, if_pos (by rw [tp_lt, tp_t (by omega)]; show (0 : Int) < _; omega)]
      have h5 : ¬ nI (50 * t) < 0 := nI_pos (by omega)
      rw [if_neg h5, tp_t (by omega)]
      show (0 : Int) ≤ _
      omega
  · obtain ⟨q1, q2⟩ := (hQ t k (by omega) hk).2 (Nat.le_refl _)
    refine sg_3_3 _ _ _ _ _ (pk_le 6 6 (fun _ => ⟨fun _ => sp_0 rfl rfl (by omega) (by omega) _ ?_, fun c => absurd rfl c⟩) (fun z => absurd z (by omega)))
    rw [q1, q2]
    refine sg_1_0 _ _ _ _ ?_
    rw [tp_c (show t < 1000000 by omega), tp_c (show k < 1000000 by omega)]
    exact ⟨tp_vi (by omega) (by omega), tp_vi (by omega) (by omega), tp_vi (by omega) (by omega), tp_vi (by omega) (by omega), hp⟩
/-- types, as far as m of them are made -/
def GT (pr sp : Nat → Nat) (m : Nat) (σ : tp_St) : Prop := σ.1 1 2 = nI m ∧ (∀ k, k < m → σ.1 8 k = nI (pr k) ∧ σ.1 9 k = nI (sp k)) ∧ ∀ k, k < 2 → (σ.1 58 k = nI (pr k) ∧ σ.1 59 k = nI (sp k)) ∧ (1 ≤ pr k ∧ pr k ≤ 30) ∧ 1 ≤ sp k ∧ sp k ≤ 9
/-- nothing is made yet but types -/
def GZ (σ : tp_St) : Prop := σ.1 3 3 = 0 ∧ σ.1 4 4 = 0 ∧ GQ (fun _ _ => 0) 0 σ
theorem GZ_fr {σ σ' : tp_St} (h : GZ σ) (e : ∀ o k, ((o = 3 ∧ k = 3) ∨ (o = 4 ∧ k = 4) ∨ (46 ≤ o ∧ o < 58)) → σ'.1 o k = σ.1 o k) : GZ σ' := by
  obtain ⟨h1, h2, h3⟩ := h
  refine ⟨by rw [e _ _ (by omega)]; exact h1, by rw [e _ _ (by omega)]; exact h2, fun c k hc hk => ⟨fun z => absurd z (by omega), fun _ => ?_⟩⟩
  rw [e _ _ (by omega), e _ _ (by omega)]
  exact (h3 c k hc hk).2 (by omega)
theorem SC_fr {σ σ' : tp_St} (h : SC L σ) (e : σ'.1 89 0 = σ.1 89 0) : SC L σ' := ⟨e.trans h.1, h.2⟩
/-- behind the prices -/
def R1 (L : Nat) (σ : tp_St) : Prop := σ.2 = (59, 0) ∧ SC L σ ∧ GZ σ ∧ σ.1 1 2 = 0 ∧ ∃ pr : Nat → Nat, ∀ k, k < 2 → σ.1 58 k = nI (pr k) ∧ 1 ≤ pr k ∧ pr k ≤ 30
theorem r_1 (hN : σ.2 = (59, 0)) (hC : SC L σ) (hZ : GZ σ) (hT : σ.1 1 2 = 0) : H_43_11 σ (fun r σ' => r = 43 ∧ R1 L σ') := by
  have hn : σ.2.1 = 59 := by rw [hN]
  refine sg_43_11 (sp_41 (j := 0) hC.1 hC.2 rfl (by omega) (fun x => sp_40 (c := 30) rfl (by omega) (by omega) (fun a ha => ⟨by omega, ?_⟩)))
  have hC1 : SC L (tp_set σ 58 0 (1 + nI a)) := SC_fr hC (tp_sg_ne (by omega))
  refine sp_41 (j := 1) hC1.1 hC.2 rfl (by omega) (fun x => sp_40 (c := 30) rfl (by omega) (by omega) (fun b hb => ⟨?_, ?_, rfl, hN, SC_fr hC1 (tp_sg_ne (by omega)), GZ_fr hZ (fun o k hd => by rw [tp_sg_ne (by omega), tp_sg_ne (by omega)]), by rw [tp_sg_ne (by omega), tp_sg_ne (by omega)]; exact hT, fun k => if k = 0 then 1 + a else 1 + b, fun k hk => ?_⟩))
  · show 58 < σ.2.1
    omega
  · show (2 : Int32) = Int32.ofNat (tp_ln σ.2.1)
    rw [hn]
    rfl
  · rcases (show k = 0 ∨ k = 1 by omega) with rfl | rfl
    · rw [tp_sg_ne (by omega), tp_sg_eq]
      exact ⟨nI_add 1 a, by simp, by simp; omega⟩
    · rw [tp_sg_eq]
      exact ⟨nI_add 1 b, by simp, by simp; omega⟩
/-- behind the types -/
def R2 (L : Nat) (σ : tp_St) : Prop := σ.2 = (60, 0) ∧ SC L σ ∧ GZ σ ∧ ∃ pr sp : Nat → Nat, GT pr sp 2 σ
theorem r_78 : ∀ d m σ, m + d = 2 → σ.2 = (60, 0) → SC L σ → GZ σ → GT pr sp m σ → H_43_78 (nI m) σ (fun r σ' => r = 110 ∧ R2 L σ')
  | 0, m, σ, hm, hN, hC, hZ, hT => by
    obtain rfl : m = 2 := by omega
    refine sg_43_78 _ (pk_le 2 2 (fun _ => ⟨?_, rfl, hN, hC, hZ, pr, sp, hT⟩) (fun z => absurd z (by omega)))
    rw [hN]
    rfl
  | d + 1, m, σ, hm, hN, hC, hZ, hT => by
    have hn : σ.2.1 = 60 := by rw [hN]
    obtain ⟨t1, t2, t3⟩ := id hT
    obtain ⟨⟨e1, e2⟩, e3, e4⟩ := t3 m (by omega)
    refine sg_43_78 _ (pk_le 2 m (fun z => absurd z (by omega)) (fun _ => ⟨by omega, tp_vi (by omega) (by omega), by omega, tp_vi (by omega) (by omega), ?_⟩))
    rw [tp_c (show m < 1000000 by omega), e1, e2]
    refine c_type t1 (by omega) rfl rfl (by omega) e4 ⟨fun _ => ?_, fun c => absurd rfl c⟩
    rw [nI_1]
    refine r_78 d (m + 1) _ (by omega) hN (SC_fr hC (by rw [tp_sg_ne (by omega), tp_sg_ne (by omega), tp_sg_ne (by omega)])) (GZ_fr hZ (fun o k hd => by rw [tp_sg_ne (by omega), tp_sg_ne (by omega), tp_sg_ne (by omega)])) ⟨tp_sg_eq, fun k hk => ?_, fun k hk => ?_⟩
    · by_cases e : k = m
      · subst e
        rw [tp_sg_ne (by omega), tp_sg_ne (by omega), tp_sg_eq, tp_sg_ne (by omega), tp_sg_eq]
        exact ⟨rfl, rfl⟩
      · rw [tp_sg_ne (by omega), tp_sg_ne (by omega), tp_sg_ne (by omega), tp_sg_ne (by omega), tp_sg_ne (by omega), tp_sg_ne (by omega)]
        exact t2 k (by omega)
    · rw [tp_sg_ne (by omega), tp_sg_ne (by omega), tp_sg_ne (by omega), tp_sg_ne (by omega), tp_sg_ne (by omega), tp_sg_ne (by omega)]
      exact t3 k hk
theorem r_2 (h : R1 L σ) : H_43_45 (tp_new σ) (fun r σ' => r = 110 ∧ R2 L σ') := by
  obtain ⟨hN0, hC0, hZ0, hT0, pr, hpr⟩ := h
  have hn0 : σ.2.1 = 59 := by rw [hN0]
  have hN : (tp_new σ).2 = (60, 0) := by unfold tp_new; rw [hN0]
  have hn : (tp_new σ).2.1 = 60 := by rw [hN]
  have e : ∀ o k, ¬ o = 59 → (tp_new σ).1 o k = σ.1 o k := fun o k hd => tp_new_ne (by omega)
  have hC : SC L (tp_new σ) := SC_fr hC0 (e _ _ (by omega))
  refine sg_43_45 (sp_41 (j := 2) hC.1 hC.2 rfl (by omega) (fun x => sp_40 (c := 5) rfl (by omega) (by omega) (fun a ha => ⟨by omega, ?_⟩)))
  have hC1 : SC L (tp_set (tp_new σ) 59 0 (1 + nI a)) := SC_fr hC (tp_sg_ne (by omega))
  refine sp_41 (j := 3) hC1.1 hC.2 rfl (by omega) (fun x => sp_40 (c := 9) rfl (by omega) (by omega) (fun b hb => ⟨?_, ?_⟩))
  · show 59 < (tp_new σ).2.1
    omega
  · refine r_78 (pr := pr) (sp := fun k => if k = 0 then 1 + a else 1 + b) 2 0 _ rfl hN (SC_fr hC1 (tp_sg_ne (by omega))) (GZ_fr hZ0 (fun o k hd => by rw [tp_sg_ne (by omega), tp_sg_ne (by omega), e _ _ (by omega)])) ⟨by rw [tp_sg_ne (by omega), tp_sg_ne (by omega), e _ _ (by omega)]; exact hT0, fun k hk => absurd hk (Nat.not_lt_zero _), fun k hk => ?_⟩
    obtain ⟨w1, w2⟩ := hpr k hk
    refine ⟨⟨?_, ?_⟩, w2, ?_⟩
    · rw [tp_sg_ne (by omega), tp_sg_ne (by omega), e _ _ (by omega)]
      exact w1
    · rcases (show k = 0 ∨ k = 1 by omega) with rfl | rfl
      · rw [tp_sg_ne (by omega), tp_sg_eq]
        exact nI_add 1 a
      · rw [tp_sg_eq]
        exact nI_add 1 b
    · rcases (show k = 0 ∨ k = 1 by omega) with rfl | rfl
      · simp; omega
      · simp; omega
theorem GT_fr {m : Nat} {σ σ' : tp_St} (h : GT pr sp m σ) (e : ∀ o k, ((o = 1 ∧ k = 2) ∨ o = 8 ∨ o = 9 ∨ o = 58 ∨ o = 59) → σ'.1 o k = σ.1 o k) : GT pr sp m σ' := by
  obtain ⟨h1, h2, h3⟩ := h
  refine ⟨by rw [e _ _ (by omega)]; exact h1, fun k hk => ?_, fun k hk => ?_⟩
  · rw [e 8 k (by omega), e 9 k (by omega)]; exact h2 k hk
  · rw [e 58 k (by omega), e 59 k (by omega)]; exact h3 k hk
/-- up is made -/
def R3 (L : Nat) (σ : tp_St) : Prop := σ.2 = (61, 0) ∧ SC L σ ∧ GZ σ ∧ ∃ pr sp : Nat → Nat, GT pr sp 2 σ
theorem r_3 (h : R2 L σ) : H_43_112 (tp_new σ) (fun r σ' => r = 115 ∧ R3 L σ') := by
  obtain ⟨hN0, hC0, hZ0, pr, sp, hT0⟩ := h
  have hn0 : σ.2.1 = 60 := by rw [hN0]
  have hN : (tp_new σ).2 = (61, 0) := by unfold tp_new; rw [hN0]
  have e : ∀ o k, ¬ o = 60 → (tp_new σ).1 o k = σ.1 o k := fun o k hd => tp_new_ne (by omega)
  refine sg_43_112 ⟨?_, rfl, hN, SC_fr hC0 (e _ _ (by omega)), GZ_fr hZ0 (fun o k hd => e _ _ (by omega)), pr, sp, GT_fr hT0 (fun o k hd => e _ _ (by omega))⟩
  rw [hN]
  rfl
/-- owners are told -/
def R4 (L : Nat) (σ : tp_St) : Prop := σ.2 = (62, 0) ∧ SC L σ ∧ GZ σ ∧ (∃ pr sp : Nat → Nat, GT pr sp 2 σ) ∧ ∀ t, t < 4 → σ.1 61 t = nI t
theorem r_4 (h : R3 L σ) : H_43_117 (tp_new σ) (fun r σ' => r = 141 ∧ R4 L σ') := by
  obtain ⟨hN0, hC0, hZ0, pr, sp, hT0⟩ := h
  have hn0 : σ.2.1 = 61 := by rw [hN0]
  have hN : (tp_new σ).2 = (62, 0) := by unfold tp_new; rw [hN0]
  have hn : (tp_new σ).2.1 = 62 := by rw [hN]
  have e : ∀ o k, ¬ o = 61 → (tp_new σ).1 o k = σ.1 o k := fun o k hd => tp_new_ne (by omega)
  have e4 : ∀ o k, ¬ o = 61 → (tp_set (tp_set (tp_set (tp_set (tp_new σ) 61 0 0) 61 1 1) 61 2 2) 61 3 3).1 o k = σ.1 o k := fun o k hd => by
    rw [tp_sg_ne (by omega), tp_sg_ne (by omega), tp_sg_ne (by omega), tp_sg_ne (by omega), e o k hd]
  refine sg_43_117 ⟨by omega, by omega, by omega, by omega, ?_, rfl, hN, SC_fr hC0 (e4 _ _ (by omega)), GZ_fr hZ0 (fun o k hd => e4 _ _ (by omega)), ⟨pr, sp, GT_fr hT0 (fun o k hd => e4 _ _ (by omega))⟩, fun t ht => ?_⟩
  · show (8 : Int32) = Int32.ofNat (tp_ln (tp_new σ).2.1)
    rw [hn]
    rfl
  · rcases (show t = 0 ∨ t = 1 ∨ t = 2 ∨ t = 3 by omega) with rfl | rfl | rfl | rfl
    · rw [tp_sg_ne (by omega), tp_sg_ne (by omega), tp_sg_ne (by omega), tp_sg_eq]; rfl
    · rw [tp_sg_ne (by omega), tp_sg_ne (by omega), tp_sg_eq]; rfl
    · rw [tp_sg_ne (by omega), tp_sg_eq]; rfl
    · rw [tp_sg_eq]; rfl
def R5 (L : Nat) (σ : tp_St) : Prop := σ.2 = (63, 0) ∧ SC L σ ∧ GZ σ ∧ (∃ pr sp : Nat → Nat, GT pr sp 2 σ) ∧ ∀ t, t < 4 → σ.1 61 t = nI t
theorem r_5 (h : R4 L σ) : H_43_143 (tp_new σ) (fun r σ' => r = 147 ∧ R5 L σ') := by
  obtain ⟨hN0, hC0, hZ0, ⟨pr, sp, hT0⟩, hO⟩ := h
  have hn0 : σ.2.1 = 62 := by rw [hN0]
  have hN : (tp_new σ).2 = (63, 0) := by unfold tp_new; rw [hN0]
  have e : ∀ o k, ¬ o = 62 → (tp_new σ).1 o k = σ.1 o k := fun o k hd => tp_new_ne (by omega)
  refine sg_43_143 ⟨?_, rfl, hN, SC_fr hC0 (e _ _ (by omega)), GZ_fr hZ0 (fun o k hd => e _ _ (by omega)), ⟨pr, sp, GT_fr hT0 (fun o k hd => e _ _ (by omega))⟩, fun t ht => (e _ _ (by omega)).trans (hO t ht)⟩
  rw [hN]
  rfl
end GN
