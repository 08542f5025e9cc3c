/-! who is aboard, riders, a ticket shown, heads, undone -/
/-- the step of a section -/
def g_q (u : Nat → Bool) (t k : Nat) : Nat := if u t = true then k else 8 - k
def g_in (sp : Nat → Nat) (ty st : Nat → Nat) (q i : Nat) : Bool := decide (st i ≤ q) && decide (q < st i + sp (ty i))
def g_ab (sp : Nat → Nat) (ty st : Nat → Nat) (w q i : Nat) : Bool := if w = 0 then decide (st i = q) else g_in sp ty st q i
/-- how many of trip t -/
def g_c (sp : Nat → Nat) (u : Nat → Bool) (tr ty st : Nat → Nat) (t k w n : Nat) : Nat := ct (fun i => decide (tr i = t) && g_ab sp ty st w (g_q u t k) i) n
def g_r (sp : Nat → Nat) (u : Nat → Bool) (tr ty st : Nat → Nat) (b : Bool) (k w n : Nat) : Nat := ct (fun i => (u (tr i) == b) && g_ab sp ty st w (g_q u (tr i) k) i) n
theorem g_q_le {u : Nat → Bool} {t k : Nat} (h : k ≤ 8) : g_q u t k ≤ 8 := by unfold g_q; split <;> omega
section GD
variable {pr sp : Nat → Nat} {u : Nat → Bool} {lim : Nat → Nat → Nat} {tr ty st : Nat → Nat} {n : Nat} {σ : tp_St} {post : Int32 → tp_St → Prop}
theorem sp_16 {x y : Int32} {t k : Nat} (h0 : G0 pr sp u σ) (hx : x = nI t) (hy : y = nI k) (ht : t < 4) (hk : k ≤ 8) (hp : post (nI (g_q u t k)) σ) : tp_E 16 0 [.ref 3, .int x, .int y] [] σ post := by
  subst hx hy
  refine sg_16_0 _ _ ?_
  rw [tp_c (show t < 1000000 by omega), (h0.2.2.2 t ht).2]
  unfold g_q at hp
  refine ⟨tp_vi (by omega) (by omega), fun z => ?_, fun z => ?_⟩
  · rw [if_neg (bI_0.mp z)] at hp
    rw [show (8 : Int32) = nI 8 from rfl, pk_sub hk]
    exact hp
  · rw [if_pos (Classical.not_not.mp (fun w => z (bI_0.mpr w)))] at hp
    exact hp
theorem sp_37 {x y : Int32} {i q : Nat} {A B : tp_St → Prop} (h0 : G0 pr sp u σ) (hS : GS lim tr ty st n σ) (hx : x = nI i) (hy : y = nI q) (hi : i < n) (hq : q ≤ 8) (h1 : g_in sp ty st q i = true → post 1 σ) (h2 : ¬ g_in sp ty st q i = true → post 0 σ) : tp_E 37 0 [.ref 0, .int x, .int y, .null] [] σ post := by
  subst hx hy
  obtain ⟨s1, s2, s3, s4⟩ := hS
  obtain ⟨⟨a1, a2, a3⟩, b1, b2, b3, b4⟩ := s3 i hi
  obtain ⟨e1, e2, e3, e4, e5⟩ := h0.2.1 _ a2
  unfold g_in at h1 h2
  simp only [Bool.and_eq_true, decide_eq_true_eq] at h1 h2
  refine sg_37_0 _ _ ?_
  rw [tp_c (show i < 1000000 by omega), b2, b3, tp_c (show ty i < 1000000 by omega), e2, nI_add]
  refine ⟨tp_vi (by omega) (by omega), pk_lt q (st i) (fun z => h2 (by omega)) (fun z => ⟨tp_vi (by omega) (by omega), tp_vi (by omega) (by omega), pk_le (st i + sp (ty i)) q (fun z2 => h2 (by omega)) (fun z2 => h1 (by omega))⟩)⟩
theorem sp_36 {x y z : Int32} {i k w : Nat} (h0 : G0 pr sp u σ) (hS : GS lim tr ty st n σ) (hx : x = nI i) (hy : y = nI k) (hz : z = nI w) (hi : i < n) (hk : k ≤ 8) (hw : w < 2) (h1 : g_ab sp ty st w (g_q u (tr i) k) i = true → post 1 σ) (h2 : ¬ g_ab sp ty st w (g_q u (tr i) k) i = true → post 0 σ) : tp_E 36 0 [.ref 0, .int x, .int y, .int z, .null] [] σ post := by
  subst hx hy hz
  obtain ⟨s1, s2, s3, s4⟩ := id hS
  obtain ⟨⟨a1, a2, a3⟩, b1, b2, b3, b4⟩ := s3 i hi
  have hq := g_q_le (u := u) (t := tr i) hk
  refine sg_36_0 _ _ _ ?_
  rw [tp_c (show i < 1000000 by omega), b1]
  refine ⟨tp_vi (by omega) (by omega), sp_16 h0 rfl rfl a1 hk ?_⟩
  unfold g_ab at h1 h2
  rw [b3]
  refine ⟨fun z => ?_, fun z => ?_⟩
  · have z : w = 0 := (tp_ne (a := w) (b := 0) (by omega) (by omega)).mp z
    rw [if_pos z] at h1 h2
    simp only [decide_eq_true_eq] at h1 h2
    exact ⟨tp_vi (by omega) (by omega), pk_eq _ _ h1 h2⟩
  · have z : ¬ w = 0 := fun y => z (congrArg nI y)
    rw [if_neg z] at h1 h2
    exact sp_37 (A := fun _ => True) (B := fun _ => True) h0 hS rfl rfl hi hq (fun z2 => ⟨tp_nb1, h1 z2⟩) (fun z2 => ⟨tp_nb0, h2 z2⟩)
theorem sp_35 {x y z : Int32} {t k w : Nat} (h0 : G0 pr sp u σ) (hS : GS lim tr ty st n σ) (hx : x = nI t) (hy : y = nI k) (hz : z = nI w) (ht : t < 4) (hk : k ≤ 8) (hw : w < 2) (hp : post (nI (g_c sp u tr ty st t k w n)) σ) : tp_E 35 0 [.ref 0, .int x, .int y, .int z, .null, .null] [] σ post := by
  subst hx hy hz
  obtain ⟨s1, s2, s3, s4⟩ := id hS
  refine sg_35_0 _ _ _ ?_
  refine tp_up_loop (E := fun i => tp_E 35 6 [.ref 0, .int (nI t), .int (nI k), .int (nI w), .int (nI (g_c sp u tr ty st t k w i)), .int (nI i)] [] σ post) (n := n) (fun i hi g => ?_) ?_ 0 (Nat.zero_le _)
  · obtain ⟨⟨a1, a2, a3⟩, b1, b2, b3, b4⟩ := s3 i hi
    refine sg_35_6 _ _ _ _ _ ?_
    rw [tp_c (show i < 1000000 by omega), s2, b1]
    simp only [nI_1]
    unfold g_c at g ⊢
    rw [ct_succ] at g
    refine ⟨fun z => absurd z (tp_nle hi (by omega)), fun _ => ⟨tp_vi (by omega) (by omega), pk_eq _ _ (fun z => ?_) (fun z => ?_)⟩⟩
    · refine sp_36 h0 hS rfl rfl rfl hi hk hw (fun z2 => ⟨fun c => absurd c (by decide), fun _ => ?_⟩) (fun z2 => ⟨fun _ => ?_, fun c => absurd rfl c⟩)
      · rw [z] at z2
        rw [if_pos (by simp [z, z2])] at g; exact g
      · rw [z] at z2
        rw [if_neg (by simp [z, z2])] at g; exact g
    · rw [if_neg (by simp [z])] at g; exact g
  · refine sg_35_6 _ _ _ _ _ ?_
    rw [s2]
    exact ⟨fun _ => hp, fun z => absurd (tp_le.mpr (Int.le_refl _)) z⟩
theorem c_aboard {x y z : Int32} {t k w : Nat} (h0 : G0 pr sp u σ) (hS : GS lim tr ty st n σ) (hx : x = nI t) (hy : y = nI k) (hz : z = nI w) (ht : t < 4) (hk : k ≤ 8) (hw : w < 2) (hp : post (nI (g_c sp u tr ty st t k w n)) σ) : tp_E 27 0 [.ref 0, .int x, .int y, .int z] [] σ post :=
  sg_27_0 _ _ _ (sp_12 h0.2.2.1 hx ht (sp_in (l := 0) (h := 8) hy rfl rfl (by omega) hk (by omega) (sp_in (l := 0) (h := 1) hz rfl rfl (by omega) (by omega) (by omega) (sp_35 h0 hS hx hy hz ht hk hw hp))))
theorem c_riders {x y z : Int32} {b : Bool} {k w : Nat} (h0 : G0 pr sp u σ) (hS : GS lim tr ty st n σ) (hx : x = bI b) (hy : y = nI k) (hz : z = nI w) (hk : k ≤ 8) (hw : w < 2) (hp : post (nI (g_r sp u tr ty st b k w n)) σ) : tp_E 28 0 [.ref 0, .int x, .int y, .int z, .null, .null] [] σ post := by
  subst hx hy hz
  obtain ⟨s1, s2, s3, s4⟩ := id hS
  refine sg_28_0 _ _ _ (sp_in (l := 0) (h := 8) rfl rfl rfl (by omega) hk (by omega) (sp_in (l := 0) (h := 1) rfl rfl rfl (by omega) (by omega) (by omega) ?_))
  refine tp_up_loop (E := fun i => tp_E 28 27 [.ref 0, .int (bI b), .int (nI k), .int (nI w), .int (nI (g_r sp u tr ty st b k w i)), .int (nI i)] [] σ post) (n := n) (fun i hi g => ?_) ?_ 0 (Nat.zero_le _)
  · obtain ⟨⟨a1, a2, a3⟩, b1, b2, b3, b4⟩ := s3 i hi
    refine sg_28_27 _ _ _ _ _ ?_
    rw [tp_c (show i < 1000000 by omega), s2, b1, tp_c (show tr i < 1000000 by omega), (h0.2.2.2 _ a1).2]
    simp only [nI_1]
    unfold g_r at g ⊢
    rw [ct_succ] at g
    refine ⟨fun z => absurd z (tp_nle hi (by omega)), fun _ => ⟨tp_vi (by omega) (by omega), tp_vi (by omega) (by omega), fun z => ?_, fun z => ?_⟩⟩
    · rw [bI_eq] at z
      refine sp_36 h0 hS rfl rfl rfl hi hk hw (fun z2 => ⟨fun c => absurd c (by decide), fun _ => ?_⟩) (fun z2 => ⟨fun _ => ?_, fun c => absurd rfl c⟩)
      · rw [if_pos (by simp [z, z2])] at g; exact g
      · rw [if_neg (by simp [z, z2])] at g; exact g
    · rw [bI_eq] at z
      rw [if_neg (by simp [z])] at g; exact g
  · refine sg_28_27 _ _ _ _ _ ?_
    rw [s2]
    exact ⟨fun _ => hp, fun z => absurd (tp_le.mpr (Int.le_refl _)) z⟩
theorem c_heads {x y z : Int32} {t k h : Nat} (h0 : G0 pr sp u σ) (hS : GS lim tr ty st n σ) (hx : x = nI t) (hy : y = nI k) (hz : z = nI h) (ht : t < 4) (hk : k ≤ 8) (hh : h < 16) (h1 : (g_c sp u tr ty st t k 0 n ≤ h ∧ h ≤ g_c sp u tr ty st t k 1 n) → post 0 σ) (h2 : ¬ (g_c sp u tr ty st t k 0 n ≤ h ∧ h ≤ g_c sp u tr ty st t k 1 n) → ∀ r, ¬ r = 0 → post r σ) : tp_E 30 0 [.ref 0, .int x, .int y, .int z, .null, .null] [] σ post := by
  subst hx hy hz
  have n1 := hS.1
  have m1 := ct_le (p := fun i => decide (tr i = t) && g_ab sp ty st 1 (g_q u t k) i) n
  have m0 := ct_le (p := fun i => decide (tr i = t) && g_ab sp ty st 0 (g_q u t k) i) n
  change g_c sp u tr ty st t k 1 n ≤ n at m1
  change g_c sp u tr ty st t k 0 n ≤ n at m0
  refine sg_30_0 _ _ _ (sp_12 h0.2.2.1 rfl ht (sp_in (l := 0) (h := 8) rfl rfl rfl (by omega) hk (by omega) (sp_in (l := 0) (h := 1000) rfl rfl rfl (by omega) (by omega) (by omega) (sp_35 (w := 1) h0 hS rfl rfl rfl ht hk (by omega) ?_))))
  refine pk_le _ _ (fun z => sp_35 (w := 0) h0 hS rfl rfl rfl ht hk (by omega) (pk_le _ _ (fun z2 => h1 ⟨z2, z⟩) (fun z2 => h2 (by omega) _ (fun e => ?_)))) (fun z => h2 (by omega) _ (fun e => ?_))
  · have := tp_sub0 e
    rw [tp_ne (by omega) (by omega)] at this
    omega
  · have := tp_sub0 e
    rw [tp_ne (by omega) (by omega)] at this
    omega
/-- the search for a number that is sale i's, or none's -/
theorem sp_8 {x y : Int32} {k m : Nat} (hS : GS lim tr ty st n σ) (hx : x = nI k) (hy : y = nI m) (hm : m < 1000) (hk : k < 2) (h1 : ∀ i, i < n → ty i = k → g_no tr ty i = m → post (nI i) σ) (h0 : (∀ i, i < n → ¬ (ty i = k ∧ g_no tr ty i = m)) → post (-1) σ) : tp_E 8 0 [.ref 4, .int x, .int y, .null] [] σ post := by
  subst hx hy
  obtain ⟨s1, s2, s3, s4⟩ := id hS
  refine sg_8_0 _ _ ?_
  refine tp_up_loop (E := fun i => (∀ j, j < i → ¬ (ty j = k ∧ g_no tr ty j = m)) → tp_E 8 2 [.ref 4, .int (nI k), .int (nI m), .int (nI i)] [] σ post) (n := n) (fun i hi g hno => ?_) (fun hno => ?_) 0 (Nat.zero_le _) (fun j hj => absurd hj (Nat.not_lt_zero _))
  · obtain ⟨⟨a1, a2, a3⟩, b1, b2, b3, b4⟩ := s3 i hi
    have hc := ct_le (p := g_p tr ty (tr i) (ty i)) i
    have hn : g_no tr ty i < 1000 := by unfold g_no g_nx; omega
    refine sg_8_2 _ _ _ ?_
    rw [tp_c (show i < 1000000 by omega), s2, b2, b4]
    simp only [nI_1]
    have go : ¬ (ty i = k ∧ g_no tr ty i = m) → tp_E 8 2 [.ref 4, .int (nI k), .int (nI m), .int (nI (i + 1))] [] σ post := fun z => g (fun j hj => by
      rcases Nat.lt_succ_iff_lt_or_eq.mp hj with hj | rfl
      · exact hno j hj
      · exact z)
    exact ⟨fun z => absurd z (tp_nle hi (by omega)), fun _ => ⟨tp_vi (by omega) (by omega), pk_eq _ _ (fun z => ⟨tp_vi (by omega) (by omega), pk_eq _ _ (fun z2 => h1 i hi z z2) (fun z2 => go (fun z3 => z2 z3.2))⟩) (fun z => go (fun z3 => z z3.1))⟩⟩
  · refine sg_8_2 _ _ _ ?_
    rw [s2]
    exact ⟨fun _ => h0 hno, fun z => absurd (tp_le.mpr (Int.le_refl _)) z⟩
/-- a ticket that was sold, shown on its trip -/
theorem c_shown {x y z v : Int32} {k i : Nat} (h0 : G0 pr sp u σ) (hS : GS lim tr ty st n σ) (hi : i < n) (hx : x = nI (tr i)) (hy : y = nI k) (hz : z = nI (ty i)) (hv : v = nI (g_no tr ty i)) (hk : k ≤ 8) (h1 : g_in sp ty st (g_q u (tr i) k) i = true → post 0 σ) (h2 : ¬ g_in sp ty st (g_q u (tr i) k) i = true → ∀ r, ¬ r = 0 → post r σ) : tp_E 29 0 [.ref 0, .int x, .int y, .int z, .int v, .null, .null] [] σ post := by
  subst hx hy hz hv
  obtain ⟨s1, s2, s3, s4⟩ := id hS
  obtain ⟨⟨a1, a2, a3⟩, b1, b2, b3, b4⟩ := s3 i hi
  have hc := ct_le (p := g_p tr ty (tr i) (ty i)) i
  have hn : g_no tr ty i < 1000 := by unfold g_no g_nx; omega
  have hq := g_q_le (u := u) (t := tr i) hk
  refine sg_29_0 _ _ _ _ (sp_12 h0.2.2.1 rfl a1 (sp_in (l := 0) (h := 8) rfl rfl rfl (by omega) hk (by omega) (sp_17 h0.1 rfl a2 ⟨fun _ => sp_8 hS rfl rfl hn a2 (fun j hj e1 e2 => ?_) (fun hno => absurd ⟨rfl, rfl⟩ (hno i hi)), fun z => absurd (nI_pos' (by omega)) z⟩)))
  have hij : j = i := by
    rcases Nat.lt_trichotomy j i with h | h | h
    · exact absurd e2 (g_no_ne h (by omega) e1)
    · exact h
    · exact absurd e2.symm (g_no_ne h (by omega) e1.symm)
  subst hij
  rw [tp_c (show j < 1000000 by omega), b1]
  refine ⟨fun _ => ⟨tp_vi (by omega) (by omega), fun _ => sp_16 h0 rfl rfl a1 hk ?_, fun c => absurd rfl c⟩, fun z => absurd (nI_pos' (by omega)) z⟩
  rw [b3]
  refine ⟨tp_vi (by omega) (by omega), pk_le _ _ (fun z => ?_) (fun z => h2 (fun w => ?_) _ (by decide))⟩
  · exact sp_37 (A := fun _ => True) (B := fun _ => True) h0 hS rfl rfl hi hq (fun z2 => ⟨fun c => absurd c (by decide), fun _ => h1 z2⟩) (fun z2 => ⟨fun _ => h2 z2 _ (by decide), fun c => absurd rfl c⟩)
  · unfold g_in at w
    simp only [Bool.and_eq_true, decide_eq_true_eq] at w
    omega
/-- a ticket that isn't sold any more -/
theorem c_unsold {z v : Int32} {i : Nat} (h0 : G0 pr sp u σ) (hS : GS lim tr ty st n σ) (hi : n ≤ i) (hi2 : i < 14) (htr : tr i < 4) (hty : ty i < 2) (hz : z = nI (ty i)) (hv : v = nI (g_no tr ty i)) (hp : post 1 σ) : tp_E 29 0 [.ref 0, .int 0, .int 0, .int z, .int v, .null, .null] [] σ post := by
  subst hz hv
  have hc := ct_le (p := g_p tr ty (tr i) (ty i)) i
  have hn : g_no tr ty i < 1000 := by unfold g_no g_nx; omega
  refine sg_29_0 _ _ _ _ (sp_12 (t := 0) h0.2.2.1 rfl (by omega) (sp_in (n := 0) (l := 0) (h := 8) rfl rfl rfl (by omega) (by omega) (by omega) (sp_17 h0.1 rfl hty ⟨fun _ => sp_8 hS rfl rfl hn hty (fun j hj e1 e2 => absurd e2 (g_no_ne (by omega) (by omega) e1)) (fun _ => ⟨fun c => absurd c (by decide), fun _ => hp⟩), fun z => absurd (nI_pos' (by omega)) z⟩)))
/-- the latest sale undone -/
theorem c_undo (h0 : G0 pr sp u σ) (ho : GO σ) (hS : GS lim tr ty st (n + 1) σ) (hp : ∀ σ', GS lim tr ty st n σ' → (∀ o k, ¬ ((o = 4 ∧ k = 4) ∨ (46 ≤ o ∧ o < 52)) → σ'.1 o k = σ.1 o k) → σ'.2 = σ.2 → post (nI n) σ') : tp_E 25 0 [.ref 0, .null, .null, .null] [] σ post := by
  obtain ⟨s1, s2, s3, s4⟩ := id hS
  obtain ⟨⟨a1, a2, a3⟩, b1, b2, b3, b4⟩ := s3 n (by omega)
  obtain ⟨e1, e2, e3, e4⟩ := s4 (tr n) (ty n) a1 a2
  have hx : g_nx tr ty (n + 1) (tr n) (ty n) = g_no tr ty n + 1 := by rw [g_nx_succ, if_pos ⟨rfl, rfl⟩]; rfl
  refine sg_25_0 ?_
  rw [s2, nI_pred, tp_c (show n < 1000000 by omega), b1, b2, b4, tp_c (show tr n < 1000000 by omega), tp_c (show ty n < 1000000 by omega), (h0.2.2.2 _ a1).1, tp_c (show tr n < 1000000 by omega), ho _ a1, e1, hx, nI_pred]
  have v1 := tp_vi (show n < 200 by omega) (by omega)
  have v2 := tp_vi (show tr n < 16 by omega) (by omega)
  refine ⟨fun c => absurd c (nI_ne0 (by omega) (by omega)), fun _ => ⟨v1, v2, tp_vi (show tr n < 6 by omega) (by omega), v1, tp_vi (show ty n < 5 by omega) (by omega), v2, fun c => absurd c (by decide), fun _ => ⟨v1, fun _ => ?_, fun c => absurd rfl c⟩⟩⟩
  refine sg_38_0 ?_
  rw [s2, nI_pred, tp_c (show n < 1000000 by omega), b1, b2, b4, tp_c (show tr n < 1000000 by omega), tp_c (show ty n < 1000000 by omega), (h0.2.2.2 _ a1).1, tp_c (show tr n < 1000000 by omega)]
  refine ⟨v1, v2, tp_vi (show tr n < 6 by omega) (by omega), v1, v1, tp_vi (show ty n < 5 by omega) (by omega), ?_⟩
  rw [tp_sg_eq]
  refine hp _ ⟨by omega, tp_sg_eq, fun i hi => ?_, fun t k ht hk => ?_⟩ (fun o k hd => ?_) rfl
  · rw [tp_sg_ne (by omega), tp_sg_ne (by omega), tp_sg_ne (by omega), tp_sg_ne (by omega), tp_sg_ne (by omega), tp_sg_ne (by omega), tp_sg_ne (by omega), tp_sg_ne (by omega)]
    exact s3 i (by omega)
  · obtain ⟨f1, f2, f3, f4⟩ := s4 t k ht hk
    have hs := g_nx_succ (tr := tr) (ty := ty) (n := n) (t := t) (k := k)
    rw [tp_sg_ne (o' := 52 + t) (by omega), tp_sg_ne (o' := 52 + t) (by omega), tp_sg_ne (o' := 46 + t) (o := 4) (by omega)]
    by_cases e : t = tr n ∧ k = ty n
    · obtain ⟨rfl, rfl⟩ := e
      rw [tp_sg_eq]
      exact ⟨rfl, f2, by rw [if_pos ⟨rfl, rfl⟩] at hs; omega, f4⟩
    · rw [tp_sg_ne (by omega)]
      rw [if_neg (fun z => e ⟨z.1.symm, z.2.symm⟩)] at hs
      rw [← hs]
      exact ⟨f1, f2, f3, f4⟩
  · rw [tp_sg_ne (by omega), tp_sg_ne (by omega)]
end GD
