/-! PURE: words for what methods answer -/
/-- answers 1 or 0 by P, changes nothing -/
def tp_bool (i : Nat) (av : List Value) (σ : tp_St) (P : Prop) : Prop := ∀ post : Int32 → tp_St → Prop, (P → post 1 σ) → (¬ P → post 0 σ) → tp_E i 0 av [] σ post
/-- answers v, changes nothing -/
def tp_val (i : Nat) (av : List Value) (σ : tp_St) (v : Int32) : Prop := ∀ post : Int32 → tp_St → Prop, post v σ → tp_E i 0 av [] σ post
theorem tp_if {i : Nat} {av : List Value} {σ : tp_St} {P : Prop} {A B : tp_St → Prop} (hb : tp_bool i av σ P) (hT : P → B σ) (hF : ¬ P → A σ) : tp_E i 0 av [] σ (fun r σ1 => (r = 0 → A σ1) ∧ (¬ r = 0 → B σ1)) :=
  hb _ (fun h => ⟨fun q => absurd q (by decide), fun _ => hT h⟩) (fun h => ⟨fun _ => hF h, fun q => absurd rfl q⟩)
theorem tp_bool_iff {i : Nat} {av : List Value} {σ : tp_St} {P Q : Prop} (h : P ↔ Q) (hb : tp_bool i av σ P) : tp_bool i av σ Q := fun post h1 h0 => hb post (fun p => h1 (h.mp p)) (fun p => h0 (fun q => p (h.mpr q)))
theorem tp_lt {a b : Int32} : a < b ↔ a.toInt < b.toInt := Int32.lt_iff_toInt_lt
theorem tp_le {a b : Int32} : a ≤ b ↔ a.toInt ≤ b.toInt := Int32.le_iff_toInt_le
theorem tp_ei {a b : Int32} : a = b ↔ a.toInt = b.toInt := Int32.toInt_inj.symm
theorem tp_sg (σ : tp_St) (o k : Nat) (v : Int32) (o' k' : Nat) : (tp_set σ o k v).1 o' k' = if o' = o then (if k' = k then v else σ.1 o' k') else σ.1 o' k' := rfl
theorem tp_s2 (σ : tp_St) (o k : Nat) (v : Int32) : (tp_set σ o k v).2 = σ.2 := rfl
def tp_rg (lo hi : Int) (x : Int32) : Prop := lo ≤ x.toInt ∧ x.toInt ≤ hi
theorem tp_rg_nI {x : Int32} {hi : Nat} (h : tp_rg 0 hi x) (hh : hi < 2 ^ 31) : ∃ n : Nat, n ≤ hi ∧ x = nI n := by
  refine ⟨x.toInt.toNat, by have := h.1; have := h.2; omega, tp_ei.mpr ?_⟩
  have h1 := h.1
  have h2 := h.2
  rw [nI_toInt (by omega)]
  omega
theorem tp_vin {x : Int32} {n : Nat} : vp_in x n ↔ 0 ≤ x.toInt ∧ x.toInt < n := vp_in_iff
theorem tp_vin_nI {k n : Nat} (h : k < n) (hn : n < 2 ^ 31) : vp_in (nI k) n := vp_in_nI h hn
/-- a loop that counts up: its state at turn i is a function of i -/
theorem tp_up_loop {E : Nat → Prop} {n : Nat} (hs : ∀ i, i < n → E (i + 1) → E i) (hx : E n) : ∀ i, i ≤ n → E i := by
  intro i hi
  have key : ∀ d i, i + d = n → E i := by
    intro d
    induction d with
    | zero => intro i h; rw [show i = n by omega]; exact hx
    | succ d ih => intro i h; exact hs i (by omega) (ih (i + 1) (by omega))
  exact key (n - i) i (by omega)
/-- a loop that counts down -/
theorem tp_dn_loop {E : Nat → Prop} {n : Nat} (hs : ∀ i, i < n → E i → E (i + 1)) (hx : E 0) : E n := by
  have key : ∀ i, i ≤ n → E i := by
    intro i
    induction i with
    | zero => intro _; exact hx
    | succ i ih => intro h; exact hs i (by omega) (ih (by omega))
  exact key n (Nat.le_refl n)
def tp_fo {α : Type} (step : Nat → α → α) : Nat → α → α
  | 0, a => a
  | n + 1, a => step n (tp_fo step n a)
theorem tp_fo_congr {α : Type} {f g : Nat → α → α} {a : α} : ∀ {n : Nat}, (∀ i, i < n → ∀ x, f i x = g i x) → tp_fo f n a = tp_fo g n a
  | 0, _ => rfl
  | n + 1, h => by
    show f n (tp_fo f n a) = g n (tp_fo g n a)
    rw [tp_fo_congr (n := n) (fun i hi => h i (by omega)), h n (by omega)]
/-- a loop with a value that each turn changes -/
theorem tp_fold {α : Type} {E : Nat → α → Prop} {step : Nat → α → α} {n : Nat} {a : α} (hs : ∀ i x, i < n → E (i + 1) (step i x) → E i x) (hx : E n (tp_fo step n a)) : E 0 a := by
  have key := tp_up_loop (E := fun i => E i (tp_fo step i a)) (n := n) (fun i hi h => hs i _ hi h) hx
  exact key 0 (Nat.zero_le n)
theorem tp_sg_ne {σ : tp_St} {o k o' k' : Nat} {v : Int32} (h : ¬ (o' = o ∧ k' = k)) : (tp_set σ o k v).1 o' k' = σ.1 o' k' := by
  rw [tp_sg]
  split
  · rename_i h1
    split
    · rename_i h2
      exact absurd ⟨h1, h2⟩ h
    · rfl
  · rfl
theorem tp_sg_eq {σ : tp_St} {o k : Nat} {v : Int32} : (tp_set σ o k v).1 o k = v := by rw [tp_sg, if_pos rfl, if_pos rfl]
theorem tp_c {n : Nat} (h : n < 1000000) : (nI n).toNatClampNeg = n := nI_clamp (Nat.lt_trans h (by decide))
theorem tp_t {n : Nat} (h : n < 1000000) : (nI n).toInt = (n : Int) := nI_toInt (Nat.lt_trans h (by decide))
theorem tp_nle {a b : Nat} (h : a < b) (hb : b < 1000000) : ¬ nI b ≤ nI a := by rw [tp_le, tp_t hb, tp_t (by omega)]; omega
theorem tp_nlt {a b : Nat} (h : b ≤ a) (hb : a < 1000000) : ¬ nI a < nI b := by rw [tp_lt, tp_t hb, tp_t (by omega)]; omega
theorem tp_vi {k n : Nat} (h : k < n) (hn : n < 1000000) : vp_in (nI k) n := vp_in_nI h (Nat.lt_trans hn (by decide))
theorem tp_ne {a b : Nat} (ha : a < 1000000) (hb : b < 1000000) : nI a = nI b ↔ a = b := by rw [tp_ei, tp_t ha, tp_t hb]; omega
theorem tp_leN {a b : Nat} (ha : a < 1000000) (hb : b < 1000000) : nI a ≤ nI b ↔ a ≤ b := by rw [tp_le, tp_t ha, tp_t hb]; omega
theorem tp_ltN {a b : Nat} (ha : a < 1000000) (hb : b < 1000000) : nI a < nI b ↔ a < b := by rw [tp_lt, tp_t ha, tp_t hb]; omega
theorem tp_bz : vp_nar .boolean 0 = 0 := by decide +kernel
theorem tp_bo : vp_nar .boolean 1 = 1 := by decide +kernel
theorem tp_nb0 : narrow .boolean (.int 0) = .int 0 := by decide +kernel
theorem tp_nb1 : narrow .boolean (.int 1) = .int 1 := by decide +kernel
theorem tp_m1 {x : Int32} : x + (-1) = x - 1 := (Int32.sub_eq_add_neg x 1).symm
theorem tp_neg1 : (nI 0 - 1 : Int32) = -1 := by decide
theorem tp_sub0 {a b : Int32} (h : a - b = 0) : a = b := by rw [← Int32.sub_add_cancel a b, h, Int32.zero_add]
/-! small methods -/
theorem sp_32 {σ : tp_St} {a lo hi : Int32} {l h : Int} (hl : lo.toInt = l) (hh : hi.toInt = h) : tp_bool 32 [.int a, .int lo, .int hi] σ (a.toInt < l ∨ h < a.toInt) := by
  subst hl; subst hh
  intro post h1 h0
  refine sg_32_0 _ _ _ ⟨fun c => h1 (Or.inl (tp_lt.mp c)), fun c => ⟨fun d => h0 ?_, fun d => h1 ?_⟩⟩
  · rw [tp_lt] at c; rw [tp_le] at d; omega
  · rw [tp_le] at d; omega
/-- within: nothing is answered but 0 -/
theorem sp_in {σ : tp_St} {x lo hi : Int32} {n l h : Nat} {A B : tp_St → Prop} (hx : x = nI n) (hl : lo = nI l) (hh : hi = nI h) (h1 : l ≤ n) (h2 : n ≤ h) (hn : h < 1000000) (k : A σ) : tp_E 32 0 [.int x, .int lo, .int hi] [] σ (fun r σ1 => (r = 0 → A σ1) ∧ (¬ r = 0 → B σ1)) := by
  subst hx hl hh
  refine tp_if (sp_32 (l := l) (tp_t (by omega)) (h := h) (tp_t hn)) (fun q => ?_) (fun _ => k)
  rw [tp_t (by omega)] at q
  omega
theorem sp_12 {σ : tp_St} {x : Int32} {t : Nat} {A B : tp_St → Prop} (hn : σ.1 3 3 = nI 4) (hx : x = nI t) (h : t < 4) (k : B σ) : tp_E 12 0 [.ref 3, .int x] [] σ (fun r σ1 => (r = 0 → A σ1) ∧ (¬ r = 0 → B σ1)) := by
  subst hx
  refine sg_12_0 _ ⟨fun c => absurd c (nI_pos (by omega)), fun _ => ⟨fun d => ?_, fun _ => ⟨fun z => absurd z (by decide), fun _ => k⟩⟩⟩
  rw [hn] at d
  exact absurd d (tp_nle h (by omega))
theorem sp_17 {σ : tp_St} {x : Int32} {y : Nat} {A B : tp_St → Prop} (hn : σ.1 1 2 = nI 2) (hx : x = nI y) (h : y < 2) (k : B σ) : tp_E 17 0 [.ref 1, .int x] [] σ (fun r σ1 => (r = 0 → A σ1) ∧ (¬ r = 0 → B σ1)) := by
  subst hx
  refine sg_17_0 _ ⟨fun c => absurd c (nI_pos (by omega)), fun _ => ⟨fun d => ?_, fun _ => ⟨fun z => absurd z (by decide), fun _ => k⟩⟩⟩
  rw [hn] at d
  exact absurd d (tp_nle h (by omega))
theorem sp_33 {σ : tp_St} {x y : Int32} {t k : Nat} {A B : tp_St → Prop} (hn : σ.1 1 2 = nI 2) (hx : x = nI t) (hy : y = nI k) (ht : t < 6) (hk : k < 2) (g : B σ) : tp_E 33 0 [.ref 0, .int x, .int y] [] σ (fun r σ1 => (r = 0 → A σ1) ∧ (¬ r = 0 → B σ1)) := by
  refine sg_33_0 _ _ (sp_in (l := 0) (h := 5) hx rfl rfl (by omega) (by omega) (by omega) (sp_17 hn hy hk ⟨fun z => absurd z (by decide), fun _ => g⟩))
theorem sp_0 {σ : tp_St} {x z : Int32} {c y : Nat} (hx : x = nI c) (hz : z = nI y) (hc : c < 6) (hy : y < 5) : tp_val 0 [.ref 2, .int x, .int z] σ (σ.1 (52 + c) y - σ.1 (46 + c) y) := by
  subst hx hz
  intro post hp
  refine sg_0_0 _ _ ?_
  rw [tp_c (show c < 1000000 by omega), tp_c (show y < 1000000 by omega)]
  exact ⟨tp_vi hc (by omega), tp_vi hy (by omega), tp_vi hc (by omega), tp_vi hy (by omega), hp⟩
/-! the law's own helpers: part is within, cell is anything -/
theorem sp_40 {σ : tp_St} {a x : Int32} {c : Nat} {post : Int32 → tp_St → Prop} (hx : x = nI c) (h0 : 0 < c) (hc : c < 1000000) (k : ∀ r, r < c → post (nI r) σ) : tp_E 40 0 [.int a, .int x] [] σ post := by
  subst hx
  obtain ⟨j, hj, e⟩ := pk_andE a 31 (m := 2147483647) (by decide)
  refine sg_40_0 _ _ ⟨nI_ne0 h0 (by omega), ?_⟩
  rw [e, pk_rem (by omega) h0 (by omega)]
  exact k _ (Nat.mod_lt _ h0)
theorem sp_41 {σ : tp_St} {x : Int32} {j L : Nat} {post : Int32 → tp_St → Prop} (hL : σ.1 89 0 = nI L) (hl : L < 1000000) (hx : x = nI j) (hj : j < 1000000) (k : ∀ r, post r σ) : tp_E 41 0 [.ref 90, .int x] [] σ post := by
  subst hx
  have e : Int32.ofNat (σ.1 89 0).toNatClampNeg = nI L := by
    rw [hL, tp_c hl]
    rfl
  refine sg_41_0 _ ?_
  rw [e]
  refine ⟨fun _ => k _, fun h => ?_⟩
  have h0 : 0 < L := by
    rcases Nat.eq_zero_or_pos L with rfl | h0
    · exact absurd rfl h
    · exact h0
  rw [pk_rem (by omega) h0 (by omega), hL, tp_c hl]
  exact ⟨h, tp_vi (Nat.mod_lt _ h0) hl, h, k _⟩
