/-! PURE: words for what methods answer -/
/-- answers 1 or 0 by P, changes nothing -/
def tp_bool (i : Nat) (av : List Value) (σ : tp_St) (P : Prop) : Prop := ∀ post : Int32 → tp_St → Prop, (P → post 1 σ) → (¬ P → post 0 σ) → tp_E i 0 av [] σ post
/-- answers v, changes nothing -/
def tp_val (i : Nat) (av : List Value) (σ : tp_St) (v : Int32) : Prop := ∀ post : Int32 → tp_St → Prop, post v σ → tp_E i 0 av [] σ post
theorem tp_if {i : Nat} {av : List Value} {σ : tp_St} {P : Prop} {A B : tp_St → Prop} (hb : tp_bool i av σ P) (hT : P → B σ) (hF : ¬ P → A σ) : tp_E i 0 av [] σ (fun r σ1 => (r = 0 → A σ1) ∧ (¬ r = 0 → B σ1)) :=
  hb _ (fun h => ⟨fun q => absurd q (by decide), fun _ => hT h⟩) (fun h => ⟨fun _ => hF h, fun q => absurd rfl q⟩)
theorem tp_bool_iff {i : Nat} {av : List Value} {σ : tp_St} {P Q : Prop} (h : P ↔ Q) (hb : tp_bool i av σ P) : tp_bool i av σ Q := fun post h1 h0 => hb post (fun p => h1 (h.mp p)) (fun p => h0 (fun q => p (h.mpr q)))
theorem tp_lt {a b : Int32} : a < b ↔ a.toInt < b.toInt := Int32.lt_iff_toInt_lt
theorem tp_le {a b : Int32} : a ≤ b ↔ a.toInt ≤ b.toInt := Int32.le_iff_toInt_le
theorem tp_eq {a b : Int32} : a = b ↔ a.toInt = b.toInt := Int32.toInt_inj.symm
theorem tp_sg (σ : tp_St) (o k : Nat) (v : Int32) (o' k' : Nat) : (tp_set σ o k v).1 o' k' = if o' = o then (if k' = k then v else σ.1 o' k') else σ.1 o' k' := rfl
theorem tp_s2 (σ : tp_St) (o k : Nat) (v : Int32) : (tp_set σ o k v).2 = σ.2 := rfl
def tp_rg (lo hi : Int) (x : Int32) : Prop := lo ≤ x.toInt ∧ x.toInt ≤ hi
theorem tp_rg_nI {x : Int32} {hi : Nat} (h : tp_rg 0 hi x) (hh : hi < 2 ^ 31) : ∃ n : Nat, n ≤ hi ∧ x = nI n := by
  refine ⟨x.toInt.toNat, by have := h.1; have := h.2; omega, tp_eq.mpr ?_⟩
  have h1 := h.1
  have h2 := h.2
  rw [nI_toInt (by omega)]
  omega
theorem tp_vin {x : Int32} {n : Nat} : vp_in x n ↔ 0 ≤ x.toInt ∧ x.toInt < n := vp_in_iff
theorem tp_vin_nI {k n : Nat} (h : k < n) (hn : n < 2 ^ 31) : vp_in (nI k) n := vp_in_nI h hn
/-- a loop that counts up: its state at turn i is a function of i -/
theorem tp_up_loop {E : Nat → Prop} {n : Nat} (hs : ∀ i, i < n → E (i + 1) → E i) (hx : E n) : ∀ i, i ≤ n → E i := by
  intro i hi
  have key : ∀ d i, i + d = n → E i := by
    intro d
    induction d with
    | zero => intro i h; rw [show i = n by omega]; exact hx
    | succ d ih => intro i h; exact hs i (by omega) (ih (i + 1) (by omega))
  exact key (n - i) i (by omega)
/-- a loop that counts down -/
theorem tp_dn_loop {E : Nat → Prop} {n : Nat} (hs : ∀ i, i < n → E i → E (i + 1)) (hx : E 0) : E n := by
  have key : ∀ i, i ≤ n → E i := by
    intro i
    induction i with
    | zero => intro _; exact hx
    | succ i ih => intro h; exact hs i (by omega) (ih (by omega))
  exact key n (Nat.le_refl n)
def tp_fo {α : Type} (step : Nat → α → α) : Nat → α → α
  | 0, a => a
  | n + 1, a => step n (tp_fo step n a)
theorem tp_fo_congr {α : Type} {f g : Nat → α → α} {a : α} : ∀ {n : Nat}, (∀ i, i < n → ∀ x, f i x = g i x) → tp_fo f n a = tp_fo g n a
  | 0, _ => rfl
  | n + 1, h => by
    show f n (tp_fo f n a) = g n (tp_fo g n a)
    rw [tp_fo_congr (n := n) (fun i hi => h i (by omega)), h n (by omega)]
/-- a loop with a value that each turn changes -/
theorem tp_fold {α : Type} {E : Nat → α → Prop} {step : Nat → α → α} {n : Nat} {a : α} (hs : ∀ i x, i < n → E (i + 1) (step i x) → E i x) (hx : E n (tp_fo step n a)) : E 0 a := by
  have key := tp_up_loop (E := fun i => E i (tp_fo step i a)) (n := n) (fun i hi h => hs i _ hi h) hx
  exact key 0 (Nat.zero_le n)
/-! small methods -/
theorem sp_91 {σ : tp_St} {a lo hi : Int32} {l h : Int} (hl : lo.toInt = l) (hh : hi.toInt = h) : tp_bool 91 [.int a, .int lo, .int hi] σ (a.toInt < l ∨ h < a.toInt) := by
  subst hl; subst hh
  intro post h1 h0
  refine sg_91_0 _ _ _ ⟨fun c => h1 (Or.inl (tp_lt.mp c)), fun c => ⟨fun d => h0 ?_, fun d => h1 ?_⟩⟩
  · rw [tp_lt] at c; rw [tp_le] at d; omega
  · rw [tp_le] at d; omega
theorem tp_i64 {x : Int32} : x.toInt64.toInt = x.toInt := by simp
theorem sp_101 {σ : tp_St} {a lo hi : Int64} {x l h : Int} (hx : a.toInt = x) (hl : lo.toInt = l) (hh : hi.toInt = h) : tp_bool 101 [.long a, .null, .long lo, .null, .long hi, .null] σ (l ≤ x ∧ x ≤ h) := by
  subst hl; subst hh; subst hx
  intro post h1 h0
  have e1 := lg_cmp_ge a lo
  have e2 := lg_cmp_le a hi
  rw [Int64.le_iff_toInt_le] at e1 e2
  refine sg_101_0 _ _ _ ⟨fun c => h0 ?_, fun c => ⟨fun d => h0 ?_, fun d => h1 ?_⟩⟩
  · rw [← Int32.not_le] at c; rw [e1] at c; omega
  · rw [← Int32.not_le] at d; rw [e2] at d; omega
  · rw [Int32.not_lt] at c d; rw [e1] at c; rw [e2] at d; omega
theorem sp_53 {σ : tp_St} {a : Int32} {n : Nat} (hn : σ.1 3 3 = nI n) (h : n < 2 ^ 31) : tp_bool 53 [.ref 3, .int a] σ (0 ≤ a.toInt ∧ a.toInt < n) := by
  intro post h1 h0
  have e : (σ.1 3 3).toInt = n := by rw [hn, nI_toInt h]
  refine sg_53_0 _ ⟨fun c => h0 ?_, fun c => ⟨fun d => h0 ?_, fun d => h1 ?_⟩⟩
  · rw [tp_lt] at c; simp at c; omega
  · rw [tp_le] at d; omega
  · rw [tp_lt] at c; rw [tp_le] at d; simp at c; omega
theorem sp_59 {σ : tp_St} {a : Int32} {n : Nat} (hn : σ.1 1 2 = nI n) (h : n < 2 ^ 31) : tp_bool 59 [.ref 1, .int a] σ (0 ≤ a.toInt ∧ a.toInt < n) := by
  intro post h1 h0
  have e : (σ.1 1 2).toInt = n := by rw [hn, nI_toInt h]
  refine sg_59_0 _ ⟨fun c => h0 ?_, fun c => ⟨fun d => h0 ?_, fun d => h1 ?_⟩⟩
  · rw [tp_lt] at c; simp at c; omega
  · rw [tp_le] at d; omega
  · rw [tp_lt] at c; rw [tp_le] at d; simp at c; omega
theorem tp_pred {n : Nat} (h : n < 2 ^ 31) : (nI n - 1).toInt = (n : Int) - 1 := by
  cases n with
  | zero => decide
  | succ n => rw [nI_pred, nI_toInt (by omega)]; omega
theorem sp_107 {σ : tp_St} {a : Int32} {n : Nat} (hn : σ.1 58 5 = nI n) (h : n < 2 ^ 31) : tp_bool 107 [.ref 58, .int a] σ (0 ≤ a.toInt ∧ a.toInt < n) := by
  intro post h1 h0
  refine sg_107_0 _ (sp_101 tp_i64 (l := 0) rfl (h := (n : Int) - 1) (by rw [tp_i64, hn, tp_pred h]) _ (fun c => ⟨rfl, h1 (by omega)⟩) (fun c => ⟨rfl, h0 (by omega)⟩))
theorem sp_92 {σ : tp_St} {c y : Int32} {n : Nat} (hn : σ.1 1 2 = nI n) (h : n < 2 ^ 31) : tp_bool 92 [.ref 0, .int c, .int y] σ ((0 ≤ c.toInt ∧ c.toInt < 6) ∧ 0 ≤ y.toInt ∧ y.toInt < n) := by
  intro post h1 h0
  refine sg_92_0 _ _ (tp_if (sp_91 (l := 0) rfl (h := 5) rfl) (fun q => h0 (by omega)) (fun q => tp_if (sp_59 hn h) (fun q2 => h1 (by omega)) (fun q2 => h0 (by omega))))
theorem sp_103 {σ : tp_St} {c y : Int32} {n : Nat} (hn : σ.1 58 0 = nI n) (h : n < 2 ^ 31) : tp_bool 103 [.ref 58, .int c, .int y] σ ((0 ≤ c.toInt ∧ c.toInt < 6) ∧ 0 ≤ y.toInt ∧ y.toInt < n) := by
  intro post h1 h0
  refine sg_103_0 _ _ (tp_if (sp_101 tp_i64 (l := 0) rfl (h := 5) rfl) (fun q => tp_if (sp_101 tp_i64 (l := 0) rfl (h := (n : Int) - 1) (by rw [tp_i64, hn, tp_pred h])) (fun q2 => h1 (by omega)) (fun q2 => h0 (by omega))) (fun q => h0 (by omega)))
