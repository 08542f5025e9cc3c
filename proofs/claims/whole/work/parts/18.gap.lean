/-! the gap -/
theorem ct_mono {p q : Nat → Bool} : ∀ {n}, (∀ k, k < n → q k = true → p k = true) → ct q n ≤ ct p n
  | 0, _ => Nat.le_refl _
  | n + 1, h => by
    have ih := ct_mono (p := p) (q := q) (n := n) (fun k hk => h k (by omega))
    have := h n (by omega)
    unfold ct
    by_cases hq : q n = true
    · rw [if_pos hq, if_pos (this hq)]; omega
    · rw [if_neg hq]; split <;> omega
theorem ct_strict {p q : Nat → Bool} {j : Nat} (hp : p j = true) (hq : ¬ q j = true) : ∀ {n}, (∀ k, k < n → q k = true → p k = true) → j < n → ct q n < ct p n
  | 0, _, h => by omega
  | n + 1, h, hj => by
    have h2 : ∀ k, k < n → q k = true → p k = true := fun k hk => h k (by omega)
    unfold ct
    by_cases e : j = n
    · subst e
      rw [if_neg hq, if_pos hp]
      have := ct_mono h2
      omega
    · have ih := ct_strict hp hq h2 (show j < n by omega)
      have := h n (by omega)
      by_cases hqn : q n = true
      · rw [if_pos hqn, if_pos (this hqn)]; omega
      · rw [if_neg hqn]; split <;> omega
abbrev gp_s (σ : tp_St) (y k x : Nat) : Prop := σ.1 16 k = nI y ∧ σ.1 18 k = nI x
abbrev gp_k (σ : tp_St) (y c x : Nat) : Prop := (σ.1 (46 + c) y).toInt ≤ x ∧ (x : Int) < (σ.1 (52 + c) y).toInt
def gp_h (σ : tp_St) (y nS x : Nat) : Prop := (∃ k, k < nS ∧ gp_s σ y k x) ∨ ∃ c, c < 6 ∧ gp_k σ y c x
def gp_p (σ : tp_St) (y n k : Nat) : Bool := decide (σ.1 16 k = nI y) && decide ((n : Int) ≤ (σ.1 18 k).toInt)
def gp_q (σ : tp_St) (y n c : Nat) : Bool := decide ((n : Int) < (σ.1 (52 + c) y).toInt)
def gp_M (σ : tp_St) (y nS n : Nat) : Nat := ct (gp_p σ y n) nS + ct (gp_q σ y n) 6
theorem gp_p_anti {σ : tp_St} {y a b k : Nat} (h : a ≤ b) (hb : gp_p σ y b k = true) : gp_p σ y a k = true := by
  unfold gp_p at *
  simp only [Bool.and_eq_true, decide_eq_true_eq] at *
  exact ⟨hb.1, by have := hb.2; omega⟩
theorem gp_q_anti {σ : tp_St} {y a b k : Nat} (h : a ≤ b) (hb : gp_q σ y b k = true) : gp_q σ y a k = true := by
  unfold gp_q at *
  simp only [decide_eq_true_eq] at *
  omega
theorem gp_M_le (σ : tp_St) (y nS n : Nat) : gp_M σ y nS n ≤ nS + 6 := by
  unfold gp_M
  have := ct_le (p := gp_p σ y n) nS
  have := ct_le (p := gp_q σ y n) 6
  omega
theorem gp_M_s {σ : tp_St} {y nS k f : Nat} (hk : k < nS) (hf : f < 1000000) (h : gp_s σ y k f) : gp_M σ y nS (f + 1) < gp_M σ y nS f := by
  unfold gp_M
  have h1 : ct (gp_p σ y (f + 1)) nS < ct (gp_p σ y f) nS := ct_strict (j := k) (by unfold gp_p; rw [h.1, h.2, tp_t hf]; simp) (by unfold gp_p; rw [h.1, h.2, tp_t hf]; simp; omega) (fun k _ => gp_p_anti (by omega)) hk
  have h2 : ct (gp_q σ y (f + 1)) 6 ≤ ct (gp_q σ y f) 6 := ct_mono (fun k _ => gp_q_anti (by omega))
  omega
theorem gp_M_k {σ : tp_St} {y nS c f l : Nat} (hc : c < 6) (hl : l < 1000000) (e : σ.1 (52 + c) y = nI l) (h : f < l) : gp_M σ y nS l < gp_M σ y nS f := by
  unfold gp_M
  have h1 : ct (gp_q σ y l) 6 < ct (gp_q σ y f) 6 := ct_strict (j := c) (by unfold gp_q; rw [e, tp_t hl]; simp; omega) (by unfold gp_q; rw [e, tp_t hl]; simp) (fun k _ => gp_q_anti (by omega)) hc
  have h2 : ct (gp_p σ y l) nS ≤ ct (gp_p σ y f) nS := ct_mono (fun k _ => gp_p_anti (by omega))
  omega
def gp_I (σ : tp_St) (y nS n : Nat) (P : Prop) (f : Nat) : Prop := f ≤ 101001 ∧ (∀ z, z < f → gp_h σ y nS z) ∧ ((f = n ∧ P) ∨ (n < f ∧ gp_M σ y nS f < gp_M σ y nS n))
theorem sp_100 {σ : tp_St} {y n nT nR nS : Nat} (hT : RT σ nT) (hP : RP σ) (hS : RS σ nT nR nS) (hy : y < 5) (hn : n ≤ 101001) (hh : ∀ z, z < n → gp_h σ y nS z) {post : Int32 → tp_St → Prop} (hp : ∀ f, gp_I σ y nS n (¬ gp_h σ y nS n) f → post (nI f) σ) : tp_E 100 0 [.ref 0, .int (nI y), .int (nI n)] [] σ post := by
  obtain ⟨s1, s2, s3, s4⟩ := id hS
  refine sg_100_0 _ _ ?_
  have second : ∀ f, gp_I σ y nS n (∀ k, k < nS → ¬ gp_s σ y k n) f → tp_E 18 0 [.ref 2, .int (nI y), .int (nI f), .null, .null] [] σ (fun r2 σ2 => post r2 σ2) := by
    intro f hf
    refine sg_18_0 _ _ ?_
    refine tp_up_loop (E := fun i => ∀ f, gp_I σ y nS n ((∀ k, k < nS → ¬ gp_s σ y k n) ∧ ∀ c, c < i → ¬ gp_k σ y c n) f → tp_E 18 5 [.ref 2, .int (nI y), .null, .int (nI f), .int (nI i)] [] σ (fun r2 σ2 => post r2 σ2)) (n := 6) (fun i hi g f hf => ?_) (fun f hf => ?_) 0 (Nat.zero_le _) f ⟨hf.1, hf.2.1, hf.2.2.imp (fun z => ⟨z.1, z.2, fun c hc => absurd hc (by omega)⟩) id⟩
    · obtain ⟨f1, f2, f3⟩ := hf
      obtain ⟨p1, p2, p3, p4, p5⟩ := hP i y hi hy
      obtain ⟨l, hl, el⟩ := tp_rg_of (hi := 101000) (x := σ.1 (52 + i) y) (by omega) p5 (by omega)
      refine sg_18_5 _ _ _ ?_
      rw [tp_c (show i < 1000000 by omega), tp_c (show y < 1000000 by omega)]
      simp only [nI_1]
      rw [show (6 : Int32) = nI 6 from rfl]
      have keep : ¬ gp_k σ y i f → gp_I σ y nS n ((∀ k, k < nS → ¬ gp_s σ y k n) ∧ ∀ c, c < i + 1 → ¬ gp_k σ y c n) f := fun z => ⟨f1, f2, f3.imp (fun w => ⟨w.1, w.2.1, fun c hc => by
        by_cases e : c = i
        · rw [e, ← w.1]; exact z
        · exact w.2.2 c (by omega)⟩) id⟩
      refine ⟨fun z => absurd z (tp_nle hi (by omega)), fun _ => ⟨tp_vi hi (by omega), tp_vi hy (by omega), fun z => g f (keep (fun w => ?_)), fun z => ⟨tp_vi hi (by omega), tp_vi hy (by omega), fun z2 => g f (keep (fun w => ?_)), fun z2 => ⟨tp_vi hi (by omega), tp_vi hy (by omega), ?_⟩⟩⟩⟩
      · rw [tp_lt, tp_t (by omega)] at z; have := w.1; omega
      · rw [tp_le, tp_t (show f < 1000000 by omega)] at z2; have := w.2; omega
      · rw [tp_lt, tp_t (by omega)] at z
        rw [el, tp_leN (by omega) (by omega)] at z2
        rw [el]
        have hM := gp_M_k (nS := nS) hi (show l < 1000000 by omega) el (show f < l by omega)
        refine g l ⟨by omega, fun x hx => ?_, Or.inr ?_⟩
        · by_cases hx2 : x < f
          · exact f2 x hx2
          · exact Or.inr ⟨i, hi, by omega, by rw [el, tp_t (by omega)]; omega⟩
        · rcases f3 with f3 | f3
          · rw [← f3.1]; exact ⟨by omega, hM⟩
          · exact ⟨by omega, by omega⟩
    · refine sg_18_5 _ _ _ ?_
      rw [show (6 : Int32) = nI 6 from rfl]
      refine ⟨fun _ => hp f ⟨hf.1, hf.2.1, hf.2.2.imp (fun z => ⟨z.1, fun w => ?_⟩) id⟩, fun z => absurd (tp_le.mpr (Int.le_refl _)) z⟩
      rcases w with ⟨k, hk, w⟩ | ⟨c, hc, w⟩
      · exact z.2.1 k hk w
      · exact z.2.2 c hc w
  refine sg_35_0 _ _ ?_
  refine tp_up_loop (E := fun i => ∀ f, gp_I σ y nS n (∀ k, k < i → ¬ gp_s σ y k n) f → tp_E 35 5 [.ref 4, .int (nI y), .null, .int (nI f), .int (nI i)] [] σ _) (n := nS) (fun i hi g f hf => ?_) (fun f hf => ?_) 0 (Nat.zero_le _) n ⟨hn, hh, Or.inl ⟨rfl, fun k hk => absurd hk (by omega)⟩⟩
  · obtain ⟨f1, f2, f3⟩ := hf
    refine sg_35_5 _ _ _ ?_
    rw [tp_c (show i < 1000000 by omega), s2]
    simp only [nI_1]
    have keep : ¬ gp_s σ y i f → gp_I σ y nS n (∀ k, k < i + 1 → ¬ gp_s σ y k n) f := fun z => ⟨f1, f2, f3.imp (fun w => ⟨w.1, fun k hk => by
      by_cases e : k = i
      · rw [e, ← w.1]; exact z
      · exact w.2 k (by omega)⟩) id⟩
    refine ⟨fun z => absurd z (tp_nle hi (by omega)), fun _ => ⟨tp_vi (by omega) (by omega), fun z => ⟨tp_vi (by omega) (by omega), fun z2 => ?_, fun z2 => g f (keep (fun w => z2 w.2))⟩, fun z => g f (keep (fun w => z w.1))⟩⟩
    obtain ⟨-, -, -, -, e18⟩ := s4 i hi
    have hf0 : f ≤ 101000 := by have := e18.2; rw [z2, tp_t (by omega)] at this; omega
    have hM := gp_M_s hi (show f < 1000000 by omega) ⟨z, z2⟩
    refine g (f + 1) ⟨by omega, fun x hx => ?_, Or.inr ?_⟩
    · by_cases hx2 : x < f
      · exact f2 x hx2
      · rw [show x = f by omega]; exact Or.inl ⟨i, hi, z, z2⟩
    · rcases f3 with f3 | f3
      · rw [← f3.1]; exact ⟨by omega, hM⟩
      · exact ⟨by omega, by omega⟩
  · refine sg_35_5 _ _ _ ?_
    rw [s2]
    exact ⟨fun _ => second f hf, fun z => absurd (tp_le.mpr (Int.le_refl _)) z⟩
def gp_g (σ : tp_St) (y : Int32) (n : Nat) : Int32 := tp_fo (fun i x => if σ.1 16 i = y then (if x < σ.1 18 i then σ.1 18 i else x) else x) n (-1)
theorem sp_36 {σ : tp_St} {y : Int32} {nS : Nat} (hn : σ.1 4 4 = nI nS) (hs : nS ≤ 200) : tp_val 36 [.ref 4, .int y, .null, .null] σ (gp_g σ y nS) := by
  intro post hp
  refine sg_36_0 _ ?_
  refine tp_fold (E := fun i x => tp_E 36 4 [.ref 4, .int y, .int x, .int (nI i)] [] σ post) (step := fun i x => if σ.1 16 i = y then (if x < σ.1 18 i then σ.1 18 i else x) else x) (n := nS) (a := -1) (fun i x hi g => ?_) ?_
  · refine sg_36_4 _ _ _ ?_
    rw [tp_c (show i < 1000000 by omega), hn]
    simp only [nI_1]
    refine ⟨fun z => absurd z (tp_nle hi (by omega)), fun _ => ⟨tp_vi (by omega) (by omega), fun z => ⟨tp_vi (by omega) (by omega), ?_⟩, fun z => ?_⟩⟩
    · rw [if_pos z] at g; exact g
    · rw [if_neg z] at g; exact g
  · refine sg_36_4 _ _ _ ?_
    rw [hn]
    exact ⟨fun _ => hp, fun z => absurd (tp_le.mpr (Int.le_refl _)) z⟩
def gp_a (σ : tp_St) (y nS : Nat) (L : Int32) (r : Int32) : Prop := (∃ x : Nat, nI x < L ∧ x < 1000000 ∧ ¬ gp_h σ y nS x ∧ (∀ z, z < x → gp_h σ y nS z) ∧ r = nI x) ∨ ((∀ x : Nat, x < 1000000 → nI x < L → gp_h σ y nS x) ∧ r = -4)
theorem gp_class {σ : tp_St} {y nT nR nS : Nat} (hT : RT σ nT) (hP : RP σ) (hS : RS σ nT nR nS) (hy : y < 5) {post : Int32 → tp_St → Prop} {L : Int32} (hp : ∀ r, gp_a σ y nS L r → post r σ) : ∀ d i n, i + d = 206 → n ≤ 101001 → (∀ z, z < n → gp_h σ y nS z) → gp_M σ y nS n + i ≤ 206 → tp_E 78 27 [.ref 0, .int (nI y), .int L, .int (nI n), .int (nI i), .null] [] σ post := by
  intro d
  induction d with
  | zero =>
    intro i n hd hn hh hM
    refine sg_78_27 _ _ _ _ ?_
    simp only [nI_1]
    rw [show (206 : Int32) = nI 206 from rfl]
    refine ⟨fun z => absurd z (tp_nlt (by omega) (by omega)), fun _ => ⟨fun z => hp _ (Or.inr ⟨fun x hx hl => hh x ?_, rfl⟩), fun z => sp_100 hT hP hS hy hn hh (fun f hf => ?_)⟩⟩
    · rw [tp_lt, tp_t hx] at hl; rw [tp_le, tp_t (show n < 1000000 by omega)] at z; omega
    · obtain ⟨f1, f2, f3⟩ := hf
      rcases f3 with f3 | f3
      · rw [f3.1]
        refine ⟨fun _ => hp _ (Or.inl ⟨n, ?_, by omega, f3.2, hh, rfl⟩), fun w => absurd rfl w⟩
        rw [tp_le] at z; rw [tp_lt]; omega
      · omega
  | succ d ih =>
    intro i n hd hn hh hM
    refine sg_78_27 _ _ _ _ ?_
    simp only [nI_1]
    rw [show (206 : Int32) = nI 206 from rfl]
    refine ⟨fun z => absurd z (tp_nlt (by omega) (by omega)), fun _ => ⟨fun z => hp _ (Or.inr ⟨fun x hx hl => hh x ?_, rfl⟩), fun z => sp_100 hT hP hS hy hn hh (fun f hf => ?_)⟩⟩
    · rw [tp_lt, tp_t hx] at hl; rw [tp_le, tp_t (show n < 1000000 by omega)] at z; omega
    · obtain ⟨f1, f2, f3⟩ := hf
      rcases f3 with f3 | f3
      · rw [f3.1]
        refine ⟨fun _ => hp _ (Or.inl ⟨n, ?_, by omega, f3.2, hh, rfl⟩), fun w => absurd rfl w⟩
        rw [tp_le] at z; rw [tp_lt]; omega
      · refine ⟨fun w => ?_, fun _ => ih (i + 1) f (by omega) f1 f2 (by omega)⟩
        rw [tp_ne (by omega) (by omega)] at w; omega
theorem gp_model {σ : tp_St} {y nT nR nS : Nat} (hT : RT σ nT) (hP : RP σ) (hS : RS σ nT nR nS) (hy : y < 5) {post : Int32 → tp_St → Prop} {L r : Int32} (hp : post r σ) (ha : gp_a σ y nS L r) : ∀ d n : Nat, L.toInt ≤ n + d → n ≤ 101001 → (∀ z, z < n → gp_h σ y nS z) → tp_E 126 69 [.ref 58, .int (nI y), .int L, .int (nI n), .null, .null, .null] [] σ post := by
  obtain ⟨s1, s2, s3, s4⟩ := id hS
  intro d
  induction d with
  | zero =>
    intro n hd hn hh
    refine sg_126_69 _ _ _ ⟨fun _ => ?_, fun z => absurd (by rw [tp_le, tp_t (by omega)]; omega) z⟩
    rcases ha with ⟨x, x1, x2, x3, x4, x5⟩ | ⟨-, x5⟩
    · rw [tp_lt, tp_t x2] at x1
      exact absurd (hh x (by omega)) x3
    · rw [← x5]; exact hp
  | succ d ih =>
    intro n hd hn hh
    refine sg_126_69 _ _ _ ⟨fun z => ?_, fun hlt => ?_⟩
    · rw [tp_le, tp_t (by omega)] at z
      rcases ha with ⟨x, x1, x2, x3, x4, x5⟩ | ⟨-, x5⟩
      · rw [tp_lt, tp_t x2] at x1
        exact absurd (hh x (by omega)) x3
      · rw [← x5]; exact hp
    · have fin : ∀ f, f ≤ 101001 → (∀ z, z < f → gp_h σ y nS z) → ((f = n ∧ ¬ gp_h σ y nS n) ∨ n < f) → (nI f = nI n → post (nI n) σ) ∧ (¬ nI f = nI n → tp_E 126 69 [.ref 58, .int (nI y), .int L, .int (nI f), .null, .null, .null] [] σ post) := fun f f1 f2 f3 => by
        rcases f3 with f3 | f3
        · refine ⟨fun _ => ?_, fun w => absurd (by rw [f3.1]) w⟩
          have hL : nI n < L := by rw [tp_le] at hlt; rw [tp_lt]; omega
          rcases ha with ⟨x, x1, x2, x3, x4, x5⟩ | ⟨x4, -⟩
          · have : x = n := by
              rcases Nat.lt_trichotomy x n with h | h | h
              · exact absurd (hh x h) x3
              · exact h
              · exact absurd (x4 n h) f3.2
            rw [← this, ← x5]; exact hp
          · exact absurd (x4 n (by omega) hL) f3.2
        · exact ⟨fun w => by rw [tp_ne (by omega) (by omega)] at w; omega, fun _ => ih f (by omega) f1 f2⟩
      have second : ∀ f, f ≤ 101001 → (∀ z, z < f → gp_h σ y nS z) → ((f = n ∧ ∀ k, k < nS → ¬ gp_s σ y k n) ∨ n < f) → tp_E 126 130 [.ref 58, .int (nI y), .int L, .int (nI n), .int (nI f), .int 0, .null] [] σ post := by
        intro f f1 f2 f3
        refine tp_up_loop (E := fun i => ∀ f, f ≤ 101001 → (∀ z, z < f → gp_h σ y nS z) → ((f = n ∧ (∀ k, k < nS → ¬ gp_s σ y k n) ∧ ∀ c, c < i → ¬ gp_k σ y c n) ∨ n < f) → tp_E 126 130 [.ref 58, .int (nI y), .int L, .int (nI n), .int (nI f), .int (nI i), .null] [] σ post) (n := 6) (fun i hi g f f1 f2 f3 => ?_) (fun f f1 f2 f3 => ?_) 0 (Nat.zero_le _) f f1 f2 (f3.imp (fun z => ⟨z.1, z.2, fun c hc => absurd hc (by omega)⟩) id)
        · obtain ⟨p1, p2, p3, p4, p5⟩ := hP i y hi hy
          obtain ⟨l, hl, el⟩ := tp_rg_of (hi := 101000) (x := σ.1 (52 + i) y) (by omega) p5 (by omega)
          refine sg_126_130 _ _ _ _ _ ?_
          rw [tp_5c, tp_c (show 5 * i + y < 1000000 by omega), p1, p2]
          simp only [nI_1]
          rw [show (6 : Int32) = nI 6 from rfl]
          have hv := tp_vi (show 5 * i + y < 30 by omega) (by omega)
          have keep : ¬ gp_k σ y i n → ((f = n ∧ (∀ k, k < nS → ¬ gp_s σ y k n) ∧ ∀ c, c < i + 1 → ¬ gp_k σ y c n) ∨ n < f) := fun z => f3.imp (fun w => ⟨w.1, w.2.1, fun c hc => by
            by_cases e : c = i
            · rw [e]; exact z
            · exact w.2.2 c (by omega)⟩) id
          refine ⟨fun z => absurd z (tp_nle hi (by omega)), fun _ => ⟨hv, fun z => g f f1 f2 (keep (fun w => ?_)), fun z => ⟨hv, fun z2 => g f f1 f2 (keep (fun w => ?_)), fun z2 => ⟨hv, ?_⟩⟩⟩⟩
          · rw [tp_lt, tp_t (by omega)] at z; have := w.1; omega
          · rw [tp_le, tp_t (show n < 1000000 by omega)] at z2; have := w.2; omega
          · rw [tp_lt, tp_t (by omega)] at z
            rw [el, tp_leN (by omega) (by omega)] at z2
            rw [el]
            refine g l (by omega) (fun x hx => ?_) (Or.inr (by omega))
            by_cases hx2 : x < n
            · exact hh x hx2
            · exact Or.inr ⟨i, hi, by omega, by rw [el, tp_t (by omega)]; omega⟩
        · refine sg_126_130 _ _ _ _ _ ?_
          rw [show (6 : Int32) = nI 6 from rfl]
          refine ⟨fun _ => fin f f1 f2 (f3.imp (fun z => ⟨z.1, fun w => ?_⟩) id), fun z => absurd (tp_le.mpr (Int.le_refl _)) z⟩
          rcases w with ⟨k, hk, w⟩ | ⟨c, hc, w⟩
          · exact z.2.1 k hk w
          · exact z.2.2 c hc w
      refine tp_up_loop (E := fun i => ∀ f, f ≤ 101001 → (∀ z, z < f → gp_h σ y nS z) → ((f = n ∧ ∀ k, k < i → ¬ gp_s σ y k n) ∨ n < f) → tp_E 126 80 [.ref 58, .int (nI y), .int L, .int (nI n), .int (nI f), .int (nI i), .null] [] σ post) (n := nS) (fun i hi g f f1 f2 f3 => ?_) (fun f f1 f2 f3 => ?_) 0 (Nat.zero_le _) n hn hh (Or.inl ⟨rfl, fun k hk => absurd hk (by omega)⟩)
      · refine sg_126_80 _ _ _ _ _ ?_
        obtain ⟨-, ⟨v, v1, v2, v3⟩, e69, -, e18⟩ := s4 i hi
        rw [tp_c (show i < 1000000 by omega), s3, e69, v3, ← v2]
        simp only [nI_1]
        have keep : ¬ gp_s σ y i n → ((f = n ∧ ∀ k, k < i + 1 → ¬ gp_s σ y k n) ∨ n < f) := fun z => f3.imp (fun w => ⟨w.1, fun k hk => by
          by_cases e : k = i
          · rw [e]; exact z
          · exact w.2 k (by omega)⟩) id
        refine ⟨fun z => absurd z (tp_nle hi (by omega)), fun _ => ⟨tp_vi (by omega) (by omega), fun z => ⟨tp_vi (by omega) (by omega), fun z2 => ?_, fun z2 => g f f1 f2 (keep (fun w => z2 w.2))⟩, fun z => g f f1 f2 (keep (fun w => z w.1))⟩⟩
        have hf0 : n ≤ 101000 := by have := e18.2; rw [z2, tp_t (by omega)] at this; omega
        refine g (n + 1) (by omega) (fun x hx => ?_) (Or.inr (by omega))
        by_cases hx2 : x < n
        · exact hh x hx2
        · rw [show x = n by omega]; exact Or.inl ⟨i, hi, z, z2⟩
      · refine sg_126_80 _ _ _ _ _ ?_
        rw [s3]
        exact ⟨fun _ => second f f1 f2 f3, fun z => absurd (tp_le.mpr (Int.le_refl _)) z⟩
theorem op_gap {σ : tp_St} {y : Int32} (h : RR_all σ) : tp_E 78 0 [.ref 0, .int y, .null, .null, .null, .null] [] σ (tp_Res 126 [.ref 58, .int y, .null, .null, .null, .null, .null]) := by
  obtain ⟨nT, nR, nS, nB, nD, hT, hP, hR, hS, hH, hA, hL, hD, hK⟩ := id h
  obtain ⟨t1, t2, t3, t4⟩ := id hT
  obtain ⟨s1, s2, s3, s4⟩ := id hS
  refine sg_78_0 _ (tp_if (sp_59 t2 (by omega)) (fun q1 => ?_) (fun q1 => ?_))
  · obtain ⟨v, hv, rfl⟩ := tp_rg_nI (x := y) (hi := nT - 1) ⟨q1.1, by omega⟩ (by omega)
    have hM := gp_M_le σ v nS 0
    refine sp_36 s2 s1 _ (gp_class hT hP hS (show v < 5 by omega) (fun r hr => ?_) 206 0 0 (by omega) (by omega) (fun z hz => absurd hz (by omega)) (by omega))
    refine sg_126_0 _ (tp_if (sp_101 tp_i64 (l := 0) rfl (h := (nT : Int) - 1) (by rw [tp_i64, t3, tp_pred (by omega)])) (fun p => ?_) (fun p => by omega))
    refine tp_fold (E := fun i x => tp_E 126 22 [.ref 58, .int (nI v), .int x, .int (nI i), .null, .null, .null] [] σ _) (step := fun i x => if σ.1 16 i = nI v then (if x < σ.1 18 i then σ.1 18 i else x) else x) (n := nS) (a := -1) (fun i x hi g => ?_) ?_
    · refine sg_126_22 _ _ _ ?_
      obtain ⟨-, ⟨u, u1, u2, u3⟩, e69, -, e18⟩ := s4 i hi
      rw [tp_c (show i < 1000000 by omega), s3, e69, u3, ← u2]
      simp only [nI_1]
      refine ⟨fun z => absurd z (tp_nle hi (by omega)), fun _ => ⟨tp_vi (by omega) (by omega), fun z => ⟨tp_vi (by omega) (by omega), fun z2 => ?_, fun z2 => ⟨tp_vi (by omega) (by omega), ?_⟩⟩, fun z => ?_⟩⟩
      · rw [if_pos z, if_neg (by rw [tp_le] at z2; rw [tp_lt]; omega)] at g; exact g
      · rw [if_pos z, if_pos (by rw [tp_le] at z2; rw [tp_lt]; omega)] at g; exact g
      · rw [if_neg z] at g; exact g
    · refine sg_126_22 _ _ _ ?_
      rw [s3]
      refine ⟨fun _ => ?_, fun z => absurd (tp_le.mpr (Int.le_refl _)) z⟩
      exact gp_model hT hP hS (show v < 5 by omega) (r := r) (L := gp_g σ (nI v) nS) ⟨rfl, h⟩ hr (gp_g σ (nI v) nS).toInt.toNat 0 (by omega) (by omega) (fun z hz => absurd hz (by omega))
  · exact sg_126_0 _ (tp_if (sp_101 tp_i64 (l := 0) rfl (h := (nT : Int) - 1) (by rw [tp_i64, t3, tp_pred (by omega)])) (fun p => by omega) (fun p => ⟨rfl, h⟩))
