/-! crews asked for -/
theorem RR_M {σ υ : tp_St} {n : Nat} (h : RR_all σ) (hM : du_M σ n n υ) : RR_all υ := RR_free h (fun o j ho => hM.1 o j (fun w => ho (by unfold fre; omega))) hM.2.1
theorem du_all {g : tp_St} {n d : Nat} (h : du g n) (hd : d < n) : ∃ c, (du_s g n n).1 d = some c ∧ c < 10 ∧ c < (du_s g n n).2.2 := by
  have h1 := ct_all (du_I h (Nat.le_refl n)).2.2.2 d hd
  cases q : (du_s g n n).1 d with
  | none => rw [q] at h1; cases h1
  | some c => exact ⟨c, rfl, du_lt h (Nat.le_refl n) hd q, ((du_I h (Nat.le_refl n)).2.1 d c hd q).1⟩
theorem RC_31 {g : tp_St} {n d c : Nat} (h : RC g n) (hd : d < n) (e : (du_s g n n).1 d = some c) : g.1 31 d = nI c := by
  obtain ⟨c', h1, h2⟩ := h.2 d hd
  have h1 : (du_s g n n).1 d = some c' := h1
  rw [e] at h1
  cases h1
  exact h2
theorem RC_75 {g : tp_St} {n : Nat} (h : RC g n) : g.1 7 5 = nI (du_s g n n).2.2 := h.1
theorem M_81 {g υ : tp_St} {n d c : Nat} (h : du_M g n n υ) (hd : d < n) (e : (du_s g n n).1 d = some c) : υ.1 81 d = nI c := by rw [h.2.2.2 d hd, e]; rfl
theorem op_crew {σ : tp_St} {a : Int32} (h : RR_all σ) : tp_E 87 0 [.ref 0, .int a] [] σ (tp_Res 144 [.ref 58, .int a]) := by
  obtain ⟨nT, nR, nS, nB, nD, hT, hP, hR, hS, hH, hA, hL, ⟨h0, hC⟩, hK⟩ := id h
  have hdu := RD_du h0
  obtain ⟨d1, d2, d3, d4, d5, d6⟩ := id h0
  refine sg_87_0 _ (tp_if (sp_91 (l := 0) rfl (h := (nD : Int) - 1) (by rw [d2, tp_pred (by omega)])) (fun q => sg_144_0 _ (tp_if (sp_101 tp_i64 (l := 0) rfl (h := (nD : Int) - 1) (by rw [tp_i64, d3, tp_pred (by omega)])) (fun p => by omega) (fun _ => ⟨rfl, h⟩))) (fun q => ?_))
  obtain ⟨d, hd, rfl⟩ := tp_rg_nI (x := a) (hi := nD - 1) ⟨by omega, by omega⟩ (by omega)
  have hdn : d < nD := by rw [tp_t (by omega)] at q; omega
  obtain ⟨c, e1, e2, e3⟩ := du_all hdu hdn
  rw [tp_c (show d < 1000000 by omega)]
  refine ⟨tp_vi (by omega) (by omega), sg_144_0 _ (tp_if (sp_101 tp_i64 (l := 0) rfl (h := (nD : Int) - 1) (by rw [tp_i64, d3, tp_pred (by omega)])) (fun _ => sp_142 h0 (fun _ _ _ => rfl) rfl (fun υ hM => ?_)) (fun p => by omega))⟩
  rw [tp_c (show d < 1000000 by omega), M_81 hM hdn e1, RC_31 hC hdn e1]
  exact ⟨tp_vi (by omega) (by omega), rfl, RR_M h hM⟩
/-- a crew's minutes -/
def mi (σ : tp_St) (c : Nat) (n : Nat) : Int32 := tp_fo (fun d x => if σ.1 31 d = nI c then x + (σ.1 29 d - σ.1 28 d) else x) n 0
theorem sp_24 {σ : tp_St} {c n : Nat} (hn : n ≤ 10) (h4 : σ.1 7 4 = nI n) : tp_val 24 [.ref 7, .int (nI c), .null, .null] σ (mi σ c n) := by
  intro post hp
  refine sg_24_0 _ ?_
  refine tp_fold (E := fun i x => tp_E 24 4 [.ref 7, .int (nI c), .int x, .int (nI i)] [] σ post) (step := fun d x => if σ.1 31 d = nI c then x + (σ.1 29 d - σ.1 28 d) else x) (n := n) (a := 0) (fun i x hi g => ?_) ?_
  · refine sg_24_4 _ _ _ ?_
    rw [tp_c (show i < 1000000 by omega), h4]
    simp only [nI_1]
    have hv := tp_vi (show i < 10 by omega) (by omega)
    refine ⟨fun z => absurd z (tp_nle hi (by omega)), fun _ => ⟨hv, fun z => ⟨hv, hv, ?_⟩, fun z => ?_⟩⟩
    · rw [if_pos z] at g; exact g
    · rw [if_neg z] at g; exact g
  · refine sg_24_4 _ _ _ ?_
    rw [h4]
    exact ⟨fun _ => hp, fun z => absurd (tp_le.mpr (Int.le_refl _)) z⟩
theorem sp_145 {g υ : tp_St} {c n : Nat} (h0 : RD0 g n) (hC : RC g n) (hM : du_M g n n υ) : tp_val 145 [.ref 58, .int (nI c), .null, .null] υ (mi g c n) := by
  intro post hp
  have hdu := RD_du h0
  obtain ⟨d1, d2, d3, d4, d5, d6⟩ := id h0
  have e38 : υ.1 58 38 = nI n := (hM.1 58 38 (by omega)).trans d3
  refine sg_145_0 _ ?_
  refine tp_fold (E := fun i x => tp_E 145 4 [.ref 58, .int (nI c), .int x, .int (nI i)] [] υ post) (step := fun d x => if g.1 31 d = nI c then x + (g.1 29 d - g.1 28 d) else x) (n := n) (a := 0) (fun i x hi z => ?_) ?_
  · obtain ⟨c', e1, e2, e3⟩ := du_all hdu hi
    refine sg_145_4 _ _ _ ?_
    rw [tp_c (show i < 1000000 by omega), e38, M_81 hM hi e1, hM.1 80 i (by omega), hM.1 79 i (by omega), (d4 i hi).1, (d4 i hi).2.1]
    rw [RC_31 hC hi e1] at z
    simp only [nI_1, Int32.add_zero]
    have hv := tp_vi (show i < 10 by omega) (by omega)
    refine ⟨fun w => absurd w (tp_nle hi (by omega)), fun _ => ⟨hv, fun w => ⟨hv, hv, ?_⟩, fun w => ?_⟩⟩
    · rw [if_pos w] at z; exact z
    · rw [if_neg w] at z; exact z
  · refine sg_145_4 _ _ _ ?_
    rw [e38]
    exact ⟨fun _ => hp, fun w => absurd (tp_le.mpr (Int.le_refl _)) w⟩
theorem mi_b {σ : tp_St} {c n : Nat} (h : du σ n) : ∀ i, i ≤ n → 0 ≤ (mi σ c i).toInt ∧ (mi σ c i).toInt ≤ 1440 * (i : Int) ∧ ((∃ d, d < i ∧ σ.1 31 d = nI c) → 0 < (mi σ c i).toInt)
  | 0, _ => ⟨Int.le_refl 0, Int.le_refl 0, fun ⟨d, hd, _⟩ => absurd hd (Nat.not_lt_zero d)⟩
  | i + 1, hi => by
    obtain ⟨b1, b2, b3⟩ := mi_b (c := c) h i (by omega)
    obtain ⟨n10, hd, hr⟩ := id h
    obtain ⟨x1, x2, x3⟩ := hd i (by omega)
    have e : mi σ c (i + 1) = if σ.1 31 i = nI c then mi σ c i + (σ.1 29 i - σ.1 28 i) else mi σ c i := rfl
    rw [e]
    by_cases q : σ.1 31 i = nI c
    · rw [if_pos q]
      have e2 : (mi σ c i + (σ.1 29 i - σ.1 28 i)).toInt = (mi σ c i).toInt + ((σ.1 29 i).toInt - (σ.1 28 i).toInt) := by
        rw [Int32.toInt_add, Int32.toInt_sub]
        simp only [Int.bmod_def]
        omega
      rw [e2]
      refine ⟨by omega, by omega, fun _ => by omega⟩
    · rw [if_neg q]
      refine ⟨b1, by omega, fun ⟨d, d1, d2⟩ => b3 ⟨d, ?_, d2⟩⟩
      by_cases w : d = i
      · subst w; exact absurd d2 q
      · omega
/-- the least of the crews that have the most minutes -/
def bu (σ : tp_St) (n u c : Nat) : Prop := c < u ∧ (∀ j, j < u → (mi σ j n).toInt ≤ (mi σ c n).toInt) ∧ ∀ j, j < c → (mi σ j n).toInt < (mi σ c n).toInt
theorem bu_u {σ : tp_St} {n u c c' : Nat} (h : bu σ n u c) (h' : bu σ n u c') : c = c' := by
  obtain ⟨a1, a2, a3⟩ := h
  obtain ⟨b1, b2, b3⟩ := h'
  rcases Nat.lt_trichotomy c c' with q | q | q
  · have := b3 c q; have := a2 c' b1; omega
  · exact q
  · have := a3 c' q; have := b2 c a1; omega
theorem sp_25 {σ : tp_St} {n : Nat} {post : Int32 → tp_St → Prop} (h0 : RD0 σ n) (hC : RC σ n) (h1 : (du_s σ n n).2.2 = 0 → post (-1) σ) (h2 : ∀ c, bu σ n (du_s σ n n).2.2 c → post (nI c) σ) : tp_E 25 0 [.ref 7, .null, .null, .null, .null] [] σ post := by
  have hdu := RD_du h0
  obtain ⟨i1, i2, i3, i4⟩ := du_I hdu (Nat.le_refl n)
  have n10 := h0.1
  have e75 := RC_75 hC
  refine sg_25_0 ?_
  generalize hu : (du_s σ n n).2.2 = u at *
  have pos : ∀ c, c < u → 0 < (mi σ c n).toInt := fun c hc => by
    obtain ⟨d, d1, d2, -⟩ := i3 c hc
    exact (mi_b hdu n (Nat.le_refl n)).2.2 ⟨d, d1, RC_31 hC d1 d2⟩
  refine tp_up_loop (E := fun i => ∀ b m, ((i = 0 ∧ b = -1 ∧ m = 0) ∨ ∃ c, b = nI c ∧ m = mi σ c n ∧ bu σ n i c) → tp_E 25 6 [.ref 7, .int b, .int m, .int (nI i), .null] [] σ post) (n := u) (fun i hi z b m hb => ?_) (fun b m hb => ?_) 0 (Nat.zero_le _) _ _ (Or.inl ⟨rfl, rfl, rfl⟩)
  · refine sg_25_6 _ _ _ ?_
    rw [e75]
    simp only [nI_1]
    refine ⟨fun w => absurd w (tp_nle hi (by omega)), fun _ => sp_24 n10 h0.2.1 _ ⟨fun w => z b m (Or.inr ?_), fun w => z _ _ (Or.inr ⟨i, rfl, rfl, by omega, fun j hj => ?_, fun j hj => ?_⟩)⟩⟩
    · rcases hb with ⟨-, -, b3⟩ | ⟨c, b1, b2, b3, b4, b5⟩
      · rw [b3, tp_le] at w
        have : (mi σ i n).toInt ≤ 0 := w
        have := pos i hi
        omega
      · refine ⟨c, b1, b2, by omega, fun j hj => ?_, b5⟩
        by_cases q : j = i
        · rw [q, ← b2]; exact tp_le.mp w
        · exact b4 j (by omega)
    · by_cases q : j = i
      · rw [q]; exact Int.le_refl _
      · rcases hb with ⟨b1, -, -⟩ | ⟨c, b1, b2, b3, b4, b5⟩
        · omega
        · rw [tp_le, b2] at w
          have := b4 j (by omega)
          omega
    · rcases hb with ⟨b1, -, -⟩ | ⟨c, b1, b2, b3, b4, b5⟩
      · omega
      · rw [tp_le, b2] at w
        have := b4 j hj
        omega
  · refine sg_25_6 _ _ _ ?_
    rw [e75]
    refine ⟨fun _ => ?_, fun w => absurd (tp_le.mpr (Int.le_refl _)) w⟩
    rcases hb with ⟨b1, b2, -⟩ | ⟨c, b1, -, b3⟩
    · rw [b2]; exact h1 b1
    · rw [b1]; exact h2 c b3
theorem op_crews {σ : tp_St} {a : Int32} (h : RR_all σ) : tp_E 88 0 [.ref 0, .int a, .null] [] σ (tp_Res 146 [.ref 58, .int a, .null, .null]) := by
  obtain ⟨nT, nR, nS, nB, nD, hT, hP, hR, hS, hH, hA, hL, ⟨h0, hC⟩, hK⟩ := id h
  have hdu := RD_du h0
  obtain ⟨i1, i2, i3, i4⟩ := du_I hdu (Nat.le_refl nD)
  obtain ⟨d1, d2, d3, d4, d5, d6⟩ := id h0
  refine sg_88_0 _ (tp_if (sp_91 (l := 0) rfl (h := 2) rfl) (fun q => sg_146_0 _ (tp_if (sp_101 tp_i64 (l := 0) rfl (h := 2) rfl) (fun p => by omega) (fun _ => ⟨rfl, h⟩))) (fun q => ?_))
  have model : ∀ r, (a = 0 → r = nI (du_s σ nD nD).2.2) → (¬ a = 0 → (du_s σ nD nD).2.2 = 0 → (a = 2 → r = -4) ∧ (¬ a = 2 → r = 0)) → (¬ a = 0 → ∀ c, bu σ nD (du_s σ nD nD).2.2 c → (a = 2 → r = nI c) ∧ (¬ a = 2 → r = mi σ c nD)) → tp_Res 146 [.ref 58, .int a, .null, .null] r σ := fun r e1 e2 e3 => by
    refine sg_146_0 _ (tp_if (sp_101 tp_i64 (l := 0) rfl (h := 2) rfl) (fun _ => sp_142 h0 (fun _ _ _ => rfl) rfl (fun υ hM => ?_)) (fun p => absurd ⟨by omega, by omega⟩ p))
    have hfin := RR_M h hM
    rw [hM.2.2.1]
    generalize hu : (du_s σ nD nD).2.2 = u at *
    have key : ∀ i, i ≤ u → ∀ b : Option Nat, ((i = u ∧ b = none) ∨ ∃ c, b = some c ∧ i ≤ c ∧ c < u ∧ (∀ j, i ≤ j → j < u → (mi σ j nD).toInt ≤ (mi σ c nD).toInt) ∧ ∀ j, i ≤ j → j < c → (mi σ j nD).toInt < (mi σ c nD).toInt) → tp_E 146 28 [.ref 58, .int a, .int (cr_x (-4) b), .int (nI i - 1)] [] υ (fun r' σ2 => r = r' ∧ RR_all σ2) := by
      intro i
      induction i with
      | zero =>
        intro hi b hb
        refine sg_146_28 _ _ _ ?_
        rw [tp_neg1, hM.2.2.1, hu]
        refine ⟨fun _ => ⟨fun w => ⟨e1 w, hfin⟩, fun w => ?_⟩, fun w => absurd (by decide) w⟩
        rcases hb with ⟨b1, b2⟩ | ⟨c, b1, b2, b3, b4, b5⟩
        · rw [b2]
          obtain ⟨f1, f2⟩ := e2 w b1.symm
          exact ⟨fun w2 => ⟨f1 w2, hfin⟩, fun w2 => ⟨fun _ => ⟨f2 w2, hfin⟩, fun w3 => absurd rfl w3⟩⟩
        · rw [b1]
          obtain ⟨f1, f2⟩ := e3 w c ⟨b3, fun j hj => b4 j (Nat.zero_le _) hj, fun j hj => b5 j (Nat.zero_le _) hj⟩
          refine ⟨fun w2 => ⟨f1 w2, hfin⟩, fun w2 => ⟨fun w3 => ?_, fun _ => sp_145 h0 hC hM _ ⟨f2 w2, hfin⟩⟩⟩
          rw [cr_x_none (by decide) (fun e he => by cases he; omega)] at w3
          cases w3
      | succ i ih =>
        intro hi b hb
        refine sg_146_28 _ _ _ ?_
        rw [nI_pred, tp_m1]
        have hlt : ¬ nI i < 0 := by rw [tp_lt, tp_t (by omega)]; show ¬ (i : Int) < 0; omega
        refine ⟨fun w => absurd w hlt, fun _ => ?_⟩
        rcases hb with ⟨b1, b2⟩ | ⟨c, b1, b2, b3, b4, b5⟩
        · rw [b2]
          refine ⟨fun _ => ih (by omega) (some i) (Or.inr ⟨i, rfl, Nat.le_refl i, by omega, fun j h1 h2 => ?_, fun j h1 h2 => by omega⟩), fun w => absurd rfl w⟩
          rw [show j = i by omega]; exact Int.le_refl _
        · rw [b1]
          refine ⟨fun w => ?_, fun _ => sp_145 h0 hC hM _ (sp_145 (c := c) h0 hC hM _ ⟨fun w => ih (by omega) (some c) (Or.inr ⟨c, rfl, by omega, b3, fun j h1 h2 => ?_, fun j h1 h2 => ?_⟩), fun w => ih (by omega) (some i) (Or.inr ⟨i, rfl, Nat.le_refl i, by omega, fun j h1 h2 => ?_, fun j h1 h2 => by omega⟩)⟩)⟩
          · rw [cr_x_none (by decide) (fun e he => by cases he; omega)] at w
            cases w
          · rw [tp_lt] at w
            by_cases q : j = i
            · rw [q]; omega
            · exact b4 j (by omega) h2
          · rw [tp_lt] at w
            by_cases q : j = i
            · rw [q]; exact w
            · exact b5 j (by omega) h2
          · rw [tp_lt] at w
            by_cases q : j = i
            · rw [q]; exact Int.le_refl _
            · have := b4 j (by omega) h2; omega
    exact key u (Nat.le_refl u) none (Or.inl ⟨rfl, rfl⟩)
  refine ⟨fun z => ?_, fun z => ?_⟩
  · rw [RC_75 hC]
    exact model _ (fun _ => rfl) (fun y => absurd z y) (fun y => absurd z y)
  · have no : ¬ ((0 : Int32) ≤ -1) := by decide
    have h12 : ¬ a = 2 → a = 1 := fun w => by
      rw [tp_eq] at z w ⊢
      have : ¬ a.toInt = 0 := z
      have : ¬ a.toInt = 2 := w
      show a.toInt = 1
      omega
    refine sp_25 h0 hC (fun hu => ?_) (fun c hc => ?_)
    · have uniq : ∀ c, ¬ bu σ nD (du_s σ nD nD).2.2 c := fun c hc => by have := hc.1; omega
      refine ⟨fun w => ⟨fun y => absurd y no, fun _ => ?_⟩, fun w => ⟨fun y => absurd y no, fun _ => ?_⟩⟩
      · exact model _ (fun y => absurd y z) (fun _ _ => ⟨fun y => by rw [w] at y; exact absurd y (by decide), fun _ => rfl⟩) (fun _ c hc => absurd hc (uniq c))
      · exact model _ (fun y => absurd y z) (fun _ _ => ⟨fun _ => rfl, fun y => absurd (h12 y) w⟩) (fun _ c hc => absurd hc (uniq c))
    · have hpos : (0 : Int32) ≤ nI c := by
        have := hc.1
        have := h0.1
        rw [tp_le, tp_t (by omega)]
        show (0 : Int) ≤ c
        omega
      have hne : ¬ (du_s σ nD nD).2.2 = 0 := fun y => by have := hc.1; omega
      refine ⟨fun w => ⟨fun _ => sp_24 d1 d2 _ ?_, fun y => absurd hpos y⟩, fun w => ⟨fun _ => ?_, fun y => absurd hpos y⟩⟩
      · exact model _ (fun y => absurd y z) (fun _ y => absurd y hne) (fun _ c' hc' => ⟨fun y => by rw [w] at y; exact absurd y (by decide), fun _ => by rw [bu_u hc' hc]⟩)
      · exact model _ (fun y => absurd y z) (fun _ y => absurd y hne) (fun _ c' hc' => ⟨fun _ => by rw [bu_u hc' hc], fun y => absurd (h12 y) w⟩)
/-! a crew that is ill -/
def il_r (σ : tp_St) (i d : Nat) : Bool := decide (σ.1 29 i + σ.1 7 6 ≤ σ.1 28 d) || !decide (σ.1 28 i < σ.1 29 d + σ.1 7 6)
/-- whether the first i duties of a crew leave room for another duty -/
def il_h (σ : tp_St) (c d : Nat) : Nat → Bool
  | 0 => true
  | i + 1 => il_h σ c d i && (!decide (σ.1 31 i = nI c) || il_r σ i d)
/-- whether one of the first i crews, but k, could -/
def il_c (σ : tp_St) (n d : Nat) (k : Int32) : Nat → Bool
  | 0 => false
  | i + 1 => il_c σ n d k i || (!decide (nI i = k) && il_h σ i d n)
def il_n (σ : tp_St) (n u : Nat) (k : Int32) : Nat → Nat
  | 0 => 0
  | i + 1 => if σ.1 31 i = k ∧ ¬ il_c σ n i k u = true then il_n σ n u k i + 1 else il_n σ n u k i
theorem il_h_stop {σ : tp_St} {c d i : Nat} (h : il_h σ c d i = false) : ∀ e, il_h σ c d (i + e) = false
  | 0 => h
  | e + 1 => by
    show (il_h σ c d (i + e) && _) = false
    rw [il_h_stop h e, Bool.false_and]
theorem il_c_stop {σ : tp_St} {n d i : Nat} {k : Int32} (h : il_c σ n d k i = true) : ∀ e, il_c σ n d k (i + e) = true
  | 0 => h
  | e + 1 => by
    show (il_c σ n d k (i + e) || _) = true
    rw [il_c_stop h e, Bool.true_or]
theorem sp_29 {σ : tp_St} {i d : Nat} (hi : i < 10) (hd : d < 10) : tp_bool 29 [.ref 7, .int (nI i), .int (nI d)] σ (il_r σ i d = true) := by
  intro post h1 h0
  refine sg_29_0 _ _ ?_
  rw [tp_c (show i < 1000000 by omega), tp_c (show d < 1000000 by omega)]
  unfold il_r at h1 h0
  refine ⟨tp_vi hi (by omega), tp_vi hd (by omega), fun z => h1 (by simp [z]), fun z => ⟨tp_vi hd (by omega), tp_vi hi (by omega), fun w => h0 (by simp [z, w]), fun w => h1 (by simp [z, w])⟩⟩
theorem sp_28 {σ : tp_St} {c d n : Nat} (hn : n ≤ 10) (hd : d < n) (h4 : σ.1 7 4 = nI n) : tp_bool 28 [.ref 7, .int (nI c), .int (nI d), .null] σ (il_h σ c d n = true) := by
  intro post h1 h0
  refine sg_28_0 _ _ ?_
  refine tp_up_loop (E := fun i => il_h σ c d i = true → tp_E 28 2 [.ref 7, .int (nI c), .int (nI d), .int (nI i)] [] σ post) (n := n) (fun i hi z hno => ?_) (fun hno => ?_) 0 (Nat.zero_le _) rfl
  · refine sg_28_2 _ _ _ ?_
    rw [tp_c (show i < 1000000 by omega), h4]
    simp only [nI_1]
    have e : il_h σ c d (i + 1) = (!decide (σ.1 31 i = nI c) || il_r σ i d) := by
      show (il_h σ c d i && _) = _
      rw [hno, Bool.true_and]
    refine ⟨fun w => absurd w (tp_nle hi (by omega)), fun _ => ⟨tp_vi (by omega) (by omega), fun w => tp_if (sp_29 (by omega) (by omega)) (fun w2 => z (by rw [e, w2, Bool.or_true])) (fun w2 => h0 (fun w3 => ?_)), fun w => z (by rw [e, decide_eq_false w]; rfl)⟩⟩
    have e2 : il_h σ c d (i + 1) = false := by rw [e, decide_eq_true w, Bool.eq_false_iff.mpr w2]; rfl
    have := il_h_stop e2 (n - (i + 1))
    rw [show i + 1 + (n - (i + 1)) = n by omega, w3] at this
    cases this
  · refine sg_28_2 _ _ _ ?_
    rw [h4]
    exact ⟨fun _ => h1 hno, fun w => absurd (tp_le.mpr (Int.le_refl _)) w⟩
theorem sp_27 {σ : tp_St} {d n u : Nat} {k : Int32} (hn : n ≤ 10) (hd : d < n) (hu : u ≤ 10) (h4 : σ.1 7 4 = nI n) (h5 : σ.1 7 5 = nI u) (hk : σ.1 31 d = k) : tp_bool 27 [.ref 7, .int (nI d), .null] σ (il_c σ n d k u = true) := by
  intro post h1 h0
  refine sg_27_0 _ ?_
  refine tp_up_loop (E := fun i => il_c σ n d k i = false → tp_E 27 2 [.ref 7, .int (nI d), .int (nI i)] [] σ post) (n := u) (fun i hi z hno => ?_) (fun hno => ?_) 0 (Nat.zero_le _) rfl
  · refine sg_27_2 _ _ ?_
    rw [tp_c (show d < 1000000 by omega), h5, hk]
    simp only [nI_1]
    have e : il_c σ n d k (i + 1) = (!decide (nI i = k) && il_h σ i d n) := by
      show (il_c σ n d k i || _) = _
      rw [hno, Bool.false_or]
    refine ⟨fun w => absurd w (tp_nle hi (by omega)), fun _ => ⟨tp_vi (by omega) (by omega), fun w => z (by rw [e, decide_eq_true w]; rfl), fun w => tp_if (sp_28 hn hd h4) (fun w2 => h1 ?_) (fun w2 => z (by rw [e, Bool.eq_false_iff.mpr w2, Bool.and_false]))⟩⟩
    have e2 : il_c σ n d k (i + 1) = true := by rw [e, decide_eq_false w, w2]; rfl
    have := il_c_stop e2 (u - (i + 1))
    rw [show i + 1 + (u - (i + 1)) = u by omega] at this
    exact this
  · refine sg_27_2 _ _ ?_
    rw [h5]
    exact ⟨fun _ => h0 (by rw [hno]; decide), fun w => absurd (tp_le.mpr (Int.le_refl _)) w⟩
theorem sp_26 {σ : tp_St} {n u : Nat} {k : Int32} (hn : n ≤ 10) (hu : u ≤ 10) (h4 : σ.1 7 4 = nI n) (h5 : σ.1 7 5 = nI u) : tp_val 26 [.ref 7, .int k, .null, .null] σ (nI (il_n σ n u k n)) := by
  intro post hp
  refine sg_26_0 _ ?_
  refine tp_up_loop (E := fun i => tp_E 26 4 [.ref 7, .int k, .int (nI (il_n σ n u k i)), .int (nI i)] [] σ post) (n := n) (fun i hi z => ?_) ?_ 0 (Nat.zero_le _)
  · refine sg_26_4 _ _ _ ?_
    rw [tp_c (show i < 1000000 by omega), h4]
    simp only [nI_1]
    unfold il_n at z
    refine ⟨fun w => absurd w (tp_nle hi (by omega)), fun _ => ⟨tp_vi (by omega) (by omega), fun w => tp_if (sp_27 hn hi hu h4 h5 w) (fun w2 => ?_) (fun w2 => ?_), fun w => ?_⟩⟩
    · rw [if_neg (fun y => y.2 w2)] at z; exact z
    · rw [if_pos ⟨w, w2⟩] at z; exact z
    · rw [if_neg (fun y => w y.1)] at z; exact z
  · refine sg_26_4 _ _ _ ?_
    rw [h4]
    exact ⟨fun _ => hp, fun w => absurd (tp_le.mpr (Int.le_refl _)) w⟩
theorem op_ill {σ : tp_St} {a : Int32} (h : RR_all σ) : tp_E 89 0 [.ref 0, .int a] [] σ (tp_Res 147 [.ref 58, .int a, .null, .null, .null, .null, .null, .null]) := by
  obtain ⟨nT, nR, nS, nB, nD, hT, hP, hR, hS, hH, hA, hL, ⟨h0, hC⟩, hK⟩ := id h
  have hdu := RD_du h0
  obtain ⟨i1, -⟩ := du_I hdu (Nat.le_refl nD)
  obtain ⟨d1, d2, d3, d4, d5, d6⟩ := id h0
  have h5 := RC_75 hC
  have lay : ∀ post : Int32 → tp_St → Prop, (∀ υ, du_M σ nD nD υ → post 0 υ) → tp_E 142 0 [.ref 58, .null, .null, .null] [] σ post := fun post hp => sp_142 h0 (fun _ _ _ => rfl) rfl hp
  have m31 : ∀ υ, du_M σ nD nD υ → ∀ i, i < nD → υ.1 81 i = σ.1 31 i := fun υ hM i hi => by
    obtain ⟨c, e1, e2, e3⟩ := du_all hdu hi
    rw [M_81 hM hi e1, RC_31 hC hi e1]
  have m43 : ∀ υ, du_M σ nD nD υ → υ.1 58 43 = nI (du_s σ nD nD).2.2 := fun υ hM => hM.2.2.1
  generalize hu : (du_s σ nD nD).2.2 = u at *
  refine sg_89_0 _ (tp_if (sp_91 (l := 0) rfl (h := (u : Int) - 1) (by rw [h5, tp_pred (by omega)])) (fun q => sg_147_0 _ (lay _ (fun υ hM => tp_if (sp_101 tp_i64 (l := 0) rfl (h := (u : Int) - 1) (by rw [tp_i64, m43 υ hM, tp_pred (by omega)])) (fun p => by omega) (fun _ => ⟨rfl, RR_M h hM⟩)))) (fun q => ?_))
  refine sp_26 d1 (by omega) d2 h5 _ (sg_147_0 _ (lay _ (fun υ hM => tp_if (sp_101 tp_i64 (l := 0) rfl (h := (u : Int) - 1) (by rw [tp_i64, m43 υ hM, tp_pred (by omega)])) (fun p => ?_) (fun p => by omega))))
  have hfin := RR_M h hM
  have e38 : υ.1 58 38 = nI nD := (hM.1 58 38 (by omega)).trans d3
  have e43 := m43 υ hM
  have inner : ∀ (post : Int32 → tp_St → Prop) (cnt i c : Nat), i < nD → c < u → (∀ b : Bool, b = (!decide (nI c = a) && il_h σ c i nD) → tp_E 147 54 [.ref 58, .int a, .int (nI cnt), .int (nI i), .int (b01 b), .int (nI (c + 1)), .null, .null] [] υ post) → ∀ b : Bool, b = !decide (nI c = a) → tp_E 147 84 [.ref 58, .int a, .int (nI cnt), .int (nI i), .null, .int (nI c), .int (b01 b), .int 0] [] υ post := by
    intro post cnt i c hi hc hp b hb
    refine tp_up_loop (E := fun j => ∀ b : Bool, b = (!decide (nI c = a) && il_h σ c i j) → tp_E 147 84 [.ref 58, .int a, .int (nI cnt), .int (nI i), .null, .int (nI c), .int (b01 b), .int (nI j)] [] υ post) (n := nD) (fun j hj z b hb => ?_) (fun b hb => ?_) 0 (Nat.zero_le _) b (by rw [hb]; show _ = (_ && true); rw [Bool.and_true])
    · refine sg_147_84 _ _ _ _ _ _ ?_
      rw [tp_c (show i < 1000000 by omega), tp_c (show j < 1000000 by omega), e38, m31 υ hM j hj, hM.1 80 j (by omega), hM.1 79 j (by omega), hM.1 80 i (by omega), hM.1 79 i (by omega), hM.1 58 41 (by omega), (d4 j hj).1, (d4 j hj).2.1, (d4 i hi).1, (d4 i hi).2.1, d5, b01_0]
      simp only [nI_1]
      have e : ∀ x : Bool, (b && (!decide (σ.1 31 j = nI c) || il_r σ j i)) = x → x = (!decide (nI c = a) && il_h σ c i (j + 1)) := fun x hx => by
        rw [← hx, hb]
        show _ = (_ && (_ && _))
        rw [Bool.and_assoc]
      have hvj := tp_vi (show j < 10 by omega) (by omega)
      have hvi := tp_vi (show i < 10 by omega) (by omega)
      refine ⟨fun w => absurd w (tp_nle hj (by omega)), fun _ => ⟨fun w => z false (e false (by rw [Bool.eq_false_iff.mpr w, Bool.false_and])), fun w => ?_⟩⟩
      have wb : b = true := by cases b; exact absurd (by decide) w; rfl
      refine ⟨hvj, fun w2 => ⟨hvj, hvi, fun w3 => z true (e true ?_), fun w3 => ⟨hvi, hvj, fun w4 => z false (e false ?_), fun w4 => z true (e true ?_)⟩⟩, fun w2 => z true (e true ?_)⟩
      · rw [wb]; unfold il_r; simp [w3]
      · rw [wb]; unfold il_r; simp [w2, w3, w4]
      · rw [wb]; unfold il_r; simp [w4]
      · rw [wb]; simp [w2]
    · refine sg_147_84 _ _ _ _ _ _ ?_
      rw [e38]
      simp only [nI_1]
      exact ⟨fun _ => hp b hb, fun w => absurd (tp_le.mpr (Int.le_refl _)) w⟩
  refine tp_up_loop (E := fun i => tp_E 147 26 [.ref 58, .int a, .int (nI (il_n σ nD u a i)), .int (nI i), .null, .null, .null, .null] [] υ (fun r' σ2 => nI (il_n σ nD u a nD) = r' ∧ RR_all σ2)) (n := nD) (fun i hi z => ?_) ?_ 0 (Nat.zero_le _)
  · refine sg_147_26 _ _ _ ?_
    rw [e38, tp_c (show i < 1000000 by omega), m31 υ hM i hi]
    rw [show il_n σ nD u a (i + 1) = if σ.1 31 i = a ∧ ¬ il_c σ nD i a u = true then il_n σ nD u a i + 1 else il_n σ nD u a i from rfl] at z
    have loop : ∀ b0 : Bool, (∀ b : Bool, b = (b0 || il_c σ nD i a u) → (b01 b = 0 → tp_E 147 26 [.ref 58, .int a, .int (nI (il_n σ nD u a i) + 1), .int (nI (i + 1)), .null, .null, .null, .null] [] υ (fun r' σ2 => nI (il_n σ nD u a nD) = r' ∧ RR_all σ2)) ∧ (¬ b01 b = 0 → tp_E 147 26 [.ref 58, .int a, .int (nI (il_n σ nD u a i)), .int (nI (i + 1)), .null, .null, .null, .null] [] υ (fun r' σ2 => nI (il_n σ nD u a nD) = r' ∧ RR_all σ2))) → tp_E 147 54 [.ref 58, .int a, .int (nI (il_n σ nD u a i)), .int (nI i), .int (b01 b0), .int 0, .null, .null] [] υ (fun r' σ2 => nI (il_n σ nD u a nD) = r' ∧ RR_all σ2) := by
      intro b0 hb0
      refine tp_up_loop (E := fun c => ∀ b : Bool, b = (b0 || il_c σ nD i a c) → tp_E 147 54 [.ref 58, .int a, .int (nI (il_n σ nD u a i)), .int (nI i), .int (b01 b), .int (nI c), .null, .null] [] υ (fun r' σ2 => nI (il_n σ nD u a nD) = r' ∧ RR_all σ2)) (n := u) (fun c hc y b hb => ?_) (fun b hb => ?_) 0 (Nat.zero_le _) b0 (by show _ = (_ || false); rw [Bool.or_false])
      · refine sg_147_54 _ _ _ _ _ ?_
        rw [e43]
        simp only [nI_1, Int32.add_zero]
        refine ⟨fun w => absurd w (tp_nle hc (by omega)), fun _ => ⟨fun w => ?_, fun w => ?_⟩⟩
        · have wb : b = false := Bool.eq_false_iff.mpr (b01_0.mp w)
          rw [wb] at hb
          have hor := Bool.or_eq_false_iff.mp hb.symm
          have go := inner _ (il_n σ nD u a i) i c hi hc (fun b' hb' => y b' (by
            rw [hb', hor.1, Bool.false_or]
            show _ = (il_c σ nD i a c || _)
            rw [hor.2, Bool.false_or]))
          refine ⟨fun w2 => go false (by rw [decide_eq_true w2]; rfl), fun w2 => go true (by rw [decide_eq_false w2]; rfl)⟩
        · have wb : b = true := by cases b; exact absurd (by decide) w; rfl
          refine ⟨fun w2 => absurd w2 w, fun _ => ?_⟩
          refine (hb0 true ?_).2 (by decide)
          rw [wb] at hb
          rcases Bool.or_eq_true_iff.mp hb.symm with q1 | q1
          · rw [q1, Bool.true_or]
          · have := il_c_stop q1 (u - c)
            rw [show c + (u - c) = u by omega] at this
            rw [this, Bool.or_true]
      · refine sg_147_54 _ _ _ _ _ ?_
        rw [e43]
        simp only [nI_1, Int32.add_zero]
        refine ⟨fun _ => ?_, fun w => absurd (tp_le.mpr (Int.le_refl _)) w⟩
        have := hb0 b hb
        simp only [nI_1] at this
        exact this
    refine ⟨fun w => absurd w (tp_nle hi (by omega)), fun _ => ⟨tp_vi (by omega) (by omega), fun w => loop false (fun b hb => ?_), fun w => loop true (fun b hb => ?_)⟩⟩
    · rw [Bool.false_or] at hb
      refine ⟨fun w2 => ?_, fun w2 => ?_⟩
      · rw [if_pos ⟨w, by rw [← hb]; exact b01_0.mp w2⟩] at z
        rw [nI_1]; exact z
      · rw [if_neg (fun y => w2 (b01_0.mpr (by rw [hb]; exact y.2)))] at z
        exact z
    · rw [Bool.true_or] at hb
      rw [if_neg (fun y => w y.1)] at z
      exact ⟨fun w2 => by rw [hb] at w2; exact absurd w2 (by decide), fun _ => z⟩
  · refine sg_147_26 _ _ _ ?_
    rw [e38]
    exact ⟨fun _ => ⟨rfl, hfin⟩, fun w => absurd (tp_le.mpr (Int.le_refl _)) w⟩
