/-! crews: what laying them keeps -/
def cl_F (fr : Nat → Int) (cr : Nat → Option Nat) : Nat → Option Nat → Option Nat := fun d b => if cr d = none ∧ (∀ e, b = some e → fr d < fr e) then some d else b
theorem cl_first_eq {n : Nat} {fr : Nat → Int} {cr : Nat → Option Nat} : cl_first n fr cr = tp_fo (cl_F fr cr) n none := rfl
theorem cl_F_lt {fr : Nat → Int} {cr : Nat → Option Nat} : ∀ {n e}, tp_fo (cl_F fr cr) n none = some e → e < n ∧ cr e = none
  | 0, _, h => by cases h
  | n + 1, e, h => by
    have h2 : cl_F fr cr n (tp_fo (cl_F fr cr) n none) = some e := h
    unfold cl_F at h2
    split at h2
    · rename_i q
      cases h2
      exact ⟨by omega, q.1⟩
    · obtain ⟨a, b⟩ := cl_F_lt (fr := fr) (cr := cr) (n := n) h2
      exact ⟨by omega, b⟩
theorem cl_F_no {fr : Nat → Int} {cr : Nat → Option Nat} : ∀ {n}, tp_fo (cl_F fr cr) n none = none → ∀ d, d < n → ¬ cr d = none
  | 0, _, d, h => by omega
  | n + 1, h, d, hd => by
    have h2 : cl_F fr cr n (tp_fo (cl_F fr cr) n none) = none := h
    unfold cl_F at h2
    split at h2
    · cases h2
    · rename_i q
      by_cases e : d = n
      · subst e
        intro w
        refine q ⟨w, fun x hx => ?_⟩
        have h3 : tp_fo (cl_F fr cr) d none = none := h2
        rw [show (tp_fo (fun d b => if cr d = none ∧ (∀ e, b = some e → fr d < fr e) then some d else b) d none) = tp_fo (cl_F fr cr) d none from rfl] at *
        rw [h3] at hx
        cases hx
      · exact cl_F_no (n := n) h2 d (by omega)
theorem cl_crew_sp {x : Int} {ff : Nat → Int} : ∀ {d c}, c ≤ cl_crew x ff d c ∧ cl_crew x ff d c ≤ c + d ∧ (∀ j, c ≤ j → j < cl_crew x ff d c → ¬ ff j ≤ x) ∧ (cl_crew x ff d c < c + d → ff (cl_crew x ff d c) ≤ x)
  | 0, c => ⟨Nat.le_refl _, Nat.le_refl _, fun j h1 h2 => absurd h2 (by show ¬ j < c; omega), fun h => absurd h (by show ¬ c < c + 0; omega)⟩
  | d + 1, c => by
    unfold cl_crew
    split
    · rename_i h
      exact ⟨Nat.le_refl _, by omega, fun j h1 h2 => absurd h2 (by omega), fun _ => h⟩
    · rename_i h
      obtain ⟨a1, a2, a3, a4⟩ := cl_crew_sp (x := x) (ff := ff) (d := d) (c := c + 1)
      refine ⟨by omega, by omega, fun j h1 h2 => ?_, fun h2 => a4 (by omega)⟩
      by_cases e : j = c
      · rw [e]; exact h
      · exact a3 j (by omega) h2
theorem ct_all {p : Nat → Bool} : ∀ {n}, ct p n = n → ∀ d, d < n → p d = true
  | 0, _, d, h => by omega
  | n + 1, h, d, hd => by
    unfold ct at h
    have := ct_le (p := p) n
    split at h
    · rename_i q
      by_cases e : d = n
      · rw [e]; exact q
      · exact ct_all (n := n) (by omega) d (by omega)
    · omega
theorem ct_full {p : Nat → Bool} : ∀ {n}, (∀ d, d < n → p d = true) → ct p n = n
  | 0, _ => rfl
  | n + 1, h => by
    unfold ct
    rw [if_pos (h n (by omega)), ct_full (n := n) (fun d hd => h d (by omega))]
theorem ct_same {p q : Nat → Bool} : ∀ {n}, (∀ d, d < n → p d = q d) → ct p n = ct q n
  | 0, _ => rfl
  | n + 1, h => by
    unfold ct
    rw [h n (by omega), ct_same (n := n) (fun d hd => h d (by omega))]
theorem ct_up {p q : Nat → Bool} {e : Nat} (h0 : p e = false) (h1 : q e = true) (h : ∀ d, d ≠ e → q d = p d) : ∀ {n}, e < n → ct q n = ct p n + 1
  | 0, h => by omega
  | n + 1, hn => by
    by_cases q1 : e = n
    · subst q1
      unfold ct
      rw [if_pos h1, if_neg (by rw [h0]; decide), ct_same (n := e) (fun d hd => h d (by omega))]
    · have ih := ct_up h0 h1 h (n := n) (by omega)
      unfold ct
      rw [ih, h n (by omega)]
      split <;> rfl
def cl_I (n : Nat) (to : Nat → Int) (rest : Int) (k : Nat) (s : cl_S) : Prop := s.2.2 ≤ k ∧ (∀ d c, d < n → s.1 d = some c → c < s.2.2 ∧ to d + rest ≤ s.2.1 c) ∧ (∀ c, c < s.2.2 → ∃ d, d < n ∧ s.1 d = some c ∧ s.2.1 c = to d + rest) ∧ ct (fun d => (s.1 d).isSome) n = k
theorem cl_I_0 {n : Nat} {to : Nat → Int} {rest : Int} : cl_I n to rest 0 (fun _ => none, fun _ => 0, 0) := by
  refine ⟨Nat.le_refl _, fun d c _ h => (by cases h), fun c h => absurd h (Nat.not_lt_zero c), ?_⟩
  have : ∀ n, ct (fun _ => false) n = 0 := by
    intro n
    induction n with
    | zero => rfl
    | succ n ih => unfold ct; rw [ih]; rfl
  exact this n
theorem cl_turn_some {n : Nat} {fr to : Nat → Int} {rest : Int} {s : cl_S} {d : Nat} (h : cl_first n fr s.1 = some d) : cl_turn n fr to rest s = (fun e => if e = d then some (cl_crew (fr d) s.2.1 s.2.2 0) else s.1 e, fun e => if e = cl_crew (fr d) s.2.1 s.2.2 0 then to d + rest else s.2.1 e, if s.2.2 ≤ cl_crew (fr d) s.2.1 s.2.2 0 then cl_crew (fr d) s.2.1 s.2.2 0 + 1 else s.2.2) := by
  unfold cl_turn
  rw [h]
theorem cl_has {n k : Nat} {fr to : Nat → Int} {rest : Int} {s : cl_S} (hI : cl_I n to rest k s) (hk : k < n) : ∃ d, cl_first n fr s.1 = some d ∧ d < n ∧ s.1 d = none := by
  cases e : cl_first n fr s.1 with
  | none =>
    have h1 := cl_F_no (cl_first_eq.symm.trans e)
    have h2 := ct_full (p := fun d => (s.1 d).isSome) (n := n) (fun d hd => by
      cases q : s.1 d with
      | none => exact absurd q (h1 d hd)
      | some c => rfl)
    have := hI.2.2.2
    omega
  | some d =>
    obtain ⟨h1, h2⟩ := cl_F_lt (cl_first_eq.symm.trans e)
    exact ⟨d, rfl, h1, h2⟩
theorem cl_I_step {n k : Nat} {fr to : Nat → Int} {rest : Int} {s : cl_S} (hI : cl_I n to rest k s) (hk : k < n) (hr : 0 ≤ rest) (hft : ∀ d, d < n → fr d < to d) : cl_I n to rest (k + 1) (cl_turn n fr to rest s) := by
  obtain ⟨d, h1, h2, h3⟩ := cl_has (fr := fr) hI hk
  obtain ⟨i1, i2, i3, i4⟩ := hI
  rw [cl_turn_some h1]
  obtain ⟨a1, a2, a3, a4⟩ := cl_crew_sp (x := fr d) (ff := s.2.1) (d := s.2.2) (c := 0)
  generalize cl_crew (fr d) s.2.1 s.2.2 0 = c at *
  have hft := hft d h2
  refine ⟨?_, fun d' c' hd' h => ?_, fun c' hc' => ?_, ?_⟩
  · show (if s.2.2 ≤ c then c + 1 else s.2.2) ≤ k + 1
    split <;> omega
  · have h : (if d' = d then some c else s.1 d') = some c' := h
    show c' < (if s.2.2 ≤ c then c + 1 else s.2.2) ∧ to d' + rest ≤ (if c' = c then to d + rest else s.2.1 c')
    split at h
    · rename_i q
      cases h
      rw [if_pos rfl, q]
      exact ⟨by split <;> omega, Int.le_refl _⟩
    · obtain ⟨b1, b2⟩ := i2 d' c' hd' h
      refine ⟨by split <;> omega, ?_⟩
      split
      · rename_i q
        subst q
        have := a4 (by omega)
        omega
      · exact b2
  · have hc' : c' < (if s.2.2 ≤ c then c + 1 else s.2.2) := hc'
    show ∃ d', d' < n ∧ (if d' = d then some c else s.1 d') = some c' ∧ (if c' = c then to d + rest else s.2.1 c') = to d' + rest
    by_cases q : c' = c
    · exact ⟨d, h2, by rw [if_pos rfl, q], by rw [if_pos q]⟩
    · obtain ⟨d', b1, b2, b3⟩ := i3 c' (by split at hc' <;> omega)
      refine ⟨d', b1, ?_, ?_⟩
      · rw [if_neg (fun z => by rw [z, h3] at b2; cases b2)]; exact b2
      · rw [if_neg q]; exact b3
  · rw [← i4]
    refine ct_up (e := d) ?_ ?_ (fun e he => ?_) h2
    · show (s.1 d).isSome = false
      rw [h3]; rfl
    · show (if d = d then some c else s.1 d).isSome = true
      rw [if_pos rfl]; rfl
    · show (if e = d then some c else s.1 e).isSome = (s.1 e).isSome
      rw [if_neg he]
/-! the duties that both have -/
abbrev du_f (σ : tp_St) : Nat → Int := fun d => (σ.1 28 d).toInt
abbrev du_t (σ : tp_St) : Nat → Int := fun d => (σ.1 29 d).toInt
abbrev du_r (σ : tp_St) : Int := (σ.1 7 6).toInt
def du (σ : tp_St) (n : Nat) : Prop := n ≤ 10 ∧ (∀ k, k < n → 0 ≤ (σ.1 28 k).toInt ∧ (σ.1 28 k).toInt < (σ.1 29 k).toInt ∧ (σ.1 29 k).toInt ≤ 1440) ∧ tp_rg 0 600 (σ.1 7 6)
abbrev du_s (σ : tp_St) (n k : Nat) : cl_S := cl_lay n (du_f σ) (du_t σ) (du_r σ) k
theorem du_s1 {σ : tp_St} {n k : Nat} : du_s σ n (k + 1) = cl_turn n (du_f σ) (du_t σ) (du_r σ) (du_s σ n k) := rfl
theorem du_I {σ : tp_St} {n : Nat} (h : du σ n) : ∀ {k}, k ≤ n → cl_I n (du_t σ) (du_r σ) k (du_s σ n k)
  | 0, _ => cl_I_0
  | k + 1, hk => by
    rw [du_s1]
    exact cl_I_step (du_I h (k := k) (by omega)) (by omega) h.2.2.1 (fun d hd => (h.2.1 d hd).2.1)
theorem du_add {σ : tp_St} {n d : Nat} (h : du σ n) (hd : d < n) : (σ.1 29 d + σ.1 7 6).toInt = du_t σ d + du_r σ := by
  obtain ⟨h1, h2, h3⟩ := h
  have := h2 d hd
  have := h3.1
  have := h3.2
  show (σ.1 29 d + σ.1 7 6).toInt = (σ.1 29 d).toInt + (σ.1 7 6).toInt
  rw [Int32.toInt_add]
  simp only [Int.bmod_def]
  omega
def cr_x (e : Int32) (b : Option Nat) : Int32 := match b with
  | none => e
  | some c => nI c
theorem cr_x_none {e : Int32} {b : Option Nat} (he : e.toInt < 0) (hb : ∀ c, b = some c → c < 1000) : cr_x e b = e ↔ b = none := by
  cases b with
  | none => exact ⟨fun _ => rfl, fun _ => rfl⟩
  | some c =>
    have := hb c rfl
    refine ⟨fun h => ?_, fun h => by cases h⟩
    have h2 : (nI c).toInt = e.toInt := by rw [show nI c = e from h]
    rw [tp_t (by omega)] at h2
    omega
/-- the class's rows at a turn -/
def du_C (g : tp_St) (n k : Nat) (σ : tp_St) : Prop := (∀ o j, ¬ ((o = 7 ∧ j = 5) ∨ o = 30 ∨ o = 31) → σ.1 o j = g.1 o j) ∧ σ.2 = g.2 ∧ σ.1 7 5 = nI (du_s g n k).2.2 ∧ (∀ d, d < n → σ.1 31 d = cr_x (-1) ((du_s g n k).1 d)) ∧ (∀ c, c < (du_s g n k).2.2 → (σ.1 30 c).toInt = (du_s g n k).2.1 c)
theorem du_lt {g : tp_St} {n k d c : Nat} (h : du g n) (hk : k ≤ n) (hd : d < n) (e : (du_s g n k).1 d = some c) : c < 10 := by
  obtain ⟨i1, i2, -⟩ := du_I h hk
  have := (i2 d c hd e).1
  have := h.1
  omega
theorem sp_22 {g σ : tp_St} {n k : Nat} (h : du g n) (hk : k ≤ n) (h4 : g.1 7 4 = nI n) (hC : du_C g n k σ) : tp_val 22 [.ref 7, .null, .null] σ (tp_ox (cl_first n (du_f g) (du_s g n k).1)) := by
  intro post hp
  have n10 := h.1
  obtain ⟨c1, c2, c3, c4, c5⟩ := hC
  have s4 : σ.1 7 4 = nI n := (c1 7 4 (by omega)).trans h4
  refine sg_22_0 ?_
  refine tp_fold (E := fun i b => (∀ e, b = some e → e < i) → tp_E 22 4 [.ref 7, .int (tp_ox b), .int (nI i)] [] σ post) (step := cl_F (du_f g) (du_s g n k).1) (n := n) (a := none) (fun i b hi z hb => ?_) (fun hb => ?_) (fun e he => by cases he)
  · have z2 : tp_E 22 4 [.ref 7, .int (tp_ox (cl_F (du_f g) (du_s g n k).1 i b)), .int (nI (i + 1))] [] σ post := z (fun e he => by
      unfold cl_F at he
      split at he
      · cases he; omega
      · have := hb e he; omega)
    refine sg_22_4 _ _ ?_
    rw [tp_c (show i < 1000000 by omega), s4, c4 i hi, c1 28 i (by omega)]
    simp only [nI_1]
    have hx := cr_x_none (e := -1) (b := (du_s g n k).1 i) (by decide) (fun c hc => by have := du_lt h hk hi hc; omega)
    unfold cl_F at z2
    refine ⟨fun q => absurd q (tp_nle hi (by omega)), fun _ => ⟨tp_vi (by omega) (by omega), fun q => ?_, fun q => ?_⟩⟩
    · rw [hx] at q
      cases b with
      | none =>
        refine ⟨fun _ => ?_, fun q2 => absurd (by decide) q2⟩
        rw [if_pos ⟨q, fun e he => by cases he⟩] at z2
        exact z2
      | some e =>
        have he := hb e rfl
        simp only [tp_ox]
        rw [tp_c (show e < 1000000 by omega), c1 28 e (by omega)]
        refine ⟨fun q2 => ?_, fun _ => ⟨tp_vi (by omega) (by omega), tp_vi (by omega) (by omega), fun q3 => ?_, fun q3 => ?_⟩⟩
        · rw [tp_lt, tp_t (by omega)] at q2
          have : (e : Int) < 0 := q2
          omega
        · rw [if_neg (fun w => by have := w.2 e rfl; rw [tp_le] at q3; show False; have : (g.1 28 i).toInt < (g.1 28 e).toInt := this; omega)] at z2
          exact z2
        · rw [if_pos ⟨q, fun e' he' => by cases he'; rw [tp_le] at q3; show (g.1 28 i).toInt < (g.1 28 e).toInt; omega⟩] at z2
          exact z2
    · rw [if_neg (fun w => q (hx.mpr w.1))] at z2
      exact z2
  · refine sg_22_4 _ _ ?_
    rw [s4]
    exact ⟨fun _ => hp, fun q => absurd (tp_le.mpr (Int.le_refl _)) q⟩
theorem sp_23 {g σ : tp_St} {n k d : Nat} {post : Int32 → tp_St → Prop} (h : du g n) (hk : k < n) (hC : du_C g n k σ) (hd : cl_first n (du_f g) (du_s g n k).1 = some d) (hp : ∀ σ', du_C g n (k + 1) σ' → post 0 σ') : tp_E 23 0 [.ref 7, .int (nI d), .null] [] σ post := by
  have n10 := h.1
  obtain ⟨hdn, hdno⟩ := cl_F_lt (cl_first_eq.symm.trans hd)
  obtain ⟨i1, i2, i3, i4⟩ := du_I h (k := k) (by omega)
  obtain ⟨a1, a2, a3, a4⟩ := cl_crew_sp (x := du_f g d) (ff := (du_s g n k).2.1) (d := (du_s g n k).2.2) (c := 0)
  obtain ⟨c1, c2, c3, c4, c5⟩ := hC
  have hnext := cl_turn_some (to := du_t g) (rest := du_r g) hd
  rw [← du_s1] at hnext
  generalize hcc : cl_crew (du_f g d) (du_s g n k).2.1 (du_s g n k).2.2 0 = c at *
  have e29 : σ.1 29 d = g.1 29 d := c1 29 d (by omega)
  have e76 : σ.1 7 6 = g.1 7 6 := c1 7 6 (by omega)
  have fin : du_C g n (k + 1) (tp_set (tp_set (tp_set σ 31 d (nI c)) 30 c (σ.1 29 d + σ.1 7 6)) 7 5 (if nI (du_s g n k).2.2 < nI c + 1 then nI c + 1 else nI (du_s g n k).2.2)) := by
    refine ⟨fun o j ho => ?_, c2, ?_, fun d' hd' => ?_, fun c' hc' => ?_⟩
    · rw [tp_sg_ne (by omega), tp_sg_ne (by omega), tp_sg_ne (by omega)]
      exact c1 o j ho
    · rw [tp_sg_eq, hnext]
      show _ = nI (if (du_s g n k).2.2 ≤ c then c + 1 else (du_s g n k).2.2)
      simp only [nI_1]
      by_cases q : (du_s g n k).2.2 ≤ c
      · rw [if_pos q, if_pos ((tp_ltN (by omega) (by omega)).mpr (by omega))]
      · rw [if_neg q, if_neg (fun w => q (by have := (tp_ltN (by omega) (by omega)).mp w; omega))]
    · rw [hnext]
      show _ = cr_x (-1) (if d' = d then some c else (du_s g n k).1 d')
      rw [tp_sg_ne (by omega), tp_sg_ne (by omega)]
      by_cases q : d' = d
      · subst q
        rw [tp_sg_eq, if_pos rfl]
        rfl
      · rw [tp_sg_ne (by omega), if_neg q]
        exact c4 d' hd'
    · rw [hnext] at hc' ⊢
      have hc' : c' < (if (du_s g n k).2.2 ≤ c then c + 1 else (du_s g n k).2.2) := hc'
      show _ = (if c' = c then du_t g d + du_r g else (du_s g n k).2.1 c')
      rw [tp_sg_ne (by omega)]
      by_cases q : c' = c
      · subst q
        rw [tp_sg_eq, if_pos rfl, e29, e76, du_add h hdn]
      · rw [tp_sg_ne (by omega), tp_sg_ne (by omega), if_neg q]
        exact c5 c' (by split at hc' <;> omega)
  refine sg_23_0 _ ?_
  have stop : ∀ (P : Prop), P → (nI c < 10 → vp_in (nI d) 10 ∧ vp_in (nI d) 10 ∧ vp_in (nI c) 10 ∧ post 0 (tp_set (tp_set (tp_set σ 31 d (nI c)) 30 c (σ.1 29 d + σ.1 7 6)) 7 5 (if nI (du_s g n k).2.2 < nI c + 1 then nI c + 1 else nI (du_s g n k).2.2))) ∧ (¬ nI c < 10 → post 0 σ) := fun P _ =>
    ⟨fun _ => ⟨tp_vi (by omega) (by omega), tp_vi (by omega) (by omega), tp_vi (by omega) (by omega), hp _ fin⟩, fun q => absurd (by rw [show (10 : Int32) = nI 10 from rfl, tp_ltN (by omega) (by omega)]; omega) q⟩
  refine tp_up_loop (E := fun i => tp_E 23 2 [.ref 7, .int (nI d), .int (nI i)] [] σ post) (n := c) (fun i hi z => ?_) ?_ 0 (Nat.zero_le _)
  · refine sg_23_2 _ _ ?_
    rw [tp_c (show i < 1000000 by omega), tp_c (show d < 1000000 by omega), c3, c1 28 d (by omega)]
    simp only [nI_1]
    have hlt := a3 i (by omega) hi
    refine ⟨fun q => absurd q (tp_nle (by omega) (by omega)), fun _ => ⟨tp_vi (by omega) (by omega), tp_vi (by omega) (by omega), fun q => ?_, fun _ => z⟩⟩
    rw [tp_le, c5 i (by omega)] at q
    exact absurd q hlt
  · refine sg_23_2 _ _ ?_
    rw [tp_c (show c < 1000000 by omega), tp_c (show d < 1000000 by omega), c3, c1 28 d (by omega)]
    refine ⟨fun _ => stop True trivial, fun q => ⟨tp_vi ?_ (by omega), tp_vi (by omega) (by omega), fun _ => stop True trivial, fun q2 => ?_⟩⟩
    · rw [tp_leN (by omega) (by omega)] at q; omega
    · rw [tp_leN (by omega) (by omega)] at q
      rw [tp_le, c5 c (by omega)] at q2
      exact absurd (a4 (by omega)) q2
theorem sp_21 {g σ : tp_St} {n : Nat} {post : Int32 → tp_St → Prop} (h : du g n) (h4 : g.1 7 4 = nI n) (hg : ∀ o j, ¬ ((o = 7 ∧ j = 5) ∨ o = 30 ∨ o = 31) → σ.1 o j = g.1 o j) (hg2 : σ.2 = g.2) (hp : ∀ σ', du_C g n n σ' → post 0 σ') : tp_E 21 0 [.ref 7, .null, .null] [] σ post := by
  have n10 := h.1
  refine sg_21_0 ?_
  have second : ∀ σ1, du_C g n 0 σ1 → tp_E 21 30 [.ref 7, .int 0, .null] [] σ1 post := by
    intro σ1 h1
    refine tp_up_loop (E := fun i => ∀ σ, du_C g n i σ → tp_E 21 30 [.ref 7, .int (nI i), .null] [] σ post) (n := n) (fun i hi z σ hC => ?_) (fun σ hC => ?_) 0 (Nat.zero_le _) σ1 h1
    · refine sg_21_30 _ ?_
      have s4 : σ.1 7 4 = nI n := (hC.1 7 4 (by omega)).trans h4
      rw [s4]
      simp only [nI_1]
      refine ⟨fun q => absurd q (tp_nle hi (by omega)), fun _ => sp_22 h (by omega) h4 hC _ ?_⟩
      obtain ⟨d, e1, e2, e3⟩ := cl_has (fr := du_f g) (du_I h (k := i) (by omega)) hi
      rw [e1]
      refine ⟨fun q => ?_, fun _ => sp_23 h hi hC e1 (fun σ' hC' => z σ' hC')⟩
      have q2 : nI d < 0 := q
      rw [tp_lt, tp_t (by omega)] at q2
      have : (d : Int) < 0 := q2
      omega
    · refine sg_21_30 _ ?_
      have s4 : σ.1 7 4 = nI n := (hC.1 7 4 (by omega)).trans h4
      rw [s4]
      exact ⟨fun _ => hp σ hC, fun q => absurd (tp_le.mpr (Int.le_refl _)) q⟩
  refine tp_up_loop (E := fun i => ∀ σ1 : tp_St, (∀ o j, ¬ ((o = 7 ∧ j = 5) ∨ o = 30 ∨ o = 31) → σ1.1 o j = g.1 o j) → σ1.2 = g.2 → σ1.1 7 5 = 0 → (∀ d, d < i → σ1.1 31 d = -1) → tp_E 21 7 [.ref 7, .int (nI i), .null] [] σ1 post) (n := n) (fun i hi z σ1 h1 h2 h3 h5 => ?_) (fun σ1 h1 h2 h3 h5 => ?_) 0 (Nat.zero_le _) _ (fun o j ho => ?_) hg2 tp_sg_eq (fun d hd => absurd hd (by omega))
  · refine sg_21_7 _ ?_
    have s4 : σ1.1 7 4 = nI n := (h1 7 4 (by omega)).trans h4
    rw [s4, tp_c (show i < 1000000 by omega)]
    simp only [nI_1]
    refine ⟨fun q => absurd q (tp_nle hi (by omega)), fun _ => ⟨tp_vi (by omega) (by omega), z _ (fun o j ho => by rw [tp_sg_ne (by omega)]; exact h1 o j ho) h2 (by rw [tp_sg_ne (by omega)]; exact h3) (fun d hd => ?_)⟩⟩
    by_cases q : d = i
    · subst q; rw [tp_sg_eq]
    · rw [tp_sg_ne (by omega)]; exact h5 d (by omega)
  · refine sg_21_7 _ ?_
    have s4 : σ1.1 7 4 = nI n := (h1 7 4 (by omega)).trans h4
    rw [s4]
    refine ⟨fun _ => second σ1 ⟨h1, h2, h3, fun d hd => h5 d hd, fun c hc => absurd hc (Nat.not_lt_zero c)⟩, fun q => absurd (tp_le.mpr (Int.le_refl _)) q⟩
  · rw [tp_sg_ne (by omega)]; exact hg o j ho
theorem du_RC {g σ : tp_St} {n : Nat} (h : du g n) (hC : du_C g n n σ) : RC σ n := by
  obtain ⟨c1, c2, c3, c4, c5⟩ := hC
  have e : tp_cl σ n = du_s g n n := by
    unfold tp_cl
    rw [c1 7 6 (by omega), show (fun d => (σ.1 28 d).toInt) = du_f g from funext fun d => by rw [c1 28 d (by omega)], show (fun d => (σ.1 29 d).toInt) = du_t g from funext fun d => by rw [c1 29 d (by omega)]]
  refine ⟨by rw [e]; exact c3, fun d hd => ?_⟩
  rw [e]
  have h1 := ct_all (du_I h (Nat.le_refl n)).2.2.2 d hd
  cases q : (du_s g n n).1 d with
  | none => rw [q] at h1; cases h1
  | some c => exact ⟨c, rfl, by rw [c4 d hd, q]; rfl⟩
