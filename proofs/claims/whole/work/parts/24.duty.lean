/-! places that no group names -/
def fre (o j : Nat) : Prop := o = 30 ∨ o = 81 ∨ o = 26 ∨ o = 76 ∨ o = 77 ∨ o = 78 ∨ (o = 58 ∧ (j = 43 ∨ (26 ≤ j ∧ j ≤ 35))) ∨ (o = 6 ∧ j ≠ 2) ∨ (o = 19 ∧ j ≠ 1)
theorem RR_free {σ σ' : tp_St} (h : RR_all σ) (e : ∀ o j, ¬ fre o j → σ'.1 o j = σ.1 o j) (e2 : σ'.2 = σ.2) : RR_all σ' := by
  obtain ⟨nT, nR, nS, nB, nD, hT, hP, hR, hS, hH, hA, hL, hD, hK⟩ := h
  refine ⟨nT, nR, nS, nB, nD, RT_fr hT (fun o k hd => e o k (by unfold fre; omega)), RP_fr hP (fun o k hd => e o k (by unfold fre; omega)), RR_fr hR (fun o k hd => e o k (by unfold fre; omega)), RS_fr hS (Nat.le_refl _) (Nat.le_refl _) (fun o k hd => e o k (by unfold fre; omega)), RH_fr hH (fun o k hd => e o k (by unfold fre; omega)), RA_fr hA (fun o k hd => e o k (by unfold fre; omega)), RLw_fr hL e2 (fun o k hd => e o k (by unfold fre; omega)), RD_fr hD (fun o k hd => e o k (by unfold fre; omega)), RK_fr hK (fun o k hd => e o k (by unfold fre; omega))⟩
theorem RD_du {σ : tp_St} {n : Nat} (h : RD0 σ n) : du σ n := ⟨h.1, fun k hk => (h.2.2.2.1 k hk).2.2, h.2.2.2.2.2⟩
theorem RC_fr {σ σ' : tp_St} {n : Nat} (h : RC σ n) (e : ∀ o k, ((o = 7 ∧ (k = 5 ∨ k = 6)) ∨ o = 28 ∨ o = 29 ∨ o = 31) → σ'.1 o k = σ.1 o k) : RC σ' n := by
  obtain ⟨h7, h8⟩ := h
  have hc : tp_cl σ' n = tp_cl σ n := by
    unfold tp_cl
    rw [e 7 6 (by omega), show (fun d => (σ'.1 28 d).toInt) = (fun d => (σ.1 28 d).toInt) from funext fun d => by rw [e 28 d (by omega)], show (fun d => (σ'.1 29 d).toInt) = (fun d => (σ.1 29 d).toInt) from funext fun d => by rw [e 29 d (by omega)]]
  refine ⟨?_, fun d hd => ?_⟩
  · rw [hc, e 7 5 (by omega)]; exact h7
  · rw [hc, e 31 d (by omega)]; exact h8 d hd
theorem op_rest {σ : tp_St} {a : Int32} (h : RR_all σ) : tp_E 86 0 [.ref 0, .int a] [] σ (tp_Res 141 [.ref 58, .int a, .null]) := by
  obtain ⟨nT, nR, nS, nB, nD, hT, hP, hR, hS, hH, hA, hL, hD, hK⟩ := id h
  obtain ⟨⟨d1, d2, d3, d4, d5, d6⟩, -⟩ := id hD
  refine sg_86_0 _ (tp_if (sp_91 (l := 0) rfl (h := 600) rfl) (fun q => sg_141_0 _ (tp_if (sp_101 tp_i64 (l := 0) rfl (h := 600) rfl) (fun p => by omega) (fun _ => ⟨rfl, h⟩))) (fun q => ?_))
  refine sg_20_0 _ ?_
  have hg : du (tp_set σ 7 6 a) nD := by
    refine ⟨d1, fun k hk => ?_, ?_⟩
    · rw [tp_sg_ne (by omega), tp_sg_ne (by omega)]; exact (d4 k hk).2.2
    · rw [tp_sg_eq]; exact ⟨by omega, by omega⟩
  refine sp_21 hg (by rw [tp_sg_ne (by omega)]; exact d2) (fun _ _ _ => rfl) rfl (fun σ' hC => ?_)
  have e : ∀ o j, ¬ ((o = 7 ∧ j = 5) ∨ o = 30 ∨ o = 31 ∨ (o = 7 ∧ j = 6)) → σ'.1 o j = σ.1 o j := fun o j ho => by rw [hC.1 o j (by omega), tp_sg_ne (by omega)]
  have e76 : σ'.1 7 6 = a := by rw [hC.1 7 6 (by omega), tp_sg_eq]
  refine sg_141_0 _ (tp_if (sp_101 tp_i64 (l := 0) rfl (h := 600) rfl) (fun _ => ⟨?_, ?_⟩) (fun p => by omega))
  · rw [e 58 41 (by omega)]; exact d5.symm
  · have e2 : ∀ o j, ¬ ((o = 7 ∧ j = 5) ∨ o = 30 ∨ o = 31 ∨ (o = 7 ∧ j = 6) ∨ (o = 58 ∧ j = 41)) → (tp_set σ' 58 41 a).1 o j = σ.1 o j := fun o j ho => by rw [tp_sg_ne (by omega), e o j (by omega)]
    refine ⟨nT, nR, nS, nB, nD, RT_fr hT (fun o k hd => e2 o k (by omega)), RP_fr hP (fun o k hd => e2 o k (by omega)), RR_fr hR (fun o k hd => e2 o k (by omega)), RS_fr hS (Nat.le_refl _) (Nat.le_refl _) (fun o k hd => e2 o k (by omega)), RH_fr hH (fun o k hd => e2 o k (by omega)), RA_fr hA (fun o k hd => e2 o k (by omega)), RLw_fr hL hC.2.1 (fun o k hd => e2 o k (by omega)), ⟨⟨d1, ?_, ?_, fun k hk => ?_, ?_, ?_⟩, RC_fr (du_RC hg hC) (fun o k hd => by rw [tp_sg_ne (by omega)])⟩, RK_fr hK (fun o k hd => e2 o k (by omega))⟩
    · rw [e2 7 4 (by omega)]; exact d2
    · rw [e2 58 38 (by omega)]; exact d3
    · rw [e2 79 k (by omega), e2 80 k (by omega), e2 28 k (by omega), e2 29 k (by omega)]; exact d4 k hk
    · rw [tp_sg_eq, tp_sg_ne (by omega), e76]
    · rw [tp_sg_ne (by omega), e76]; exact ⟨by omega, by omega⟩
theorem op_duty {σ : tp_St} {a b : Int32} (h : RR_all σ) : tp_E 85 0 [.ref 0, .int a, .int b] [] σ (tp_Res 140 [.ref 58, .int a, .int b]) := by
  obtain ⟨nT, nR, nS, nB, nD, hT, hP, hR, hS, hH, hA, hL, hD, hK⟩ := id h
  obtain ⟨⟨d1, d2, d3, d4, d5, d6⟩, -⟩ := id hD
  have ha64 : (a.toInt64 + Int64.ofNat 1).toInt = a.toInt + 1 := by
    have h1 := sq_lo a
    rw [Int64.toInt_add, tp_i64, show (Int64.ofNat 1).toInt = 1 from rfl]
    simp only [Int.bmod_def]
    omega
  have bad : (¬ (0 ≤ a.toInt ∧ a.toInt ≤ 1440) ∨ ¬ (a.toInt + 1 ≤ b.toInt ∧ b.toInt ≤ 1440)) → tp_Res 140 [.ref 58, .int a, .int b] (-1) σ := fun hb =>
    sg_140_0 _ _ (tp_if (sp_101 tp_i64 (l := 0) rfl (h := 1440) rfl) (fun p1 => tp_if (sp_101 tp_i64 ha64 (h := 1440) rfl) (fun p2 => by omega) (fun p2 => ⟨rfl, h⟩)) (fun p1 => ⟨rfl, h⟩))
  refine sg_85_0 _ _ (tp_if (sp_91 (l := 0) rfl (h := 1440) rfl) (fun q1 => bad (by omega)) (fun q1 => ?_))
  have ha1 : (a + 1).toInt = a.toInt + 1 := by
    rw [Int32.toInt_add, show (1 : Int32).toInt = 1 from rfl]
    simp only [Int.bmod_def]
    omega
  refine tp_if (sp_91 ha1 (h := 1440) rfl) (fun q2 => bad (by omega)) (fun q2 => ?_)
  refine sg_19_0 _ _ ?_
  rw [d2, tp_c (show nD < 1000000 by omega), nI_1]
  have t10 : nI nD < 10 ↔ nD < 10 := by rw [show (10 : Int32) = nI 10 from rfl, tp_ltN (by omega) (by omega)]
  have f10 : nI nD = 10 ↔ nD = 10 := by rw [show (10 : Int32) = nI 10 from rfl, tp_ne (by omega) (by omega)]
  refine ⟨fun c => ?_, fun c => ?_⟩
  · rw [t10] at c
    refine ⟨tp_vi c (by omega), tp_vi c (by omega), ?_⟩
    have hg : du (tp_set (tp_set (tp_set σ 28 nD a) 29 nD b) 7 4 (nI (nD + 1))) (nD + 1) := by
      refine ⟨by omega, fun k hk => ?_, ?_⟩
      · by_cases e : k = nD
        · subst e
          have x28 : (tp_set (tp_set (tp_set σ 28 k a) 29 k b) 7 4 (nI (k + 1))).1 28 k = a := by rw [tp_sg_ne (by omega), tp_sg_ne (by omega), tp_sg_eq]
          have x29 : (tp_set (tp_set (tp_set σ 28 k a) 29 k b) 7 4 (nI (k + 1))).1 29 k = b := by rw [tp_sg_ne (by omega), tp_sg_eq]
          rw [x28, x29]
          exact ⟨by omega, by omega, by omega⟩
        · have x28 : (tp_set (tp_set (tp_set σ 28 nD a) 29 nD b) 7 4 (nI (nD + 1))).1 28 k = σ.1 28 k := by rw [tp_sg_ne (by omega), tp_sg_ne (by omega), tp_sg_ne (by omega)]
          have x29 : (tp_set (tp_set (tp_set σ 28 nD a) 29 nD b) 7 4 (nI (nD + 1))).1 29 k = σ.1 29 k := by rw [tp_sg_ne (by omega), tp_sg_ne (by omega), tp_sg_ne (by omega)]
          rw [x28, x29]
          exact (d4 k (by omega)).2.2
      · rw [tp_sg_ne (by omega), tp_sg_ne (by omega), tp_sg_ne (by omega)]; exact d6
    refine sp_21 hg tp_sg_eq (fun _ _ _ => rfl) rfl (fun σ' hC => ?_)
    have e : ∀ o j, ¬ ((o = 7 ∧ j = 5) ∨ o = 30 ∨ o = 31 ∨ (o = 7 ∧ j = 4) ∨ ((o = 28 ∨ o = 29) ∧ j = nD)) → σ'.1 o j = σ.1 o j := fun o j ho => by rw [hC.1 o j (by omega), tp_sg_ne (by omega), tp_sg_ne (by omega), tp_sg_ne (by omega)]
    refine sg_140_0 _ _ (tp_if (sp_101 tp_i64 (l := 0) rfl (h := 1440) rfl) (fun _ => tp_if (sp_101 tp_i64 ha64 (h := 1440) rfl) (fun _ => ?_) (fun p2 => by omega)) (fun p1 => by omega))
    rw [e 58 38 (by omega), d3, tp_c (show nD < 1000000 by omega), nI_1, nI_pred]
    refine ⟨fun z => absurd (f10.mp z) (by omega), fun _ => ⟨tp_vi c (by omega), tp_vi c (by omega), rfl, ?_⟩⟩
    have e2 : ∀ o j, ¬ ((o = 7 ∧ j = 5) ∨ o = 30 ∨ o = 31 ∨ (o = 7 ∧ j = 4) ∨ ((o = 28 ∨ o = 29 ∨ o = 79 ∨ o = 80) ∧ j = nD) ∨ (o = 58 ∧ j = 38)) → (tp_set (tp_set (tp_set σ' 79 nD a) 80 nD b) 58 38 (nI (nD + 1))).1 o j = σ.1 o j := fun o j ho => by rw [tp_sg_ne (by omega), tp_sg_ne (by omega), tp_sg_ne (by omega), e o j (by omega)]
    refine ⟨nT, nR, nS, nB, nD + 1, RT_fr hT (fun o k hd => e2 o k (by omega)), RP_fr hP (fun o k hd => e2 o k (by omega)), RR_fr hR (fun o k hd => e2 o k (by omega)), RS_fr hS (Nat.le_refl _) (Nat.le_refl _) (fun o k hd => e2 o k (by omega)), RH_fr hH (fun o k hd => e2 o k (by omega)), RA_fr hA (fun o k hd => e2 o k (by omega)), RLw_fr hL hC.2.1 (fun o k hd => e2 o k (by omega)), ⟨⟨by omega, ?_, ?_, fun k hk => ?_, ?_, ?_⟩, RC_fr (du_RC hg hC) (fun o k hd => by rw [tp_sg_ne (by omega), tp_sg_ne (by omega), tp_sg_ne (by omega)])⟩, RK_fr hK (fun o k hd => e2 o k (by omega))⟩
    · rw [tp_sg_ne (by omega), tp_sg_ne (by omega), tp_sg_ne (by omega), hC.1 7 4 (by omega), tp_sg_eq]
    · rw [tp_sg_eq]
    · by_cases ek : k = nD
      · subst ek
        have x79 : (tp_set (tp_set (tp_set σ' 79 k a) 80 k b) 58 38 (nI (k + 1))).1 79 k = a := by rw [tp_sg_ne (by omega), tp_sg_ne (by omega), tp_sg_eq]
        have x80 : (tp_set (tp_set (tp_set σ' 79 k a) 80 k b) 58 38 (nI (k + 1))).1 80 k = b := by rw [tp_sg_ne (by omega), tp_sg_eq]
        have x28 : (tp_set (tp_set (tp_set σ' 79 k a) 80 k b) 58 38 (nI (k + 1))).1 28 k = a := by rw [tp_sg_ne (by omega), tp_sg_ne (by omega), tp_sg_ne (by omega), hC.1 28 k (by omega), tp_sg_ne (by omega), tp_sg_ne (by omega), tp_sg_eq]
        have x29 : (tp_set (tp_set (tp_set σ' 79 k a) 80 k b) 58 38 (nI (k + 1))).1 29 k = b := by rw [tp_sg_ne (by omega), tp_sg_ne (by omega), tp_sg_ne (by omega), hC.1 29 k (by omega), tp_sg_ne (by omega), tp_sg_eq]
        rw [x79, x80, x28, x29]
        exact ⟨rfl, rfl, by omega, by omega, by omega⟩
      · rw [e2 79 k (by omega), e2 80 k (by omega), e2 28 k (by omega), e2 29 k (by omega)]; exact d4 k (by omega)
    · rw [e2 58 41 (by omega), e2 7 6 (by omega)]; exact d5
    · rw [e2 7 6 (by omega)]; exact d6
  · rw [t10] at c
    refine sg_140_0 _ _ (tp_if (sp_101 tp_i64 (l := 0) rfl (h := 1440) rfl) (fun _ => tp_if (sp_101 tp_i64 ha64 (h := 1440) rfl) (fun _ => ?_) (fun p2 => by omega)) (fun p1 => by omega))
    rw [d3]
    exact ⟨fun _ => ⟨rfl, h⟩, fun z => absurd (f10.mpr (by omega)) z⟩
/-! the reference lays the crews anew each time -/
def du_M (g : tp_St) (n k : Nat) (υ : tp_St) : Prop := (∀ o j, ¬ ((o = 58 ∧ j = 43) ∨ o = 81) → υ.1 o j = g.1 o j) ∧ υ.2 = g.2 ∧ υ.1 58 43 = nI (du_s g n k).2.2 ∧ (∀ d, d < n → υ.1 81 d = cr_x (-4) ((du_s g n k).1 d))
def mh (to fr : Nat → Int) (r : Int) (cr : Nat → Option Nat) (c d : Nat) : Nat → Bool
  | 0 => true
  | i + 1 => mh to fr r cr c d i && (!decide (cr i = some c) || decide (to i + r ≤ fr d))
theorem mh_iff {to fr : Nat → Int} {r : Int} {cr : Nat → Option Nat} {c d : Nat} : ∀ {n}, mh to fr r cr c d n = true ↔ ∀ i, i < n → cr i = some c → to i + r ≤ fr d
  | 0 => ⟨fun _ i h => absurd h (Nat.not_lt_zero i), fun _ => rfl⟩
  | n + 1 => by
    unfold mh
    rw [Bool.and_eq_true, mh_iff (n := n), Bool.or_eq_true, Bool.not_eq_true', decide_eq_false_iff_not, decide_eq_true_eq]
    constructor
    · rintro ⟨h1, h2⟩ i hi hc
      by_cases e : i = n
      · subst e
        exact h2.resolve_left (fun w => w hc)
      · exact h1 i (by omega) hc
    · intro h1
      refine ⟨fun i hi => h1 i (by omega), ?_⟩
      by_cases e : cr n = some c
      · exact Or.inr (h1 n (by omega) e)
      · exact Or.inl e
def b01 (b : Bool) : Int32 := if b = true then 1 else 0
theorem b01_0 {b : Bool} : b01 b = 0 ↔ ¬ b = true := by cases b <;> decide
theorem b01_n {b : Bool} : narrow .boolean (.int (b01 b)) = .int (b01 b) := by cases b; exact tp_nb0; exact tp_nb1
theorem cr_is {b : Option Nat} {c : Nat} (hb : ∀ e, b = some e → e < 1000) (hc : c < 1000) : cr_x (-4) b = nI c ↔ b = some c := by
  cases b with
  | none =>
    refine ⟨fun h => ?_, fun h => by cases h⟩
    have h2 : (nI c).toInt = (-4 : Int32).toInt := by rw [← show (-4 : Int32) = nI c from h]
    rw [tp_t (by omega)] at h2
    have : (c : Int) = -4 := h2
    omega
  | some e =>
    have := hb e rfl
    show nI e = nI c ↔ _
    rw [tp_ne (by omega) (by omega)]
    exact ⟨fun h => by rw [h], fun h => by cases h; rfl⟩
theorem sp_143 {g υ : tp_St} {n k c d : Nat} (h0 : RD0 g n) (hk : k ≤ n) (hc : c < 1000) (hd : d < n) (hM : du_M g n k υ) : tp_bool 143 [.ref 58, .int (nI c), .int (nI d), .null, .null] υ (∀ i, i < n → (du_s g n k).1 i = some c → du_t g i + du_r g ≤ du_f g d) := by
  intro post h1 h0'
  have h := RD_du h0
  obtain ⟨d1, d2, d3, d4, d5, d6⟩ := h0
  obtain ⟨m1, m2, m3, m4⟩ := hM
  have e38 : υ.1 58 38 = nI n := (m1 58 38 (by omega)).trans d3
  refine sg_143_0 _ _ ?_
  refine tp_up_loop (E := fun i => tp_E 143 5 [.ref 58, .int (nI c), .int (nI d), .int (b01 (mh (du_t g) (du_f g) (du_r g) (du_s g n k).1 c d i)), .int (nI i)] [] υ post) (n := n) (fun i hi z => ?_) ?_ 0 (Nat.zero_le _)
  · refine sg_143_5 _ _ _ _ ?_
    rw [tp_c (show i < 1000000 by omega), tp_c (show d < 1000000 by omega), e38, m4 i hi, m1 79 d (by omega), m1 80 i (by omega), m1 58 41 (by omega), (d4 d hd).1, (d4 i hi).2.1, d5, b01_0]
    simp only [nI_1]
    unfold mh at z
    rw [cr_is (fun e he => by have := du_lt h hk hi he; omega) hc]
    refine ⟨fun w => absurd w (tp_nle hi (by omega)), fun _ => ⟨fun w => ?_, fun w => ⟨tp_vi (by omega) (by omega), fun w2 => ⟨tp_vi (by omega) (by omega), tp_vi (by omega) (by omega), fun w3 => ?_, fun w3 => ?_⟩, fun w2 => ?_⟩⟩⟩
    · rw [show mh (du_t g) (du_f g) (du_r g) (du_s g n k).1 c d i = false from Bool.eq_false_iff.mpr w, Bool.false_and] at z
      exact z
    · rw [tp_lt, du_add h hi] at w3
      rw [Bool.not_eq_true, Bool.not_eq_false] at w
      rw [w, decide_eq_true w2, decide_eq_false (show ¬ du_t g i + du_r g ≤ du_f g d by show ¬ _ ≤ (g.1 28 d).toInt; omega)] at z
      exact z
    · rw [tp_lt, du_add h hi] at w3
      rw [Bool.not_eq_true, Bool.not_eq_false] at w
      rw [w, decide_eq_true w2, decide_eq_true (show du_t g i + du_r g ≤ du_f g d by show _ ≤ (g.1 28 d).toInt; omega)] at z
      exact z
    · rw [Bool.not_eq_true, Bool.not_eq_false] at w
      rw [w, decide_eq_false w2] at z
      exact z
  · refine sg_143_5 _ _ _ _ ?_
    rw [e38]
    refine ⟨fun _ => ⟨b01_n, ?_⟩, fun z => absurd (tp_le.mpr (Int.le_refl _)) z⟩
    cases q : mh (du_t g) (du_f g) (du_r g) (du_s g n k).1 c d n with
    | true => exact h1 (mh_iff.mp q)
    | false => exact h0' (fun w => by rw [mh_iff.mpr w] at q; cases q)
theorem sp_142 {g υ : tp_St} {n : Nat} {post : Int32 → tp_St → Prop} (h0 : RD0 g n) (hg : ∀ o j, ¬ ((o = 58 ∧ j = 43) ∨ o = 81) → υ.1 o j = g.1 o j) (hg2 : υ.2 = g.2) (hp : ∀ υ', du_M g n n υ' → post 0 υ') : tp_E 142 0 [.ref 58, .null, .null, .null] [] υ post := by
  have h := RD_du h0
  obtain ⟨d1, d2, d3, d4, d5, d6⟩ := id h0
  refine sg_142_0 ?_
  have second : ∀ υ1, du_M g n 0 υ1 → tp_E 142 31 [.ref 58, .int 0, .null, .null] [] υ1 post := by
    intro υ1 hM1
    refine tp_up_loop (E := fun k => ∀ υ, du_M g n k υ → tp_E 142 31 [.ref 58, .int (nI k), .null, .null] [] υ post) (n := n) (fun k hk z υ hM => ?_) (fun υ hM => ?_) 0 (Nat.zero_le _) υ1 hM1
    · obtain ⟨m1, m2, m3, m4⟩ := id hM
      have e38 : υ.1 58 38 = nI n := (m1 58 38 (by omega)).trans d3
      obtain ⟨i1, i2, i3, i4⟩ := du_I h (k := k) (by omega)
      refine sg_142_31 _ ?_
      rw [e38]
      refine ⟨fun w => absurd w (tp_nle hk (by omega)), fun _ => ?_⟩
      obtain ⟨d, f1, f2, f3⟩ := cl_has (fr := du_f g) (du_I h (k := k) (by omega)) hk
      have third : tp_E 142 98 [.ref 58, .int (nI k), .int (nI d), .int 0] [] υ post := by
        obtain ⟨a1, a2, a3, a4⟩ := cl_crew_sp (x := du_f g d) (ff := (du_s g n k).2.1) (d := (du_s g n k).2.2) (c := 0)
        have hnext := cl_turn_some (to := du_t g) (rest := du_r g) f1
        rw [← du_s1] at hnext
        generalize hcc : cl_crew (du_f g d) (du_s g n k).2.1 (du_s g n k).2.2 0 = c at *
        refine tp_up_loop (E := fun i => tp_E 142 98 [.ref 58, .int (nI k), .int (nI d), .int (nI i)] [] υ post) (n := c) (fun i hi y => ?_) ?_ 0 (Nat.zero_le _)
        · refine sg_142_98 _ _ _ (tp_if (sp_143 h0 (by omega) (by omega) f2 hM) (fun w => ?_) (fun _ => by simp only [nI_1]; exact y))
          obtain ⟨own, o1, o2, o3⟩ := i3 i (by omega)
          have := w own o1 o2
          have := a3 i (by omega) hi
          omega
        · refine sg_142_98 _ _ _ (tp_if (sp_143 h0 (by omega) (by omega) f2 hM) (fun _ => ?_) (fun w => absurd (fun own o1 o2 => ?_) w))
          · rw [tp_c (show d < 1000000 by omega), m3]
            simp only [nI_1]
            have fin : ∀ x, x = nI (if (du_s g n k).2.2 ≤ c then c + 1 else (du_s g n k).2.2) → tp_E 142 31 [.ref 58, .int (nI (k + 1)), .null, .null] [] (tp_set (tp_set υ 81 d (nI c)) 58 43 x) post := fun x hx => z _ ⟨fun o j ho => by rw [tp_sg_ne (by omega), tp_sg_ne (by omega)]; exact m1 o j ho, m2, by rw [tp_sg_eq, hnext, hx], fun d' hd' => by
              rw [hnext, tp_sg_ne (by omega)]
              show _ = cr_x (-4) (if d' = d then some c else (du_s g n k).1 d')
              by_cases q : d' = d
              · subst q
                rw [tp_sg_eq, if_pos rfl]
                rfl
              · rw [tp_sg_ne (by omega), if_neg q]
                exact m4 d' hd'⟩
            refine ⟨tp_vi (by omega) (by omega), fun w => fin _ ?_, fun w => fin _ ?_⟩
            · rw [tp_leN (by omega) (by omega)] at w
              rw [if_neg (by omega)]
            · rw [tp_leN (by omega) (by omega)] at w
              rw [if_pos (by omega)]
          · obtain ⟨b1, b2⟩ := i2 own c o1 o2
            have := a4 (by omega)
            omega
      refine tp_fold (E := fun i b => (∀ e, b = some e → e < i) → tp_E 142 44 [.ref 58, .int (nI k), .int (cr_x (-4) b), .int (nI i)] [] υ post) (step := cl_F (du_f g) (du_s g n k).1) (n := n) (a := none) (fun i b hi z hb => ?_) (fun hb => ?_) (fun e he => by cases he)
      · have z2 : tp_E 142 44 [.ref 58, .int (nI k), .int (cr_x (-4) (cl_F (du_f g) (du_s g n k).1 i b)), .int (nI (i + 1))] [] υ post := z (fun e he => by
          unfold cl_F at he
          split at he
          · cases he; omega
          · have := hb e he; omega)
        refine sg_142_44 _ _ _ ?_
        rw [tp_c (show i < 1000000 by omega), e38, m4 i hi, m1 79 i (by omega), (d4 i hi).1]
        simp only [nI_1]
        have hx := cr_x_none (e := -4) (b := (du_s g n k).1 i) (by decide) (fun c hc => by have := du_lt h (by omega) hi hc; omega)
        have hy := cr_x_none (e := -4) (b := b) (by decide) (fun c hc => by have := hb c hc; omega)
        rw [hx, hy]
        unfold cl_F at z2
        refine ⟨fun q => absurd q (tp_nle hi (by omega)), fun _ => ⟨tp_vi (by omega) (by omega), fun q => ?_, fun q => ?_⟩⟩
        · cases b with
          | none =>
            refine ⟨fun _ => ?_, fun q2 => absurd rfl q2⟩
            rw [if_pos ⟨q, fun e he => by cases he⟩] at z2
            exact z2
          | some e =>
            have he := hb e rfl
            refine ⟨fun q2 => (by cases q2), fun _ => ?_⟩
            simp only [cr_x]
            rw [tp_c (show e < 1000000 by omega), m1 79 e (by omega), (d4 e (by omega)).1]
            refine ⟨tp_vi (by omega) (by omega), tp_vi (by omega) (by omega), fun q3 => ?_, fun q3 => ?_⟩
            · rw [if_neg (fun w => by have := w.2 e rfl; rw [tp_le] at q3; show False; have : (g.1 28 i).toInt < (g.1 28 e).toInt := this; omega)] at z2
              exact z2
            · rw [if_pos ⟨q, fun e' he' => by cases he'; rw [tp_le] at q3; show (g.1 28 i).toInt < (g.1 28 e).toInt; omega⟩] at z2
              exact z2
        · rw [if_neg (fun w => q w.1)] at z2
          exact z2
      · refine sg_142_44 _ _ _ ?_
        rw [e38]
        refine ⟨fun _ => ?_, fun q => absurd (tp_le.mpr (Int.le_refl _)) q⟩
        rw [← cl_first_eq, f1]
        exact third
    · refine sg_142_31 _ ?_
      rw [(hM.1 58 38 (by omega)).trans d3]
      exact ⟨fun _ => hp υ hM, fun q => absurd (tp_le.mpr (Int.le_refl _)) q⟩
  refine tp_up_loop (E := fun i => ∀ υ1 : tp_St, (∀ o j, ¬ ((o = 58 ∧ j = 43) ∨ o = 81) → υ1.1 o j = g.1 o j) → υ1.2 = g.2 → υ1.1 58 43 = 0 → (∀ d, d < i → υ1.1 81 d = -4) → tp_E 142 7 [.ref 58, .int (nI i), .null, .null] [] υ1 post) (n := n) (fun i hi z υ1 h1 h2 h3 h5 => ?_) (fun υ1 h1 h2 h3 h5 => ?_) 0 (Nat.zero_le _) _ (fun o j ho => ?_) hg2 tp_sg_eq (fun d hd => absurd hd (by omega))
  · refine sg_142_7 _ ?_
    rw [(h1 58 38 (by omega)).trans d3, tp_c (show i < 1000000 by omega)]
    simp only [nI_1]
    refine ⟨fun q => absurd q (tp_nle hi (by omega)), fun _ => ⟨tp_vi (by omega) (by omega), z _ (fun o j ho => by rw [tp_sg_ne (by omega)]; exact h1 o j ho) h2 (by rw [tp_sg_ne (by omega)]; exact h3) (fun d hd => ?_)⟩⟩
    by_cases q : d = i
    · subst q; rw [tp_sg_eq]
    · rw [tp_sg_ne (by omega)]; exact h5 d (by omega)
  · refine sg_142_7 _ ?_
    rw [(h1 58 38 (by omega)).trans d3]
    refine ⟨fun _ => second υ1 ⟨h1, h2, h3, fun d hd => h5 d hd⟩, fun q => absurd (tp_le.mpr (Int.le_refl _)) q⟩
  · rw [tp_sg_ne (by omega)]; exact hg o j ho
