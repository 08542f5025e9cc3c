/-! tokens: the class's bytes B, n of them -/
def rn (P : Nat → Bool) : Nat → Nat → Nat
  | 0, p => p
  | d + 1, p => if P p = true then rn P d (p + 1) else p
theorem rn_le {P : Nat → Bool} : ∀ {d p}, p ≤ rn P d p ∧ rn P d p ≤ p + d
  | 0, _ => ⟨Nat.le_refl _, Nat.le_refl _⟩
  | d + 1, p => by
    unfold rn
    have := rn_le (P := P) (d := d) (p := p + 1)
    split <;> omega
theorem rn_go {P : Nat → Bool} {n p : Nat} (h : p < n) (hp : P p = true) : rn P (n - p) p = rn P (n - (p + 1)) (p + 1) := by
  rw [show n - p = (n - (p + 1)) + 1 by omega]
  conv => lhs; unfold rn
  rw [if_pos hp]
theorem rn_no {P : Nat → Bool} {n p : Nat} (hp : ¬ P p = true) : rn P (n - p) p = p := by
  cases e : n - p with
  | zero => rfl
  | succ d => unfold rn; rw [if_neg hp]
theorem rn_end {P : Nat → Bool} {n p : Nat} (h : n ≤ p) : rn P (n - p) p = p := by
  rw [show n - p = 0 by omega]; rfl
def is_s (B : Nat → Int32) (j : Nat) : Bool := decide (B j = 32)
def is_l (B : Nat → Int32) (j : Nat) : Bool := decide (97 ≤ (B j).toInt) && decide ((B j).toInt ≤ 122)
def is_f (B : Nat → Int32) (j : Nat) : Bool := decide (48 ≤ (B j).toInt) && decide ((B j).toInt ≤ 57)
def nl (k : Nat) : Nat := if k = 2 then 6 else 4
def al (B : Nat → Int32) (k s : Nat) : Nat → Bool
  | 0 => true
  | i + 1 => al B k s i && decide (B (s + i) = tp_rob (97 + k) i)
def spb (B : Nat → Int32) (k s e : Nat) : Bool := decide (e = s + nl k) && al B k s (nl k)
def vv (B : Nat → Int32) (s : Nat) : Nat → Int32
  | 0 => 0
  | i + 1 => if i < 4 then vv B s i * 10 + (B (s + i) - 48) else vv B s i
def tk_s (B : Nat → Int32) (n p : Nat) : Nat := rn (is_s B) (n - p) p
def tk_e (B : Nat → Int32) (n s : Nat) : Nat := if is_l B s = true then rn (is_l B) (n - s) s else if is_f B s = true then rn (is_f B) (n - s) s else s + 1
def tk_k (B : Nat → Int32) (n s : Nat) : Nat := if n ≤ s then 1 else if is_l B s = true then (if (spb B 0 s (tk_e B n s) || (spb B 1 s (tk_e B n s) || spb B 2 s (tk_e B n s))) = true then 2 else 0) else if is_f B s = true then (if tk_e B n s ≤ s + 4 then 3 else 0) else if B s = 59 then 4 else 0
def tk_v (B : Nat → Int32) (n s : Nat) : Int32 := if is_l B s = true then (if spb B 0 s (tk_e B n s) = true then 0 else if spb B 1 s (tk_e B n s) = true then 1 else 2) else vv B s (tk_e B n s - s)
theorem al_stop {B : Nat → Int32} {k s i : Nat} (h : al B k s i = false) : ∀ d, al B k s (i + d) = false
  | 0 => h
  | d + 1 => by
    show (al B k s (i + d) && _) = false
    rw [al_stop h d, Bool.false_and]
theorem nl_le {k : Nat} : nl k ≤ 6 := by unfold nl; split <;> omega
/-! the class reads a token -/
theorem nm_ok : ∀ k, k < 3 → ∀ j, j < nl k → narrow .char (.int ((((tp_rob (97 + k) j) &&& 255)).toUInt32 % 65536).toInt32) = .int ((((tp_rob (97 + k) j) &&& 255)).toUInt32 % 65536).toInt32 ∧ ((((tp_rob (97 + k) j) &&& 255)).toUInt32 % 65536).toInt32 = tp_rob (97 + k) j ∧ narrow .char (.int (tp_rob (97 + k) j)) = .int (tp_rob (97 + k) j) := by decide +kernel
theorem nm_ln : ∀ k, k < 3 → tp_ln (97 + k) = nl k := by decide +kernel
theorem nm_rr {σ : tp_St} {k : Nat} (hk : k < 3) : tp_rr σ (94 + k) 0 = 97 + k := by
  rcases (show k = 0 ∨ k = 1 ∨ k = 2 by omega) with rfl | rfl | rfl <;> rfl
theorem nm_q {k : Nat} (hk : k < 3) : 94 + k = 94 ∨ 94 + k = 95 ∨ 94 + k = 96 := by omega
theorem nm_q7 {k : Nat} (hk : k < 3) : 97 + k = 97 ∨ 97 + k = 98 ∨ 97 + k = 99 := by omega
theorem sp_149 {σ : tp_St} {k : Nat} (hk : k < 3) : tp_val 149 [.ref (94 + k)] σ (nI (nl k)) := by
  intro post hp
  refine sg_149_0 _ (nm_q hk) (sg_151_0 _ (nm_q hk) ?_)
  rw [nm_rr hk, nm_ln k hk]
  have e : ∀ k, k < 3 → (Int32.ofNat (nl k)) >>> ((0 : Int32) &&& 31) = nI (nl k) := by decide +kernel
  rw [e k hk]
  exact hp
theorem sp_155 {σ : tp_St} {a b : Int32} {post : Int32 → tp_St → Prop} (h0 : ¬ a < 0) (h1 : a < b) (hp : post a σ) : tp_E 155 0 [.int a, .int b, .null] [] σ post ∧ tp_E 155 0 [.int a, .int b, .ref 100] [] σ post :=
  ⟨sg_155_0 _ _ ⟨fun z => absurd z h0, fun _ => ⟨fun _ => hp, fun z => absurd h1 z⟩⟩,
   tp_E_step (And.intro (fun c1 => absurd c1 h0) (fun c1 => And.intro (fun c2 => Exists.intro _ (And.intro (tp_wk_rf _) (tp_E_step (And.intro rfl hp)))) (fun c2 => absurd h1 c2)))⟩
theorem sp_150 {σ : tp_St} {k j : Nat} (hk : k < 3) (hj : j < nl k) : tp_val 150 [.ref (94 + k), .int (nI j)] σ (tp_rob (97 + k) j) := by
  intro post hp
  have h6 := nl_le (k := k)
  obtain ⟨n1, n2, n3⟩ := nm_ok k hk j hj
  refine sg_150_0 _ _ (nm_q hk) (sg_152_0 _ (nm_q hk) ⟨fun z => absurd z (by decide), fun _ => ?_⟩)
  rw [nm_rr hk]
  refine sg_154_0 _ _ (nm_q7 hk) ?_
  rw [nm_ln k hk, tp_c (show j < 1000000 by omega)]
  have h0 : ¬ nI j < 0 := by rw [tp_lt, tp_t (by omega)]; show ¬ (j : Int) < 0; omega
  have h1 : nI j < Int32.ofNat (nl k) := (tp_ltN (by omega) (by omega)).mpr hj
  have q : ∀ post : Int32 → tp_St → Prop, post (nI j) σ → tp_E 155 0 [.int (nI j), .int (Int32.ofNat (nl k)), .null] [] σ post ∧ tp_E 155 0 [.int (nI j), .int (Int32.ofNat (nl k)), .ref 100] [] σ post := fun post h => sp_155 h0 h1 h
  have body : vp_in (nI j) (nl k) ∧ narrow .char (.int ((((tp_rob (97 + k) j) &&& 255)).toUInt32 % 65536).toInt32) = .int ((((tp_rob (97 + k) j) &&& 255)).toUInt32 % 65536).toInt32 ∧ (narrow .char (.int ((((tp_rob (97 + k) j) &&& 255)).toUInt32 % 65536).toInt32) = .int ((((tp_rob (97 + k) j) &&& 255)).toUInt32 % 65536).toInt32 ∧ post ((((tp_rob (97 + k) j) &&& 255)).toUInt32 % 65536).toInt32 σ) := ⟨tp_vi hj (by omega), n1, n1, by rw [n2]; exact hp⟩
  exact sg_153_0 _ _ ⟨(q (fun _ σ1 => vp_in (nI j) (nl k) ∧ narrow .char (.int ((((tp_rob (97 + k) j) &&& 255)).toUInt32 % 65536).toInt32) = .int ((((tp_rob (97 + k) j) &&& 255)).toUInt32 % 65536).toInt32 ∧ (narrow .char (.int ((((tp_rob (97 + k) j) &&& 255)).toUInt32 % 65536).toInt32) = .int ((((tp_rob (97 + k) j) &&& 255)).toUInt32 % 65536).toInt32 ∧ post ((((tp_rob (97 + k) j) &&& 255)).toUInt32 % 65536).toInt32 σ1)) body).1, (q (fun _ σ1 => vp_in (nI j) (nl k) ∧ narrow .char (.int ((((tp_rob (97 + k) j) &&& 255)).toUInt32 % 65536).toInt32) = .int ((((tp_rob (97 + k) j) &&& 255)).toUInt32 % 65536).toInt32 ∧ (narrow .char (.int ((((tp_rob (97 + k) j) &&& 255)).toUInt32 % 65536).toInt32) = .int ((((tp_rob (97 + k) j) &&& 255)).toUInt32 % 65536).toInt32 ∧ post ((((tp_rob (97 + k) j) &&& 255)).toUInt32 % 65536).toInt32 σ1)) body).2⟩
theorem tp_subN {a b : Nat} (h : b ≤ a) (ha : a < 1000000) : nI a - nI b = nI (a - b) := by
  rw [tp_eq, Int32.toInt_sub, tp_t ha, tp_t (by omega), tp_t (by omega)]
  simp only [Int.bmod_def]
  omega
theorem sp_52 {σ : tp_St} {B : Nat → Int32} {k s e : Nat} (hk : k < 3) (hB : ∀ j, σ.1 27 j = B j) (h2 : σ.1 19 2 = nI s) (h4 : σ.1 19 4 = nI e) (hse : s ≤ e) (he : e ≤ 200) : tp_bool 52 [.ref 19, .ref (94 + k), .null] σ (spb B k s e = true) := by
  intro post h1 h0
  have h6 := nl_le (k := k)
  refine sg_52_0 _ (nm_q hk) (sp_149 hk _ ?_)
  rw [h4, h2, tp_subN hse (by omega), tp_ne (by omega) (by omega)]
  unfold spb at h1 h0
  refine ⟨fun q => ?_, fun q => h0 (fun w => ?_)⟩
  · have es : e = s + nl k := by omega
    rw [decide_eq_true es, Bool.true_and] at h1 h0
    refine tp_up_loop (E := fun i => al B k s i = true → tp_E 52 20 [.ref 19, .ref (94 + k), .int (nI i)] [] σ post) (n := nl k) (fun i hi z hno => ?_) (fun hno => ?_) 0 (Nat.zero_le _) rfl
    · refine sg_52_20 _ _ (nm_q hk) (sp_149 hk _ ⟨fun w => absurd w (tp_nle hi (by omega)), fun _ => ?_⟩)
      rw [h2, nI_add, tp_c (show s + i < 1000000 by omega), hB]
      simp only [nI_1]
      have e1 : al B k s (i + 1) = decide (B (s + i) = tp_rob (97 + k) i) := by
        show (al B k s i && _) = _
        rw [hno, Bool.true_and]
      refine ⟨tp_vi (by omega) (by omega), sp_150 hk hi _ ⟨fun w => z (by rw [e1]; exact decide_eq_true w), fun w => h0 (fun w2 => ?_)⟩⟩
      have e2 : al B k s (i + 1) = false := by rw [e1]; exact decide_eq_false w
      have := al_stop e2 (nl k - (i + 1))
      rw [show i + 1 + (nl k - (i + 1)) = nl k by omega, w2] at this
      cases this
    · exact sg_52_20 _ _ (nm_q hk) (sp_149 hk _ ⟨fun _ => h1 hno, fun w => absurd (tp_le.mpr (Int.le_refl _)) w⟩)
  · rw [Bool.and_eq_true, decide_eq_true_eq] at w
    omega
theorem sp_50 {σ : tp_St} {B : Nat → Int32} {p : Nat} (hB : ∀ j, σ.1 27 j = B j) (hp : p < 200) : tp_bool 50 [.ref 19, .int (nI p)] σ (is_l B p = true) := by
  intro post h1 h0
  refine sg_50_0 _ ?_
  rw [tp_c (show p < 1000000 by omega), hB]
  unfold is_l at h1 h0
  rw [Bool.and_eq_true, decide_eq_true_eq, decide_eq_true_eq] at h1 h0
  refine ⟨tp_vi hp (by omega), fun z => h0 (fun w => ?_), fun z => ⟨tp_vi hp (by omega), fun z2 => h0 (fun w => ?_), fun z2 => h1 ?_⟩⟩
  · rw [tp_lt] at z; have z : (B p).toInt < 97 := z; omega
  · rw [tp_lt] at z2; have z2 : 122 < (B p).toInt := z2; omega
  · rw [tp_lt] at z z2; have z : ¬ (B p).toInt < 97 := z; have z2 : ¬ 122 < (B p).toInt := z2; omega
theorem sp_51 {σ : tp_St} {B : Nat → Int32} {p : Nat} (hB : ∀ j, σ.1 27 j = B j) (hp : p < 200) : tp_bool 51 [.ref 19, .int (nI p)] σ (is_f B p = true) := by
  intro post h1 h0
  refine sg_51_0 _ ?_
  rw [tp_c (show p < 1000000 by omega), hB]
  unfold is_f at h1 h0
  rw [Bool.and_eq_true, decide_eq_true_eq, decide_eq_true_eq] at h1 h0
  refine ⟨tp_vi hp (by omega), fun z => h0 (fun w => ?_), fun z => ⟨tp_vi hp (by omega), fun z2 => h0 (fun w => ?_), fun z2 => h1 ?_⟩⟩
  · rw [tp_lt] at z; have z : (B p).toInt < 48 := z; omega
  · rw [tp_lt] at z2; have z2 : 57 < (B p).toInt := z2; omega
  · rw [tp_lt] at z z2; have z : ¬ (B p).toInt < 48 := z; have z2 : ¬ 57 < (B p).toInt := z2; omega
def cF (a b : tp_St) : Prop := (∀ o k, ¬ (o = 19 ∧ (k = 2 ∨ k = 3 ∨ k = 4)) → b.1 o k = a.1 o k) ∧ b.2 = a.2
theorem cF_set {a b : tp_St} {k : Nat} {v : Int32} (h : cF a b) (hk : k = 2 ∨ k = 3 ∨ k = 4) : cF a (tp_set b 19 k v) := ⟨fun o j ho => by rw [tp_sg_ne (by omega)]; exact h.1 o j ho, h.2⟩
def tk_C (a : tp_St) (B : Nat → Int32) (n s : Nat) (post : Int32 → tp_St → Prop) : Prop := ∀ σ', cF a σ' → σ'.1 19 2 = nI s → (tk_k B n s = 2 ∨ tk_k B n s = 3 ∨ tk_k B n s = 4 → σ'.1 19 4 = nI (tk_e B n s)) → (tk_k B n s = 2 ∨ tk_k B n s = 3 → σ'.1 19 3 = tk_v B n s) → post (nI (tk_k B n s)) σ'
theorem sp_48 {a : tp_St} {B : Nat → Int32} {n s : Nat} {post : Int32 → tp_St → Prop} (hn : n ≤ 200) (hs : s < n) (hl : is_l B s = true) (h1 : a.1 19 1 = nI n) (hB : ∀ j, a.1 27 j = B j) (hp : tk_C a B n s post) : ∀ d p σ, p + d = n → s ≤ p → rn (is_l B) (n - p) p = rn (is_l B) (n - s) s → cF a σ → σ.1 19 2 = nI s → σ.1 19 4 = nI p → tp_E 48 0 [.ref 19] [] σ post := by
  have he : tk_e B n s = rn (is_l B) (n - s) s := by unfold tk_e; rw [if_pos hl]
  have fin : ∀ p σ, s ≤ p → p ≤ n → p = tk_e B n s → cF a σ → σ.1 19 2 = nI s → σ.1 19 4 = nI p → tp_E 52 0 [.ref 19, .ref 94, .null] [] σ (fun r2 σ2 => (r2 = 0 → tp_E 52 0 [.ref 19, .ref 95, .null] [] σ2 (fun r3 σ3 => (r3 = 0 → tp_E 52 0 [.ref 19, .ref 96, .null] [] (tp_set σ3 19 3 2) (fun r4 σ4 => (r4 = 0 → post 0 σ4) ∧ (¬ r4 = 0 → post 2 σ4))) ∧ (¬ r3 = 0 → post 2 (tp_set σ3 19 3 1)))) ∧ (¬ r2 = 0 → post 2 (tp_set σ2 19 3 0))) := by
    intro p σ h3 h4 h5 hc h6 h7
    have hB' : ∀ j, σ.1 27 j = B j := fun j => (hc.1 27 j (by omega)).trans (hB j)
    have kk : tk_k B n s = if (spb B 0 s p || (spb B 1 s p || spb B 2 s p)) = true then 2 else 0 := by
      unfold tk_k; rw [if_neg (by omega), if_pos hl, ← h5]
    have kv : tk_v B n s = if spb B 0 s p = true then 0 else if spb B 1 s p = true then 1 else 2 := by
      unfold tk_v; rw [if_pos hl, ← h5]
    refine tp_if (sp_52 (k := 0) (by omega) hB' h6 h7 h3 (by omega)) (fun q => ?_) (fun q => tp_if (sp_52 (k := 1) (by omega) hB' h6 h7 h3 (by omega)) (fun q2 => ?_) (fun q2 => ?_))
    · rw [if_pos (by rw [q]; rfl)] at kk
      rw [if_pos q] at kv
      have := hp (tp_set σ 19 3 0) (cF_set hc (by omega)) (by rw [tp_sg_ne (by omega)]; exact h6) (fun _ => by rw [tp_sg_ne (by omega), h7, h5]) (fun _ => by rw [tp_sg_eq, kv])
      rw [kk] at this
      exact this
    · rw [if_pos (by rw [q2]; simp)] at kk
      rw [if_neg q, if_pos q2] at kv
      have := hp (tp_set σ 19 3 1) (cF_set hc (by omega)) (by rw [tp_sg_ne (by omega)]; exact h6) (fun _ => by rw [tp_sg_ne (by omega), h7, h5]) (fun _ => by rw [tp_sg_eq, kv])
      rw [kk] at this
      exact this
    · rw [if_neg q, if_neg q2] at kv
      have hpp := hp (tp_set σ 19 3 2) (cF_set hc (by omega)) (by rw [tp_sg_ne (by omega)]; exact h6) (fun _ => by rw [tp_sg_ne (by omega), h7, h5]) (fun _ => by rw [tp_sg_eq, kv])
      refine tp_if (sp_52 (k := 2) (B := B) (by omega) (fun j => by rw [tp_sg_ne (by omega)]; exact hB' j) (by rw [tp_sg_ne (by omega)]; exact h6) (by rw [tp_sg_ne (by omega)]; exact h7) h3 (by omega)) (fun q3 => ?_) (fun q3 => ?_)
      · rw [if_pos (by rw [q3]; simp)] at kk
        rw [kk] at hpp
        exact hpp
      · rw [if_neg (by rw [Bool.eq_false_iff.mpr q, Bool.eq_false_iff.mpr q2, Bool.eq_false_iff.mpr q3]; decide)] at kk
        rw [kk] at hpp
        exact hpp
  intro d
  induction d with
  | zero =>
    intro p σ hd h3 h5 hc h6 h7
    refine sg_48_0 ?_
    rw [(hc.1 19 1 (by omega)).trans h1, h7]
    refine ⟨fun _ => fin p σ h3 (by omega) ?_ hc h6 h7, fun w => absurd ((tp_leN (by omega) (by omega)).mpr (by omega)) w⟩
    rw [he, ← h5, rn_end (by omega)]
  | succ d ih =>
    intro p σ hd h3 h5 hc h6 h7
    have hB' : ∀ j, σ.1 27 j = B j := fun j => (hc.1 27 j (by omega)).trans (hB j)
    refine sg_48_0 ?_
    rw [(hc.1 19 1 (by omega)).trans h1, h7]
    refine ⟨fun w => absurd w (tp_nle (by omega) (by omega)), fun _ => tp_if (sp_50 hB' (by omega)) (fun q => ?_) (fun q => fin p σ h3 (by omega) ?_ hc h6 h7)⟩
    · rw [h7]
      simp only [nI_1]
      refine ih (p + 1) _ (by omega) (by omega) ?_ (cF_set hc (by omega)) (by rw [tp_sg_ne (by omega)]; exact h6) tp_sg_eq
      rw [← h5, rn_go (by omega) q]
    · rw [he, ← h5, rn_no q]
theorem sp_49 {a : tp_St} {B : Nat → Int32} {n s : Nat} {post : Int32 → tp_St → Prop} (hn : n ≤ 200) (hs : s < n) (hl : ¬ is_l B s = true) (hf : is_f B s = true) (h1 : a.1 19 1 = nI n) (hB : ∀ j, a.1 27 j = B j) (hp : tk_C a B n s post) : ∀ d p σ, p + d = n → s ≤ p → rn (is_f B) (n - p) p = rn (is_f B) (n - s) s → cF a σ → σ.1 19 2 = nI s → σ.1 19 4 = nI p → σ.1 19 3 = vv B s (p - s) → tp_E 49 5 [.ref 19] [] σ post := by
  have he : tk_e B n s = rn (is_f B) (n - s) s := by unfold tk_e; rw [if_neg hl, if_pos hf]
  have f4 : ∀ x : Nat, x < 1000 → (4 < nI x ↔ 4 < x) := fun x hx => by rw [show (4 : Int32) = nI 4 from rfl, tp_ltN (by omega) (by omega)]
  have g4 : ∀ x : Nat, x < 1000 → (4 ≤ nI x ↔ 4 ≤ x) := fun x hx => by rw [show (4 : Int32) = nI 4 from rfl, tp_leN (by omega) (by omega)]
  have fin : ∀ p σ, s ≤ p → p ≤ n → p = tk_e B n s → cF a σ → σ.1 19 2 = nI s → σ.1 19 4 = nI p → σ.1 19 3 = vv B s (p - s) → (4 < nI (p - s) → post 0 σ) ∧ (¬ 4 < nI (p - s) → post 3 σ) := by
    intro p σ h3 h4 h5 hc h6 h7 h8
    rw [f4 (p - s) (by omega)]
    have kk : tk_k B n s = if p ≤ s + 4 then 3 else 0 := by
      unfold tk_k; rw [if_neg (by omega), if_neg hl, if_pos hf, ← h5]
    have kv : tk_v B n s = vv B s (p - s) := by unfold tk_v; rw [if_neg hl, ← h5]
    have hpp := hp σ hc h6 (fun _ => by rw [h7, h5]) (fun _ => by rw [h8, kv])
    refine ⟨fun q => ?_, fun q => ?_⟩
    · rw [if_neg (by omega)] at kk
      rw [kk] at hpp
      exact hpp
    · rw [if_pos (by omega)] at kk
      rw [kk] at hpp
      exact hpp
  intro d
  induction d with
  | zero =>
    intro p σ hd h3 h5 hc h6 h7 h8
    refine sg_49_5 ?_
    rw [(hc.1 19 1 (by omega)).trans h1, h7, h6, tp_subN h3 (by omega)]
    refine ⟨fun _ => fin p σ h3 (by omega) ?_ hc h6 h7 h8, fun w => absurd ((tp_leN (by omega) (by omega)).mpr (by omega)) w⟩
    rw [he, ← h5, rn_end (by omega)]
  | succ d ih =>
    intro p σ hd h3 h5 hc h6 h7 h8
    have hB' : ∀ j, σ.1 27 j = B j := fun j => (hc.1 27 j (by omega)).trans (hB j)
    refine sg_49_5 ?_
    rw [(hc.1 19 1 (by omega)).trans h1, h7]
    refine ⟨fun w => absurd w (tp_nle (by omega) (by omega)), fun _ => tp_if (sp_51 hB' (by omega)) (fun q => ?_) (fun q => ?_)⟩
    · rw [h7, h6, tp_subN h3 (by omega), h8, tp_c (show p < 1000000 by omega), hB', g4 (p - s) (by omega)]
      simp only [nI_1]
      have e1 : vv B s (p + 1 - s) = if p - s < 4 then vv B s (p - s) * 10 + (B p - 48) else vv B s (p - s) := by
        rw [show p + 1 - s = (p - s) + 1 by omega]
        show (if p - s < 4 then vv B s (p - s) * 10 + (B (s + (p - s)) - 48) else _) = _
        rw [show s + (p - s) = p by omega]
      refine ⟨fun w => ih (p + 1) _ (by omega) (by omega) (by rw [← h5, rn_go (by omega) q]) (cF_set hc (by omega)) (by rw [tp_sg_ne (by omega)]; exact h6) tp_sg_eq ?_, fun w => ⟨tp_vi (by omega) (by omega), ih (p + 1) _ (by omega) (by omega) (by rw [← h5, rn_go (by omega) q]) (cF_set (cF_set hc (by omega)) (by omega)) (by rw [tp_sg_ne (by omega), tp_sg_ne (by omega)]; exact h6) tp_sg_eq ?_⟩⟩
      · rw [tp_sg_ne (by omega), h8, e1, if_neg (by omega)]
      · rw [tp_sg_ne (by omega), tp_sg_eq, e1, if_pos (by omega)]
    · rw [h7, h6, tp_subN h3 (by omega)]
      exact fin p σ h3 (by omega) (by rw [he, ← h5, rn_no q]) hc h6 h7 h8
theorem sp_47 {a : tp_St} {B : Nat → Int32} {n p0 : Nat} {post : Int32 → tp_St → Prop} (hn : n ≤ 200) (hp0 : p0 ≤ n) (h1 : a.1 19 1 = nI n) (hB : ∀ j, a.1 27 j = B j) (hp : tk_C a B n (tk_s B n p0) post) (h4 : a.1 19 4 = nI p0) : tp_E 47 0 [.ref 19] [] a post := by
  have tail : ∀ p σ, p < n → p = tk_s B n p0 → cF a σ → σ.1 19 4 = nI p → tp_E 50 0 [.ref 19, .int (nI p)] [] (tp_set σ 19 2 (nI p)) (fun r1 σ1 => (r1 = 0 → tp_E 51 0 [.ref 19, .int (σ1.1 19 4)] [] σ1 (fun r3 σ3 => (r3 = 0 → vp_in (σ3.1 19 4) 200 ∧ (σ3.1 27 (σ3.1 19 4).toNatClampNeg = 59 → post 4 (tp_set σ3 19 4 (σ3.1 19 4 + 1))) ∧ (¬ σ3.1 27 (σ3.1 19 4).toNatClampNeg = 59 → post 0 (tp_set σ3 19 4 (σ3.1 19 4 + 1)))) ∧ (¬ r3 = 0 → tp_E 49 0 [.ref 19] [] σ3 (fun r4 σ4 => post r4 σ4)))) ∧ (¬ r1 = 0 → tp_E 48 0 [.ref 19] [] σ1 (fun r2 σ2 => post r2 σ2))) := by
    intro p σ hpn hps hc h7
    rw [← hps] at hp
    have hc2 : cF a (tp_set σ 19 2 (nI p)) := cF_set hc (by omega)
    have hB' : ∀ j, (tp_set σ 19 2 (nI p)).1 27 j = B j := fun j => (hc2.1 27 j (by omega)).trans (hB j)
    have e4 : (tp_set σ 19 2 (nI p)).1 19 4 = nI p := by rw [tp_sg_ne (by omega)]; exact h7
    refine tp_if (sp_50 hB' (by omega)) (fun q => ?_) (fun q => ?_)
    · exact sp_48 hn hpn q h1 hB hp (n - p) p _ (by omega) (Nat.le_refl p) rfl hc2 tp_sg_eq e4
    · rw [e4]
      refine tp_if (sp_51 hB' (by omega)) (fun q2 => ?_) (fun q2 => ?_)
      · refine sg_49_0 ?_
        exact sp_49 hn hpn q q2 h1 hB hp (n - p) p _ (by omega) (Nat.le_refl p) rfl (cF_set hc2 (by omega)) (by rw [tp_sg_ne (by omega)]; exact tp_sg_eq) (by rw [tp_sg_ne (by omega)]; exact e4) (by rw [tp_sg_eq, Nat.sub_self]; rfl)
      · rw [e4, tp_c (show p < 1000000 by omega), hB']
        simp only [nI_1]
        have ke : tk_e B n p = p + 1 := by unfold tk_e; rw [if_neg q, if_neg q2]
        have kk : tk_k B n p = if B p = 59 then 4 else 0 := by unfold tk_k; rw [if_neg (by omega), if_neg q, if_neg q2]
        have hpp := hp (tp_set (tp_set σ 19 2 (nI p)) 19 4 (nI (p + 1))) (cF_set hc2 (by omega)) (by rw [tp_sg_ne (by omega)]; exact tp_sg_eq) (fun _ => by rw [tp_sg_eq, ke]) (fun w => by rw [kk] at w; split at w <;> omega)
        refine ⟨tp_vi (by omega) (by omega), fun w => ?_, fun w => ?_⟩
        · rw [if_pos w] at kk
          rw [kk] at hpp
          exact hpp
        · rw [if_neg w] at kk
          rw [kk] at hpp
          exact hpp
  have key : ∀ d p σ, p + d = n → p0 ≤ p → rn (is_s B) (n - p) p = tk_s B n p0 → cF a σ → σ.1 19 4 = nI p → tp_E 47 0 [.ref 19] [] σ post := by
    intro d
    induction d with
    | zero =>
      intro p σ hd h3 h5 hc h7
      refine sg_47_0 ?_
      rw [(hc.1 19 1 (by omega)).trans h1, h7]
      rw [rn_end (by omega)] at h5
      refine ⟨fun _ => ⟨fun w => absurd w (tp_nlt (by omega) (by omega)), fun _ => ?_⟩, fun w => absurd ((tp_leN (by omega) (by omega)).mpr (by omega)) w⟩
      rw [← h5] at hp
      have kk : tk_k B n p = 1 := by unfold tk_k; rw [if_pos (by omega)]
      have hpp := hp (tp_set σ 19 2 (nI p)) (cF_set hc (by omega)) tp_sg_eq (fun w => by omega) (fun w => by omega)
      rw [kk] at hpp
      exact hpp
    | succ d ih =>
      intro p σ hd h3 h5 hc h7
      refine sg_47_0 ?_
      rw [(hc.1 19 1 (by omega)).trans h1, h7, tp_c (show p < 1000000 by omega), (hc.1 27 p (by omega)).trans (hB p)]
      simp only [nI_1]
      refine ⟨fun w => absurd w (tp_nle (by omega) (by omega)), fun _ => ⟨tp_vi (by omega) (by omega), fun w => ?_, fun w => ⟨fun _ => tail p σ (by omega) ?_ hc h7, fun y => absurd ((tp_ltN (by omega) (by omega)).mpr (by omega)) y⟩⟩⟩
      · refine ih (p + 1) _ (by omega) (by omega) ?_ (cF_set hc (by omega)) tp_sg_eq
        rw [← h5, rn_go (P := is_s B) (by omega) (decide_eq_true w)]
      · rw [← h5, rn_no (fun y => w (of_decide_eq_true y))]
  exact key (n - p0) p0 a (by omega) (Nat.le_refl _) rfl ⟨fun _ _ _ => rfl, rfl⟩ h4
