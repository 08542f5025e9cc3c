/-! the reference's laws, after a fault and after good numbers -/
def mG (a b : tp_St) : Prop := (∀ o k, ¬ (o = 76 ∨ o = 77 ∨ o = 78 ∨ (o = 58 ∧ 26 ≤ k ∧ k ≤ 35)) → b.1 o k = a.1 o k) ∧ b.2 = a.2
theorem mG_rf {a : tp_St} : mG a a := ⟨fun _ _ _ => rfl, rfl⟩
theorem mG_F {a b c : tp_St} (h : mG a b) (k : mF b c) : mG a c := ⟨fun o j ho => (k.1 o j (by omega)).trans (h.1 o j ho), k.2.trans h.2⟩
theorem mG_set {a b : tp_St} {o k : Nat} {v : Int32} (h : mG a b) (hk : o = 77 ∨ o = 78 ∨ (o = 58 ∧ 26 ≤ k ∧ k ≤ 35)) : mG a (tp_set b o k v) := ⟨fun o' j ho => by rw [tp_sg_ne (by omega)]; exact h.1 o' j ho, h.2⟩
abbrev RQ (Q : Int32 → tp_St → Prop) : Int32 → tp_St → Prop := fun _ σ1 => tp_E 136 30 [.ref 58, .null] [] σ1 Q
def Flt (a : tp_St) (e : Int32) (s : Nat) (υ : tp_St) : Prop := mG a υ ∧ υ.1 58 30 = e ∧ υ.1 58 31 = nI s ∧ 0 < e.toInt
def FQ (a : tp_St) (e : Int32) (s : Nat) (Q : Int32 → tp_St → Prop) : Prop := ∀ υ, Flt a e s υ → Q (-10 - nI s) (tp_set (tp_set υ 58 18 0) 58 19 e)
theorem Flt_set {a υ : tp_St} {e v : Int32} {s o k : Nat} (h : Flt a e s υ) (hk : o = 77 ∨ o = 78 ∨ (o = 58 ∧ 26 ≤ k ∧ k ≤ 35 ∧ k ≠ 30 ∧ k ≠ 31)) : Flt a e s (tp_set υ o k v) := by
  obtain ⟨h1, h2, h3, h4⟩ := h
  exact ⟨mG_set h1 (by omega), by rw [tp_sg_ne (by omega)]; exact h2, by rw [tp_sg_ne (by omega)]; exact h3, h4⟩
theorem Flt_n0 {a υ : tp_St} {e : Int32} {s : Nat} (h : Flt a e s υ) : ¬ υ.1 58 30 = 0 := by
  rw [h.2.1, tp_eq]
  have := h.2.2.2
  show ¬ e.toInt = 0
  omega
theorem Flt_nl {a υ : tp_St} {e : Int32} {s : Nat} (h : Flt a e s υ) : ¬ υ.1 58 30 ≤ 0 := by
  rw [h.2.1, tp_le]
  have := h.2.2.2
  show ¬ e.toInt ≤ 0
  omega
theorem fl_30 {a υ : tp_St} {e : Int32} {s : Nat} {Q : Int32 → tp_St → Prop} (h : Flt a e s υ) (fq : FQ a e s Q) : tp_E 136 30 [.ref 58, .null] [] υ Q := by
  refine sg_136_30 ⟨fun w => absurd w (Flt_n0 h), fun _ => ⟨fun w => absurd w (Flt_nl h), fun _ => ?_⟩⟩
  rw [h.2.1, h.2.2.1]
  exact fq υ h
theorem fl_132 {a υ : tp_St} {e : Int32} {s : Nat} {post : Int32 → tp_St → Prop} (h : Flt a e s υ) (hp : post 0 υ) : tp_E 132 0 [.ref 58, .null] [] υ post := sg_132_0 ⟨fun w => absurd w (Flt_nl h), fun _ => hp⟩
theorem fl_278 {a υ : tp_St} {e : Int32} {s : Nat} {Q : Int32 → tp_St → Prop} (h : Flt a e s υ) (fq : FQ a e s Q) : tp_E 135 278 [.ref 58, .null, .null] [] υ (RQ Q) := sg_135_278 (fl_132 h (fl_30 h fq))
theorem fl_254 {a υ : tp_St} {e : Int32} {s : Nat} {Q : Int32 → tp_St → Prop} (h : Flt a e s υ) (fq : FQ a e s Q) : tp_E 135 254 [.ref 58, .null, .null] [] υ (RQ Q) := sg_135_254 ⟨fun w => absurd w (Flt_n0 h), fun _ => fl_278 h fq⟩
theorem fl_133 {a υ : tp_St} {e lo hi : Int32} {s : Nat} {post : Int32 → tp_St → Prop} (h : Flt a e s υ) (hp : post 0 υ) : tp_E 133 0 [.ref 58, .int lo, .int hi, .null] [] υ post := sg_133_0 _ _ ⟨fun w => absurd w (Flt_nl h), fun _ => hp⟩
theorem fl_134 {a υ : tp_St} {e lo hi pr : Int32} {s : Nat} {post : Int32 → tp_St → Prop} (h : Flt a e s υ) (hp : post 0 υ) : tp_E 134 0 [.ref 58, .int lo, .int hi, .int pr] [] υ post := sg_134_0 _ _ _ ⟨fun w => absurd w (Flt_n0 h), fun _ => fl_133 h hp⟩
/-- a token that is read -/
def TK (a : tp_St) (s k : Nat) (v : Int32) (υ : tp_St) : Prop := mG a υ ∧ υ.1 58 26 = nI s ∧ (k = 0 → Flt a 1 s υ) ∧ (¬ k = 0 → υ.1 58 30 = 0 ∧ υ.1 58 28 = nI (k - 1)) ∧ (k = 2 ∨ k = 3 → υ.1 58 29 = v)
theorem fl_fail {a υ : tp_St} {e : Int32} {s : Nat} {post : Int32 → tp_St → Prop} (h : mG a υ) (h30 : υ.1 58 30 = 0) (h26 : υ.1 58 26 = nI s) (he : 0 < e.toInt) (hp : ∀ υ1, Flt a e s υ1 → mF υ υ1 → post 0 υ1) : tp_E 130 0 [.ref 58, .int e, .int (υ.1 58 26)] [] υ post := by
  refine sp_130 h30 (hp _ ⟨mG_set (mG_set h (by omega)) (by omega), ?_, ?_, he⟩ ?_)
  · rw [tp_sg_ne (by omega), tp_sg_eq]
  · rw [tp_sg_eq]; exact h26
  · exact mF_set (mF_set mF_rf (by omega)) (by omega)
def tp_in (lo hi v : Int32) : Prop := lo.toInt ≤ v.toInt ∧ v.toInt ≤ hi.toInt
def nf (k : Nat) (v lo hi c : Int32) : Prop := (k = 0 ∧ c = 1) ∨ (¬ k = 0 ∧ ¬ k = 3 ∧ c = 2) ∨ (k = 3 ∧ ¬ tp_in lo hi v ∧ c = 3)
theorem k_is2 {k : Nat} (hk : k < 10) (h0 : ¬ k = 0) : nI (k - 1) = 2 ↔ k = 3 := by
  rw [show (2 : Int32) = nI 2 from rfl, tp_ne (by omega) (by omega)]
  omega
theorem f133 {a υ : tp_St} {s k : Nat} {v lo hi c : Int32} {post : Int32 → tp_St → Prop} (hk : k < 10) (h : TK a s k v υ) (hn : nf k v lo hi c) (hp : ∀ x υ1, Flt a c s υ1 → mF υ υ1 → post x υ1) : tp_E 133 0 [.ref 58, .int lo, .int hi, .null] [] υ post := by
  obtain ⟨h1, h2, h3, h4, h5⟩ := h
  rcases hn with ⟨n1, rfl⟩ | ⟨n1, n2, rfl⟩ | ⟨n1, n2, rfl⟩
  · exact fl_133 (h3 n1) (hp _ _ (h3 n1) mF_rf)
  · obtain ⟨g1, g2⟩ := h4 n1
    refine sg_133_0 _ _ ⟨fun _ => ⟨fun w => ?_, fun _ => fl_fail h1 g1 h2 (by decide) (fun υ1 f1 f2 => fl_132 f1 (hp _ _ f1 f2))⟩, fun w => absurd (by rw [g1]; decide) w⟩
    rw [g2, k_is2 hk n1] at w
    exact absurd w n2
  · obtain ⟨g1, g2⟩ := h4 (by omega)
    refine sg_133_0 _ _ ⟨fun _ => ⟨fun _ => tp_if (sp_101 tp_i64 tp_i64 tp_i64) (fun w => ?_) (fun _ => fl_fail h1 g1 h2 (by decide) (fun υ1 f1 f2 => fl_132 f1 (hp _ _ f1 f2))), fun w => absurd ?_ w⟩, fun w => absurd (by rw [g1]; decide) w⟩
    · rw [h5 (Or.inr n1)] at w
      exact absurd w n2
    · rw [g2, k_is2 hk (by omega)]; exact n1
theorem o133 {a υ : tp_St} {s k : Nat} {v lo hi : Int32} {post : Int32 → tp_St → Prop} (h : TK a s k v υ) (hk : k = 3) (hv : tp_in lo hi v) (hp : tp_E 132 0 [.ref 58, .null] [] υ (fun _ σ => post v σ)) : tp_E 133 0 [.ref 58, .int lo, .int hi, .null] [] υ post := by
  obtain ⟨h1, h2, h3, h4, h5⟩ := h
  obtain ⟨g1, g2⟩ := h4 (by omega)
  have g3 := h5 (Or.inr hk)
  refine sg_133_0 _ _ ⟨fun _ => ⟨fun _ => tp_if (sp_101 tp_i64 tp_i64 tp_i64) (fun _ => ?_) (fun w => absurd (by rw [g3]; exact hv) w), fun w => absurd ?_ w⟩, fun w => absurd (by rw [g1]; decide) w⟩
  · rw [g3]
    exact hp
  · rw [g2, k_is2 (by omega) (by omega)]; exact hk
def af (k : Nat) (v lo hi pr c : Int32) : Prop := nf k v lo hi c ∨ (k = 3 ∧ tp_in lo hi v ∧ ¬ pr < v ∧ c = 4)
theorem f134 {a υ : tp_St} {s k : Nat} {v lo hi pr c : Int32} {post : Int32 → tp_St → Prop} (hk : k < 10) (h : TK a s k v υ) (hn : af k v lo hi pr c) (hp : ∀ x υ1, Flt a c s υ1 → mF υ υ1 → post x υ1) : tp_E 134 0 [.ref 58, .int lo, .int hi, .int pr] [] υ post := by
  rcases hn with hn | ⟨n1, n2, n3, rfl⟩
  · have go := f133 hk h hn hp
    have hn2 := hn
    obtain ⟨h1, h2, h3, h4, h5⟩ := h
    refine sg_134_0 _ _ _ ⟨fun w => ⟨fun w2 => tp_if (sp_101 tp_i64 tp_i64 tp_i64) (fun w3 => ?_) (fun _ => go), fun _ => go⟩, fun _ => go⟩
    rcases hn2 with ⟨n1, -⟩ | ⟨n1, n2, -⟩ | ⟨n1, n2, -⟩
    · exact absurd w (Flt_n0 (h3 n1))
    · rw [(h4 n1).2, k_is2 hk n1] at w2
      exact absurd w2 n2
    · rw [h5 (Or.inr n1)] at w3
      exact absurd w3 n2
  · obtain ⟨h1, h2, h3, h4, h5⟩ := h
    obtain ⟨g1, g2⟩ := h4 (by omega)
    have g3 := h5 (Or.inr n1)
    refine sg_134_0 _ _ _ ⟨fun _ => ⟨fun _ => tp_if (sp_101 tp_i64 tp_i64 tp_i64) (fun _ => ⟨fun w => ?_, fun _ => fl_fail h1 g1 h2 (by decide) (fun υ1 f1 f2 => fl_133 f1 (hp _ _ f1 f2))⟩) (fun w => absurd (by rw [g3]; exact n2) w), fun w => absurd ?_ w⟩, fun w => absurd g1 w⟩
    · rw [g3] at w; exact absurd w n3
    · rw [g2, k_is2 (by omega) (by omega)]; exact n1
theorem o134 {a υ : tp_St} {s k : Nat} {v lo hi pr : Int32} {post : Int32 → tp_St → Prop} (h : TK a s k v υ) (hk : k = 3) (hv : tp_in lo hi v) (hpr : pr < v) (hp : tp_E 132 0 [.ref 58, .null] [] υ (fun _ σ => post v σ)) : tp_E 134 0 [.ref 58, .int lo, .int hi, .int pr] [] υ post := by
  have go := o133 h hk hv hp
  obtain ⟨h1, h2, h3, h4, h5⟩ := h
  obtain ⟨g1, g2⟩ := h4 (by omega)
  have g3 := h5 (Or.inr hk)
  refine sg_134_0 _ _ _ ⟨fun _ => ⟨fun _ => tp_if (sp_101 tp_i64 tp_i64 tp_i64) (fun _ => ⟨fun _ => go, fun w => absurd (by rw [g3]; exact hpr) w⟩) (fun w => absurd (by rw [g3]; exact hv) w), fun w => absurd ?_ w⟩, fun w => absurd g1 w⟩
  rw [g2, k_is2 (by omega) (by omega)]; exact hk
/-- the semicolon that ends a law -/
def sf (k : Nat) (c : Int32) : Prop := (k = 0 ∧ c = 1) ∨ (¬ k = 0 ∧ ¬ k = 4 ∧ c = 2)
theorem f254 {a υ : tp_St} {s k : Nat} {c : Int32} {Q : Int32 → tp_St → Prop} (hk : k < 10) (h1 : mG a υ) (h2 : υ.1 58 26 = nI s) (h3 : k = 0 → Flt a 1 s υ) (h4 : ¬ k = 0 → υ.1 58 30 = 0 ∧ υ.1 58 28 = nI (k - 1)) (hn : sf k c) (fq : FQ a c s Q) : tp_E 135 254 [.ref 58, .null, .null] [] υ (RQ Q) := by
  rcases hn with ⟨n1, rfl⟩ | ⟨n1, n2, rfl⟩
  · exact fl_254 (h3 n1) fq
  · obtain ⟨g1, g2⟩ := h4 n1
    refine sg_135_254 ⟨fun _ => ⟨fun w => ?_, fun _ => fl_fail h1 g1 h2 (by decide) (fun υ1 f1 _ => fl_278 f1 fq)⟩, fun w => absurd g1 w⟩
    rw [g2, show (3 : Int32) = nI 3 from rfl, tp_ne (by omega) (by omega)] at w
    omega
theorem o254 {υ : tp_St} {k : Nat} {Q : Int32 → tp_St → Prop} (hk : k = 4) (h4 : ¬ k = 0 → υ.1 58 30 = 0 ∧ υ.1 58 28 = nI (k - 1)) (hp : tp_E 132 0 [.ref 58, .null] [] υ (fun _ σ => tp_E 136 30 [.ref 58, .null] [] σ Q)) : tp_E 135 254 [.ref 58, .null, .null] [] υ (RQ Q) := by
  obtain ⟨g1, g2⟩ := h4 (by omega)
  subst hk
  exact sg_135_254 ⟨fun _ => ⟨fun _ => sg_135_278 hp, fun w => absurd g2 w⟩, fun w => absurd g1 w⟩
