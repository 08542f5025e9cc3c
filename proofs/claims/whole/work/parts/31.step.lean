/-! where the reference stands in a law, before it reads the next token -/
def E2 (s1 : Int32) (Q : Int32 → tp_St → Prop) (y : Int32) (υ : tp_St) : Prop := vp_in s1 18 ∧ tp_E 135 254 [.ref 58, .null, .null] [] (tp_set (tp_set υ 77 s1.toNatClampNeg y) 58 33 (υ.1 58 33 + 1)) (RQ Q)
def E1 (s1 : Int32) (Q : Int32 → tp_St → Prop) (x : Int32) (υ : tp_St) : Prop := vp_in s1 18 ∧ (υ.1 58 33 = 0 → tp_E 135 151 [.ref 58, .null, .null] [.int 0, .int 999, .int 1, .ref 58, .int (s1 + 1), .ref 77] (tp_set υ 77 s1.toNatClampNeg x) (RQ Q)) ∧ (¬ υ.1 58 33 = 0 → vp_in (s1 - 1) 18 ∧ tp_E 135 151 [.ref 58, .null, .null] [.int ((tp_set υ 77 s1.toNatClampNeg x).1 77 (s1 - 1).toNatClampNeg), .int 999, .int 1, .ref 58, .int (s1 + 1), .ref 77] (tp_set υ 77 s1.toNatClampNeg x) (RQ Q))
def E0 (Q : Int32 → tp_St → Prop) (υ : tp_St) : Prop := (υ.1 58 33 = 0 → tp_E 135 116 [.ref 58, .null, .int (2 * υ.1 58 33)] [.int 0, .int 9, .int 1, .ref 58, .int (2 * υ.1 58 33), .ref 77] υ (RQ Q)) ∧ (¬ υ.1 58 33 = 0 → vp_in (2 * υ.1 58 33 - 2) 18 ∧ tp_E 135 116 [.ref 58, .null, .int (2 * υ.1 58 33)] [.int (υ.1 77 (2 * υ.1 58 33 - 2).toNatClampNeg), .int 9, .int 1, .ref 58, .int (2 * υ.1 58 33), .ref 77] υ (RQ Q))
def C3 (i : Int32) (Q : Int32 → tp_St → Prop) (z : Int32) (υ : tp_St) : Prop := vp_in (3 * i + 2) 12 ∧ tp_E 135 254 [.ref 58, .null, .null] [] (tp_set (tp_set υ 78 (3 * i + 2).toNatClampNeg z) 58 34 (υ.1 58 34 + 1)) (RQ Q)
def C2 (i : Int32) (Q : Int32 → tp_St → Prop) (y : Int32) (υ : tp_St) : Prop := vp_in (3 * i + 1) 12 ∧ tp_E 133 0 [.ref 58, .int 0, .int 100, .null] [] (tp_set υ 78 (3 * i + 1).toNatClampNeg y) (C3 i Q)
def C1 (i : Int32) (Q : Int32 → tp_St → Prop) (x : Int32) (υ : tp_St) : Prop := vp_in (3 * i) 12 ∧ vp_in (3 * i) 12 ∧ tp_E 133 0 [.ref 58, .int ((tp_set υ 78 (3 * i).toNatClampNeg x).1 78 (3 * i).toNatClampNeg + 1), .int 24, .null] [] (tp_set υ 78 (3 * i).toNatClampNeg x) (C2 i Q)
def D1 (Q : Int32 → tp_St → Prop) (x : Int32) (υ : tp_St) : Prop := tp_E 135 254 [.ref 58, .null, .null] [] (tp_set υ 58 35 x) (RQ Q)
def KK (l t f w : Nat) (N : Nat → Int32) (Q : Int32 → tp_St → Prop) (υ : tp_St) : Prop :=
  if l = 0 then (if t = 0 then E0 Q υ else if t = 1 then E1 (nI (2 * f)) Q (N 0) υ else E2 (nI (2 * f) + 1) Q (N 1) υ)
  else if l = 1 then (if t = 0 then tp_E 133 0 [.ref 58, .int 0, .int 23, .null] [] υ (C1 (υ.1 58 34) Q) else if t = 1 then C1 (nI w) Q (N 0) υ else if t = 2 then C2 (nI w) Q (N 1) υ else C3 (nI w) Q (N 2) υ)
  else if l = 2 then (if t = 0 then tp_E 133 0 [.ref 58, .int 0, .int 120, .null] [] υ (D1 Q) else D1 Q (N 0) υ)
  else tp_E 136 30 [.ref 58, .null] [] υ Q
/-- the draft of both -/
def MS (σ : tp_St) (q f w : Nat) (υ : tp_St) : Prop := υ.1 58 33 = nI f ∧ υ.1 58 34 = nI w ∧ ((σ.1 q 7 = -1 ∧ υ.1 58 35 = -4) ∨ ∃ m : Nat, m ≤ 120 ∧ σ.1 q 7 = nI m ∧ υ.1 58 35 = nI m) ∧ (∀ k, k < f → υ.1 77 (2 * k) = σ.1 (tp_lb q) k ∧ υ.1 77 (2 * k + 1) = σ.1 (tp_lb q + 1) k) ∧ (∀ k, k < w → υ.1 78 (3 * k) = σ.1 (tp_lb q + 2) k ∧ υ.1 78 (3 * k + 1) = σ.1 (tp_lb q + 3) k ∧ υ.1 78 (3 * k + 2) = σ.1 (tp_lb q + 4) k)
def MN (N : Nat → Int32) (l t f w : Nat) (υ : tp_St) : Prop := (l = 0 → t = 2 → υ.1 77 (2 * f) = N 0) ∧ (l = 1 → 2 ≤ t → υ.1 78 (3 * w) = N 0) ∧ (l = 1 → t = 3 → υ.1 78 (3 * w + 1) = N 1)
theorem MS_fr {σ υ υ' : tp_St} {q f w : Nat} (h : MS σ q f w υ) (e : ∀ o k, ((o = 58 ∧ 33 ≤ k ∧ k ≤ 35) ∨ (o = 77 ∧ k < 2 * f) ∨ (o = 78 ∧ k < 3 * w)) → υ'.1 o k = υ.1 o k) : MS σ q f w υ' := by
  obtain ⟨h1, h2, h3, h4, h5⟩ := h
  refine ⟨by rw [e 58 33 (by omega)]; exact h1, by rw [e 58 34 (by omega)]; exact h2, by rw [e 58 35 (by omega)]; exact h3, fun k hk => ?_, fun k hk => ?_⟩
  · rw [e 77 (2 * k) (by omega), e 77 (2 * k + 1) (by omega)]; exact h4 k hk
  · rw [e 78 (3 * k) (by omega), e 78 (3 * k + 1) (by omega), e 78 (3 * k + 2) (by omega)]; exact h5 k hk
/-- the latest fare of the class's draft -/
def lf (σ : tp_St) (q f j : Nat) : Int32 := if f = 0 then 0 else σ.1 (tp_lb q + j) (f - 1)
def b_lo (l t : Nat) : Int32 := [1, 1, 0, 0, 1, 0, 0, 0, 0].getD (3 * l + t) 0
def b_hi (l t : Nat) : Int32 := [9, 999, 0, 23, 24, 100, 120, 0, 0].getD (3 * l + t) 0
def lt_ok (l t : Nat) : Prop := (l = 0 ∧ t < 2) ∨ (l = 1 ∧ t < 3) ∨ (l = 2 ∧ t = 0)
/-- a number fits its law's bounds -/
def nb_in (l t : Nat) (N : Nat → Int32) (v : Int32) : Prop := tp_in (b_lo l t) (b_hi l t) v ∧ (l = 1 → t = 1 → N 0 < v)
def nb_c (σ : tp_St) (q f l t k : Nat) (v : Int32) (c : Int32) : Prop := (k = 0 ∧ c = 1) ∨ (¬ k = 0 ∧ ¬ k = 3 ∧ c = 2) ∨ (k = 3 ∧ ¬ nb_in l t (σ.1 26) v ∧ c = 3) ∨ (k = 3 ∧ nb_in l t (σ.1 26) v ∧ l = 0 ∧ ¬ lf σ q f t < v ∧ c = 4)
theorem fl_151 {a υ : tp_St} {e x : Int32} {s f : Nat} {Q : Int32 → tp_St → Prop} (hf : f < 9) (h : Flt a e s υ) (fq : FQ a e s Q) : tp_E 135 151 [.ref 58, .null, .null] [.int x, .int 999, .int 1, .ref 58, .int (nI (2 * f + 1)), .ref 77] υ (RQ Q) := by
  refine sg_135_151 _ _ _ _ (fl_134 h ⟨tp_vi (by omega) (by omega), fl_254 (Flt_set (Flt_set h (by omega)) (by omega)) fq⟩)
theorem fl_E1 {a υ : tp_St} {e x : Int32} {s f : Nat} {Q : Int32 → tp_St → Prop} (hf : f < 9) (h33 : υ.1 58 33 = nI f) (h : Flt a e s υ) (fq : FQ a e s Q) : E1 (nI (2 * f)) Q x υ := by
  unfold E1
  rw [h33, nI_1]
  refine ⟨tp_vi (by omega) (by omega), fun _ => fl_151 hf (Flt_set h (by omega)) fq, fun w => ⟨?_, fl_151 hf (Flt_set h (by omega)) fq⟩⟩
  have hf0 : f ≠ 0 := fun q => w (by rw [q]; rfl)
  rw [show nI (2 * f) - 1 = nI (2 * f - 1) by rw [show (1 : Int32) = nI 1 from rfl, tp_subN (by omega) (by omega)]]
  exact tp_vi (by omega) (by omega)
theorem fl_C3 {a υ : tp_St} {e x : Int32} {s w : Nat} {Q : Int32 → tp_St → Prop} (hw : w < 4) (h : Flt a e s υ) (fq : FQ a e s Q) : C3 (nI w) Q x υ := by
  unfold C3
  rw [tp_3, show (2 : Int32) = nI 2 from rfl, nI_add]
  exact ⟨tp_vi (by omega) (by omega), fl_254 (Flt_set (Flt_set h (by omega)) (by omega)) fq⟩
theorem fl_C2 {a υ : tp_St} {e x : Int32} {s w : Nat} {Q : Int32 → tp_St → Prop} (hw : w < 4) (h : Flt a e s υ) (fq : FQ a e s Q) : C2 (nI w) Q x υ := by
  unfold C2
  rw [tp_3, nI_1]
  have h1 := Flt_set (v := x) (o := 78) (k := (nI (3 * w + 1)).toNatClampNeg) h (by omega)
  exact ⟨tp_vi (by omega) (by omega), fl_133 h1 (fl_C3 hw h1 fq)⟩
theorem fl_C1 {a υ : tp_St} {e x : Int32} {s w : Nat} {Q : Int32 → tp_St → Prop} (hw : w < 4) (h : Flt a e s υ) (fq : FQ a e s Q) : C1 (nI w) Q x υ := by
  unfold C1
  rw [tp_3]
  have h1 := Flt_set (v := x) (o := 78) (k := (nI (3 * w)).toNatClampNeg) h (by omega)
  exact ⟨tp_vi (by omega) (by omega), tp_vi (by omega) (by omega), fl_133 h1 (fl_C2 hw h1 fq)⟩
theorem TK_set {a υ : tp_St} {s k o j : Nat} {v x : Int32} (h : TK a s k v υ) (ho : o = 77 ∨ o = 78) : TK a s k v (tp_set υ o j x) := by
  obtain ⟨h1, h2, h3, h4, h5⟩ := h
  refine ⟨mG_set h1 (by omega), by rw [tp_sg_ne (by omega)]; exact h2, fun w => Flt_set (h3 w) (by omega), fun w => ?_, fun w => by rw [tp_sg_ne (by omega)]; exact h5 w⟩
  rw [tp_sg_ne (by omega), tp_sg_ne (by omega)]
  exact h4 w
/-- what the reference takes for the fare before -/
theorem E0_eq {σ υ : tp_St} {q f w : Nat} {Q : Int32 → tp_St → Prop} (hf : f < 9) (hM : MS σ q f w υ) (h : tp_E 135 116 [.ref 58, .null, .int (nI (2 * f))] [.int (lf σ q f 0), .int 9, .int 1, .ref 58, .int (nI (2 * f)), .ref 77] υ (RQ Q)) : E0 Q υ := by
  obtain ⟨h1, h2, h3, h4, h5⟩ := hM
  unfold E0
  rw [h1, tp_2i]
  unfold lf at h
  refine ⟨fun z => ?_, fun z => ?_⟩
  · have : f = 0 := by have := (tp_ne (a := f) (b := 0) (by omega) (by omega)).mp z; omega
    rw [if_pos this] at h
    exact h
  · have hf0 : f ≠ 0 := fun y => z (by rw [y]; rfl)
    rw [if_neg hf0] at h
    rw [show nI (2 * f) - 2 = nI (2 * f - 2) by rw [show (2 : Int32) = nI 2 from rfl, tp_subN (by omega) (by omega)], tp_c (show 2 * f - 2 < 1000000 by omega), show 2 * f - 2 = 2 * (f - 1) by omega, (h4 (f - 1) (by omega)).1]
    exact ⟨tp_vi (by omega) (by omega), h⟩
theorem E1_eq {σ υ : tp_St} {q f w : Nat} {x : Int32} {Q : Int32 → tp_St → Prop} (hf : f < 9) (hM : MS σ q f w υ) (h : tp_E 135 151 [.ref 58, .null, .null] [.int (lf σ q f 1), .int 999, .int 1, .ref 58, .int (nI (2 * f + 1)), .ref 77] (tp_set υ 77 (2 * f) x) (RQ Q)) : E1 (nI (2 * f)) Q x υ := by
  obtain ⟨h1, h2, h3, h4, h5⟩ := hM
  unfold E1
  rw [h1, nI_1, tp_c (show 2 * f < 1000000 by omega)]
  unfold lf at h
  refine ⟨tp_vi (by omega) (by omega), fun z => ?_, fun z => ?_⟩
  · have : f = 0 := by have := (tp_ne (a := f) (b := 0) (by omega) (by omega)).mp z; omega
    rw [if_pos this] at h
    exact h
  · have hf0 : f ≠ 0 := fun y => z (by rw [y]; rfl)
    rw [if_neg hf0] at h
    rw [show nI (2 * f) - 1 = nI (2 * f - 1) by rw [show (1 : Int32) = nI 1 from rfl, tp_subN (by omega) (by omega)], tp_c (show 2 * f - 1 < 1000000 by omega), show 2 * f - 1 = 2 * (f - 1) + 1 by omega, tp_sg_ne (by omega), (h4 (f - 1) (by omega)).2]
    exact ⟨tp_vi (by omega) (by omega), h⟩
theorem nb_in3 {l t k : Nat} {N : Nat → Int32} {v lo hi c : Int32} (h : (k = 0 ∧ c = 1) ∨ (¬ k = 0 ∧ ¬ k = 3 ∧ c = 2) ∨ (k = 3 ∧ ¬ nb_in l t N v ∧ c = 3)) (e : nb_in l t N v ↔ tp_in lo hi v) : nf k v lo hi c := by
  rw [e] at h
  exact h
theorem nb_std {l t : Nat} {N : Nat → Int32} {v : Int32} (h : ¬ (l = 1 ∧ t = 1)) : nb_in l t N v ↔ tp_in (b_lo l t) (b_hi l t) v := ⟨fun w => w.1, fun w => ⟨w, fun a b => absurd ⟨a, b⟩ h⟩⟩
theorem nb_11 {N : Nat → Int32} {v : Int32} (h0 : tp_rg 0 23 (N 0)) : nb_in 1 1 N v ↔ tp_in (N 0 + 1) 24 v := by
  have h1 := h0.1
  have h2 := h0.2
  have e1 : (N 0 + 1).toInt = (N 0).toInt + 1 := by
    rw [Int32.toInt_add, show (1 : Int32).toInt = 1 from rfl]
    simp only [Int.bmod_def]
    omega
  unfold nb_in tp_in
  rw [e1, tp_lt]
  show ((1 : Int) ≤ v.toInt ∧ v.toInt ≤ 24) ∧ (1 = 1 → 1 = 1 → (N 0).toInt < v.toInt) ↔ (N 0).toInt + 1 ≤ v.toInt ∧ v.toInt ≤ 24
  constructor
  · rintro ⟨⟨a1, a2⟩, a3⟩
    have := a3 rfl rfl
    omega
  · rintro ⟨a1, a2⟩
    exact ⟨⟨by omega, by omega⟩, fun _ _ => by omega⟩
/-- a number that is none, or does not fit -/
theorem kk_nf {a σ υ : tp_St} {q f w l t s k : Nat} {v c : Int32} {Q : Int32 → tp_St → Prop} (hlt : lt_ok l t) (hf : l = 0 → f < 9) (hw : l = 1 → w < 4) (hN : l = 1 → t = 1 → tp_rg 0 23 (σ.1 26 0)) (hk : k < 10) (T : TK a s k v υ) (hM : MS σ q f w υ) (hc : nb_c σ q f l t k v c) (fq : FQ a c s Q) : KK l t f w (σ.1 26) Q υ := by
  unfold KK
  rcases hlt with ⟨rfl, ht⟩ | ⟨rfl, ht⟩ | ⟨rfl, rfl⟩
  · have hf := hf rfl
    rw [if_pos rfl]
    have haf : ∀ lo hi : Int32, (nb_in 0 t (σ.1 26) v ↔ tp_in lo hi v) → af k v lo hi (lf σ q f t) c := fun lo hi e => by
      rcases hc with z | z | z | ⟨z1, z2, -, z3, z4⟩
      · exact Or.inl (nb_in3 (Or.inl z) e)
      · exact Or.inl (nb_in3 (Or.inr (Or.inl z)) e)
      · exact Or.inl (nb_in3 (Or.inr (Or.inr z)) e)
      · exact Or.inr ⟨z1, e.mp z2, z3, z4⟩
    rcases (show t = 0 ∨ t = 1 by omega) with rfl | rfl
    · rw [if_pos rfl]
      refine E0_eq hf hM (sg_135_116 _ _ _ _ _ (f134 hk T (haf 1 9 (nb_std (by omega))) (fun x υ1 F F2 => ?_)))
      exact fl_E1 hf ((F2.1 58 33 (by omega)).trans hM.1) F fq
    · rw [if_neg (by omega), if_pos rfl]
      refine E1_eq hf hM (sg_135_151 _ _ _ _ (f134 hk (TK_set T (by omega)) (haf 1 999 (nb_std (by omega))) (fun x υ1 F F2 => ⟨tp_vi (by omega) (by omega), fl_254 (Flt_set (Flt_set F (by omega)) (by omega)) fq⟩)))
  · have hw := hw rfl
    rw [if_neg (by omega), if_pos rfl]
    have hnf : ∀ lo hi : Int32, (nb_in 1 t (σ.1 26) v ↔ tp_in lo hi v) → nf k v lo hi c := fun lo hi e => by
      rcases hc with z | z | z | ⟨z1, z2, z0, -⟩
      · exact nb_in3 (Or.inl z) e
      · exact nb_in3 (Or.inr (Or.inl z)) e
      · exact nb_in3 (Or.inr (Or.inr z)) e
      · cases z0
    rcases (show t = 0 ∨ t = 1 ∨ t = 2 by omega) with rfl | rfl | rfl
    · rw [if_pos rfl, hM.2.1]
      exact f133 hk T (hnf 0 23 (nb_std (by omega))) (fun x υ1 F _ => fl_C1 hw F fq)
    · rw [if_neg (by omega), if_pos rfl]
      unfold C1
      rw [tp_3, tp_c (show 3 * w < 1000000 by omega), tp_sg_eq]
      exact ⟨tp_vi (by omega) (by omega), tp_vi (by omega) (by omega), f133 hk (TK_set T (by omega)) (hnf _ 24 (nb_11 (hN rfl rfl))) (fun x υ1 F _ => fl_C2 hw F fq)⟩
    · rw [if_neg (by omega), if_neg (by omega), if_pos rfl]
      unfold C2
      rw [tp_3, nI_1]
      exact ⟨tp_vi (by omega) (by omega), f133 hk (TK_set T (by omega)) (hnf 0 100 (nb_std (by omega))) (fun x υ1 F _ => fl_C3 hw F fq)⟩
  · rw [if_neg (by omega), if_neg (by omega), if_pos rfl, if_pos rfl]
    have hnf : nf k v 0 120 c := by
      rcases hc with z | z | z | ⟨z1, z2, z0, -⟩
      · exact nb_in3 (l := 2) (t := 0) (N := σ.1 26) (Or.inl z) (nb_std (by omega))
      · exact nb_in3 (l := 2) (t := 0) (N := σ.1 26) (Or.inr (Or.inl z)) (nb_std (by omega))
      · exact nb_in3 (Or.inr (Or.inr z)) (nb_std (by omega))
      · cases z0
    exact f133 hk T hnf (fun x υ1 F _ => fl_254 (Flt_set F (by omega)) fq)
