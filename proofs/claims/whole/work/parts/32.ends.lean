/-! good numbers, names, semicolons, the end -/
theorem kk_ok {a σ υ : tp_St} {q f w l t s : Nat} {v : Int32} {N N' : Nat → Int32} {Q : Int32 → tp_St → Prop} (hlt : lt_ok l t) (hf : l = 0 → f < 9) (hw : l = 1 → w < 4) (hN : l = 1 → t = 1 → tp_rg 0 23 (N 0)) (T : TK a s 3 v υ) (hM : MS σ q f w υ) (hMN : MN N l t f w υ) (hv : nb_in l t N v) (hpr : l = 0 → lf σ q f t < v) (n1 : N' t = v) (n2 : ∀ j, j < t → N' j = N j)
    (A : ∀ υ2, mG a υ2 → (∀ k, υ2.1 58 k = υ.1 58 k) → MS σ q f w υ2 → MN N' l (t + 1) f w υ2 → tp_E 132 0 [.ref 58, .null] [] υ2 (fun _ σ' => KK l (t + 1) f w N' Q σ')) : KK l t f w N Q υ := by
  have hv' : ¬ (l = 1 ∧ t = 1) → tp_in (b_lo l t) (b_hi l t) v := fun _ => hv.1
  unfold KK
  rcases hlt with ⟨rfl, ht⟩ | ⟨rfl, ht⟩ | ⟨rfl, rfl⟩
  · have hf := hf rfl
    rw [if_pos rfl]
    rcases (show t = 0 ∨ t = 1 by omega) with rfl | rfl
    · rw [if_pos rfl]
      have go := A υ T.1 (fun _ => rfl) hM ⟨fun _ w => by omega, fun w => by omega, fun w => by omega⟩
      refine E0_eq hf hM (sg_135_116 _ _ _ _ _ (o134 (lo := 1) (hi := 9) T rfl hv.1 (hpr rfl) (tp_Em go (fun _ σ' z => ?_))))
      unfold KK at z
      rw [if_pos rfl, if_neg (by omega), if_pos rfl, n1] at z
      exact z
    · rw [if_neg (by omega), if_pos rfl]
      have go := A (tp_set υ 77 (2 * f) (N 0)) (mG_set T.1 (by omega)) (fun k => by rw [tp_sg_ne (by omega)]) (MS_fr hM (fun o k hk => by rw [tp_sg_ne (by omega)])) ⟨fun _ _ => by rw [tp_sg_eq, n2 0 (by omega)], fun w => by omega, fun w => by omega⟩
      refine E1_eq hf hM (sg_135_151 _ _ _ _ (o134 (lo := 1) (hi := 999) (TK_set T (by omega)) rfl hv.1 (hpr rfl) (tp_Em go (fun _ σ' z => ?_))))
      unfold KK E2 at z
      rw [if_pos rfl, if_neg (by omega), if_neg (by omega), n1, nI_1] at z
      exact z
  · have hw := hw rfl
    rw [if_neg (by omega), if_pos rfl]
    rcases (show t = 0 ∨ t = 1 ∨ t = 2 by omega) with rfl | rfl | rfl
    · rw [if_pos rfl, hM.2.1]
      have go := A υ T.1 (fun _ => rfl) hM ⟨fun w => by omega, fun _ w => by omega, fun _ w => by omega⟩
      refine o133 (lo := 0) (hi := 23) T rfl hv.1 (tp_Em go (fun _ σ' z => ?_))
      unfold KK at z
      rw [if_neg (by omega), if_pos rfl, if_neg (by omega), if_pos rfl, n1] at z
      exact z
    · rw [if_neg (by omega), if_pos rfl]
      have go := A (tp_set υ 78 (3 * w) (N 0)) (mG_set T.1 (by omega)) (fun k => by rw [tp_sg_ne (by omega)]) (MS_fr hM (fun o k hk => by rw [tp_sg_ne (by omega)])) ⟨fun w => by omega, fun _ _ => by rw [tp_sg_eq, n2 0 (by omega)], fun _ w => by omega⟩
      unfold C1
      rw [tp_3, tp_c (show 3 * w < 1000000 by omega), tp_sg_eq]
      refine ⟨tp_vi (by omega) (by omega), tp_vi (by omega) (by omega), o133 (lo := N 0 + 1) (hi := 24) (TK_set T (by omega)) rfl ((nb_11 (hN rfl rfl)).mp hv) (tp_Em go (fun _ σ' z => ?_))⟩
      unfold KK at z
      rw [if_neg (by omega), if_pos rfl, if_neg (by omega), if_neg (by omega), if_pos rfl, n1] at z
      exact z
    · rw [if_neg (by omega), if_neg (by omega), if_pos rfl]
      have go := A (tp_set υ 78 (3 * w + 1) (N 1)) (mG_set T.1 (by omega)) (fun k => by rw [tp_sg_ne (by omega)]) (MS_fr hM (fun o k hk => by rw [tp_sg_ne (by omega)])) ⟨fun w => by omega, fun _ _ => by rw [tp_sg_ne (by omega), n2 0 (by omega)]; exact hMN.2.1 rfl (by omega), fun _ _ => by rw [tp_sg_eq, n2 1 (by omega)]⟩
      unfold C2
      rw [tp_3, nI_1, tp_c (show 3 * w + 1 < 1000000 by omega)]
      refine ⟨tp_vi (by omega) (by omega), o133 (lo := 0) (hi := 100) (TK_set T (by omega)) rfl hv.1 (tp_Em go (fun _ σ' z => ?_))⟩
      unfold KK at z
      rw [if_neg (by omega), if_pos rfl, if_neg (by omega), if_neg (by omega), if_neg (by omega), n1] at z
      exact z
  · rw [if_neg (by omega), if_neg (by omega), if_pos rfl, if_pos rfl]
    have go := A υ T.1 (fun _ => rfl) hM ⟨fun w => by omega, fun w => by omega, fun w => by omega⟩
    refine o133 (lo := 0) (hi := 120) T rfl hv.1 (tp_Em go (fun _ σ' z => ?_))
    unfold KK at z
    rw [if_neg (by omega), if_neg (by omega), if_pos rfl, if_neg (by omega), n1] at z
    exact z
/-! where a law ends -/
def lt_end (l t : Nat) : Prop := (l = 0 ∧ t = 2) ∨ (l = 1 ∧ t = 3) ∨ (l = 2 ∧ t = 1)
theorem TK_set2 {a υ : tp_St} {s k o j : Nat} {v x : Int32} (h : TK a s k v υ) (ho : o = 77 ∨ o = 78 ∨ (o = 58 ∧ 33 ≤ j ∧ j ≤ 35)) : TK a s k v (tp_set υ o j x) := by
  obtain ⟨h1, h2, h3, h4, h5⟩ := h
  refine ⟨mG_set h1 (by omega), by rw [tp_sg_ne (by omega)]; exact h2, fun w => Flt_set (h3 w) (by omega), fun w => ?_, fun w => by rw [tp_sg_ne (by omega)]; exact h5 w⟩
  rw [tp_sg_ne (by omega), tp_sg_ne (by omega)]
  exact h4 w
/-- the reference's law is put down, before its semicolon is judged -/
def fin_l (l f w : Nat) (N : Nat → Int32) (υ : tp_St) : tp_St := if l = 0 then tp_set (tp_set υ 77 (2 * f + 1) (N 1)) 58 33 (nI (f + 1)) else if l = 1 then tp_set (tp_set υ 78 (3 * w + 2) (N 2)) 58 34 (nI (w + 1)) else tp_set υ 58 35 (N 0)
theorem kk_end {a σ υ : tp_St} {q f w l t s k : Nat} {v : Int32} {N : Nat → Int32} {Q : Int32 → tp_St → Prop} (hlt : lt_end l t) (hf : l = 0 → f < 9) (hw : l = 1 → w < 4) (T : TK a s k v υ) (hM : MS σ q f w υ) (h : TK a s k v (fin_l l f w N υ) → tp_E 135 254 [.ref 58, .null, .null] [] (fin_l l f w N υ) (RQ Q)) : KK l t f w N Q υ := by
  unfold KK
  unfold fin_l at h
  rcases hlt with ⟨rfl, rfl⟩ | ⟨rfl, rfl⟩ | ⟨rfl, rfl⟩
  · have hf := hf rfl
    rw [if_pos rfl, if_neg (by omega), if_neg (by omega)]
    rw [if_pos rfl] at h
    unfold E2
    rw [nI_1, tp_c (show 2 * f + 1 < 1000000 by omega), hM.1, nI_1]
    exact ⟨tp_vi (by omega) (by omega), h (TK_set2 (TK_set2 T (by omega)) (by omega))⟩
  · have hw := hw rfl
    rw [if_neg (by omega), if_pos rfl, if_neg (by omega), if_neg (by omega), if_neg (by omega)]
    rw [if_neg (by omega), if_pos rfl] at h
    unfold C3
    rw [tp_3, show (2 : Int32) = nI 2 from rfl, nI_add, tp_c (show 3 * w + 2 < 1000000 by omega), hM.2.1, nI_1]
    exact ⟨tp_vi (by omega) (by omega), h (TK_set2 (TK_set2 T (by omega)) (by omega))⟩
  · rw [if_neg (by omega), if_neg (by omega), if_pos rfl, if_neg (by omega)]
    rw [if_neg (by omega), if_neg (by omega)] at h
    exact h (TK_set2 T (by omega))
theorem kk_sf {a σ υ : tp_St} {q f w l t s k : Nat} {v c : Int32} {N : Nat → Int32} {Q : Int32 → tp_St → Prop} (hlt : lt_end l t) (hf : l = 0 → f < 9) (hw : l = 1 → w < 4) (hk : k < 10) (T : TK a s k v υ) (hM : MS σ q f w υ) (hc : sf k c) (fq : FQ a c s Q) : KK l t f w N Q υ :=
  kk_end hlt hf hw T hM (fun T2 => f254 hk T2.1 T2.2.1 T2.2.2.1 T2.2.2.2.1 hc fq)
theorem kk_so {a σ υ : tp_St} {q f w l t s : Nat} {v : Int32} {N : Nat → Int32} {Q : Int32 → tp_St → Prop} (hlt : lt_end l t) (hf : l = 0 → f < 9) (hw : l = 1 → w < 4) (T : TK a s 4 v υ) (hM : MS σ q f w υ) (A : tp_E 132 0 [.ref 58, .null] [] (fin_l l f w N υ) (fun _ σ' => tp_E 136 30 [.ref 58, .null] [] σ' Q)) : KK l t f w N Q υ :=
  kk_end hlt hf hw T hM (fun T2 => o254 rfl T2.2.2.2.1 A)
/-! between laws -/
def rm (l f w : Nat) (c : Int32) : Prop := (l = 0 ∧ f < 9) ∨ (l = 1 ∧ w < 4) ∨ (l = 2 ∧ c = -4)
theorem n_bad {a υ : tp_St} {s k : Nat} {v : Int32} {Q : Int32 → tp_St → Prop} (T : TK a s k v υ) (hk : k = 0) (fq : FQ a 1 s Q) : tp_E 136 30 [.ref 58, .null] [] υ Q := fl_30 (T.2.2.1 hk) fq
theorem n_mis {a υ : tp_St} {s k : Nat} {v : Int32} {Q : Int32 → tp_St → Prop} (T : TK a s k v υ) (hk : k = 3 ∨ k = 4) (fq : FQ a 2 s Q) : tp_E 136 30 [.ref 58, .null] [] υ Q := by
  obtain ⟨h1, h2, h3, h4, h5⟩ := T
  obtain ⟨g1, g2⟩ := h4 (by omega)
  have n0 : ¬ nI (k - 1) = 0 := by rw [show (0 : Int32) = nI 0 from rfl, tp_ne (by omega) (by omega)]; omega
  have n1 : ¬ nI (k - 1) = 1 := by rw [show (1 : Int32) = nI 1 from rfl, tp_ne (by omega) (by omega)]; omega
  refine sg_136_30 ⟨fun _ => ⟨fun w => absurd (g2 ▸ w) n0, fun _ => sg_135_0 ⟨fun w => absurd (g2 ▸ w) n1, fun _ => fl_fail h1 g1 h2 (by decide) (fun υ1 f1 _ => fl_30 f1 fq)⟩⟩, fun w => absurd g1 w⟩
theorem n_nam {a σ υ : tp_St} {s q f w l : Nat} {v : Int32} {Q : Int32 → tp_St → Prop} (T : TK a s 2 v υ) (hM : MS σ q f w υ) (hl : l < 3) (hv : v = nI l) (hf9 : f ≤ 9) (hw4 : w ≤ 4) (ok : rm l f w (υ.1 58 35) → tp_E 132 0 [.ref 58, .null] [] υ (fun _ σ' => KK l 0 f w (σ.1 26) Q σ')) (full : ¬ rm l f w (υ.1 58 35) → FQ a 5 s Q) : tp_E 136 30 [.ref 58, .null] [] υ Q := by
  obtain ⟨h1, h2, h3, h4, h5⟩ := T
  obtain ⟨g1, g2⟩ := h4 (by omega)
  have g3 := h5 (Or.inl rfl)
  have g2 : υ.1 58 28 = 1 := g2
  have f63 : ¬ rm l f w (υ.1 58 35) → tp_E 135 63 [.ref 58, .null, .null] [] υ (RQ Q) := fun hn => sg_135_63 (fl_fail h1 g1 h2 (by decide) (fun υ1 f1 _ => fl_30 f1 (full hn)))
  have l0 : nI l = 0 ↔ l = 0 := by rw [show (0 : Int32) = nI 0 from rfl, tp_ne (by omega) (by omega)]
  have l1 : nI l = 1 ↔ l = 1 := by rw [show (1 : Int32) = nI 1 from rfl, tp_ne (by omega) (by omega)]
  have l2 : nI l = 2 ↔ l = 2 := by rw [show (2 : Int32) = nI 2 from rfl, tp_ne (by omega) (by omega)]
  have c9 : nI f = 9 ↔ f = 9 := by rw [show (9 : Int32) = nI 9 from rfl, tp_ne (by omega) (by omega)]
  have c4 : nI w = 4 ↔ w = 4 := by rw [show (4 : Int32) = nI 4 from rfl, tp_ne (by omega) (by omega)]
  have f73 : rm l f w (υ.1 58 35) → tp_E 135 73 [.ref 58, .int (nI l), .null] [] υ (RQ Q) := fun hr => by
    refine sg_135_73 _ (tp_Em (ok hr) (fun _ σ' z => ?_))
    rw [l0, l1]
    unfold KK at z
    refine ⟨fun y => ?_, fun y => ⟨fun y2 => ?_, fun y2 => ?_⟩⟩
    · rw [if_pos y, if_pos rfl] at z; exact z
    · rw [if_neg y, if_pos y2, if_pos rfl] at z; exact z
    · rw [if_neg y, if_neg y2, if_pos (by omega), if_pos rfl] at z; exact z
  have f49 : (l = 2 ∨ rm l f w (υ.1 58 35)) → tp_E 135 49 [.ref 58, .int (nI l), .null] [] υ (RQ Q) := fun hr => by
    refine sg_135_49 _ ?_
    rw [l2]
    refine ⟨fun y => ⟨fun y2 => f73 (Or.inr (Or.inr ⟨y, y2⟩)), fun y2 => f63 (fun hn => ?_)⟩, fun y => f73 (hr.resolve_left y)⟩
    rcases hn with ⟨z, -⟩ | ⟨z, -⟩ | ⟨-, z⟩
    · omega
    · omega
    · exact y2 z
  have f36 : (l ≠ 0 ∨ rm l f w (υ.1 58 35)) → tp_E 135 36 [.ref 58, .int (nI l), .null] [] υ (RQ Q) := fun hr => by
    refine sg_135_36 _ ?_
    rw [l1, hM.2.1, c4]
    refine ⟨fun y => ⟨fun y2 => f63 (fun hn => ?_), fun y2 => f49 (Or.inr (Or.inr (Or.inl ⟨y, by omega⟩)))⟩, fun y => f49 ?_⟩
    · rcases hn with ⟨z, -⟩ | ⟨-, z⟩ | ⟨z, -⟩ <;> omega
    · rcases hr with z | z
      · exact Or.inl (by omega)
      · exact Or.inr z
  refine sg_136_30 ⟨fun _ => ⟨fun y => absurd (g2 ▸ y) (by decide), fun _ => sg_135_0 ⟨fun _ => ?_, fun y => absurd g2 y⟩⟩, fun y => absurd g1 y⟩
  rw [g3, hv, l0, hM.1, c9]
  refine ⟨fun y => ⟨fun y2 => f63 (fun hn => ?_), fun y2 => f36 (Or.inr (Or.inl ⟨y, by omega⟩))⟩, fun y => f36 (Or.inl y)⟩
  rcases hn with ⟨-, z⟩ | ⟨z, -⟩ | ⟨z, -⟩ <;> omega
/-- the reference tells its draft -/
def n_fin (a σ : tp_St) (q f w : Nat) (Q : Int32 → tp_St → Prop) : Prop := ∀ υ' r, (∀ o k, ¬ (o = 74 ∨ o = 75 ∨ o = 76 ∨ o = 77 ∨ o = 78 ∨ (o = 58 ∧ 18 ≤ k ∧ k ≤ 35)) → υ'.1 o k = a.1 o k) → υ'.2 = a.2 → υ'.1 58 18 = 0 → υ'.1 58 19 = 0 → υ'.1 58 20 = nI f → υ'.1 58 22 = nI w → ((σ.1 q 7 = -1 ∧ υ'.1 58 24 = -4 ∧ υ'.1 58 25 = nI (f + w) ∧ r = nI (f + w)) ∨ ∃ m : Nat, m ≤ 120 ∧ σ.1 q 7 = nI m ∧ υ'.1 58 24 = nI m ∧ υ'.1 58 25 = nI (f + w + 1) ∧ r = nI (f + w + 1)) → (∀ k, k < f → υ'.1 74 (2 * k) = σ.1 (tp_lb q) k ∧ υ'.1 74 (2 * k + 1) = σ.1 (tp_lb q + 1) k) → (∀ k, k < w → υ'.1 75 (3 * k) = σ.1 (tp_lb q + 2) k ∧ υ'.1 75 (3 * k + 1) = σ.1 (tp_lb q + 3) k ∧ υ'.1 75 (3 * k + 2) = σ.1 (tp_lb q + 4) k) → Q r υ'
theorem n_end {a σ υ : tp_St} {s q f w : Nat} {v : Int32} {Q : Int32 → tp_St → Prop} (T : TK a s 1 v υ) (hM : MS σ q f w υ) (hf9 : f ≤ 9) (hw4 : w ≤ 4) (fq : n_fin a σ q f w Q) : tp_E 136 30 [.ref 58, .null] [] υ Q := by
  obtain ⟨h1, h2, h3, h4, h5⟩ := T
  obtain ⟨g1, g2⟩ := h4 (by omega)
  have g2 : υ.1 58 28 = 0 := g2
  obtain ⟨m1, m2, m3, m4, m5⟩ := hM
  refine sg_136_30 ⟨fun _ => ⟨fun _ => ⟨fun _ => ?_, fun y => absurd (by rw [g1]; decide) y⟩, fun y => absurd g2 y⟩, fun y => absurd g1 y⟩
  rw [g1, m1, m2]
  generalize hb : tp_set (tp_set (tp_set (tp_set (tp_set υ 58 18 0) 58 19 0) 58 20 (nI f)) 58 22 (nI w)) 58 24 (υ.1 58 35) = b
  have bne : ∀ o k, ¬ (o = 58 ∧ 18 ≤ k ∧ k ≤ 24) → b.1 o k = υ.1 o k := fun o k ho => by rw [← hb, tp_sg_ne (by omega), tp_sg_ne (by omega), tp_sg_ne (by omega), tp_sg_ne (by omega), tp_sg_ne (by omega)]
  have b2 : b.2 = υ.2 := by rw [← hb]; rfl
  have b18 : b.1 58 18 = 0 := by rw [← hb, tp_sg_ne (by omega), tp_sg_ne (by omega), tp_sg_ne (by omega), tp_sg_ne (by omega), tp_sg_eq]
  have b19 : b.1 58 19 = 0 := by rw [← hb, tp_sg_ne (by omega), tp_sg_ne (by omega), tp_sg_ne (by omega), tp_sg_eq]
  have b20 : b.1 58 20 = nI f := by rw [← hb, tp_sg_ne (by omega), tp_sg_ne (by omega), tp_sg_eq]
  have b22 : b.1 58 22 = nI w := by rw [← hb, tp_sg_ne (by omega), tp_sg_eq]
  have b24 : b.1 58 24 = υ.1 58 35 := by rw [← hb, tp_sg_eq]
  clear hb
  refine tp_up_loop (E := fun i => ∀ c : tp_St, (∀ o k, ¬ o = 74 → c.1 o k = b.1 o k) → c.2 = b.2 → (∀ k, k < i → c.1 74 k = υ.1 77 k) → tp_E 136 105 [.ref 58, .int (nI i)] [] c Q) (n := 18) (fun i hi z c c1 c2 c3 => ?_) (fun c c1 c2 c3 => ?_) 0 (Nat.zero_le _) b (fun _ _ _ => rfl) rfl (fun k hk => absurd hk (Nat.not_lt_zero k))
  · refine sg_136_105 _ ?_
    rw [tp_c (show i < 1000000 by omega), show (18 : Int32) = nI 18 from rfl, nI_1]
    refine ⟨fun y => absurd y (tp_nle hi (by omega)), fun _ => ⟨tp_vi hi (by omega), tp_vi hi (by omega), z _ (fun o k ho => by rw [tp_sg_ne (by omega)]; exact c1 o k ho) c2 (fun k hk => ?_)⟩⟩
    by_cases y : k = i
    · subst y
      rw [tp_sg_eq, c1 77 k (by omega), bne 77 k (by omega)]
    · rw [tp_sg_ne (by omega)]; exact c3 k (by omega)
  · refine sg_136_105 _ ?_
    rw [show (18 : Int32) = nI 18 from rfl]
    refine ⟨fun _ => ?_, fun y => absurd (tp_le.mpr (Int.le_refl _)) y⟩
    refine tp_up_loop (E := fun i => ∀ d : tp_St, (∀ o k, ¬ o = 75 → d.1 o k = c.1 o k) → d.2 = c.2 → (∀ k, k < i → d.1 75 k = υ.1 78 k) → tp_E 136 131 [.ref 58, .int (nI i)] [] d Q) (n := 12) (fun i hi z d d1 d2 d3 => ?_) (fun d d1 d2 d3 => ?_) 0 (Nat.zero_le _) c (fun _ _ _ => rfl) rfl (fun k hk => absurd hk (Nat.not_lt_zero k))
    · refine sg_136_131 _ ?_
      rw [tp_c (show i < 1000000 by omega), show (12 : Int32) = nI 12 from rfl, nI_1]
      refine ⟨fun y => absurd y (tp_nle hi (by omega)), fun _ => ⟨tp_vi hi (by omega), tp_vi hi (by omega), z _ (fun o k ho => by rw [tp_sg_ne (by omega)]; exact d1 o k ho) d2 (fun k hk => ?_)⟩⟩
      by_cases y : k = i
      · subst y
        rw [tp_sg_eq, d1 78 k (by omega), c1 78 k (by omega), bne 78 k (by omega)]
      · rw [tp_sg_ne (by omega)]; exact d3 k (by omega)
    · refine sg_136_131 _ ?_
      have d58 : ∀ k, d.1 58 k = b.1 58 k := fun k => (d1 58 k (by omega)).trans (c1 58 k (by omega))
      rw [show (12 : Int32) = nI 12 from rfl, d58 24, d58 20, d58 22, b24, b20, b22, nI_add, Int32.add_zero, nI_1]
      have e : ∀ x, (∀ o k, ¬ (o = 74 ∨ o = 75 ∨ o = 76 ∨ o = 77 ∨ o = 78 ∨ (o = 58 ∧ 18 ≤ k ∧ k ≤ 35)) → (tp_set d 58 25 x).1 o k = a.1 o k) := fun x o k ho => by
        rw [tp_sg_ne (by omega), d1 o k (by omega), c1 o k (by omega), bne o k (by omega)]
        exact h1.1 o k (by omega)
      have g : ∀ x r, ((σ.1 q 7 = -1 ∧ υ.1 58 35 = -4 ∧ x = nI (f + w) ∧ r = nI (f + w)) ∨ ∃ m : Nat, m ≤ 120 ∧ σ.1 q 7 = nI m ∧ υ.1 58 35 = nI m ∧ x = nI (f + w + 1) ∧ r = nI (f + w + 1)) → Q r (tp_set d 58 25 x) := fun x r hx => by
        refine fq _ _ (e x) (d2.trans (c2.trans (b2.trans h1.2))) ?_ ?_ ?_ ?_ ?_ (fun k hk => ?_) (fun k hk => ?_)
        · rw [tp_sg_ne (by omega), d58]; exact b18
        · rw [tp_sg_ne (by omega), d58]; exact b19
        · rw [tp_sg_ne (by omega), d58]; exact b20
        · rw [tp_sg_ne (by omega), d58]; exact b22
        · rw [tp_sg_ne (by omega), d58, b24, tp_sg_eq]; exact hx
        · rw [tp_sg_ne (by omega), tp_sg_ne (by omega), d1 74 _ (by omega), d1 74 _ (by omega), c3 _ (by omega), c3 _ (by omega)]
          exact m4 k hk
        · rw [tp_sg_ne (by omega), tp_sg_ne (by omega), tp_sg_ne (by omega), d3 _ (by omega), d3 _ (by omega), d3 _ (by omega)]
          exact m5 k hk
      refine ⟨fun _ => ⟨fun y => ?_, fun y => ?_⟩, fun y => absurd (tp_le.mpr (Int.le_refl _)) y⟩
      · rcases m3 with ⟨x1, x2⟩ | ⟨m, x0, x1, x2⟩
        · exact g _ _ (Or.inl ⟨x1, x2, rfl, rfl⟩)
        · rw [x2, tp_eq, tp_t (by omega)] at y
          have : (m : Int) = -4 := y
          omega
      · rcases m3 with ⟨x1, x2⟩ | ⟨m, x0, x1, x2⟩
        · exact absurd x2 y
        · exact g _ _ (Or.inr ⟨m, x0, x1, x2, rfl, rfl⟩)
