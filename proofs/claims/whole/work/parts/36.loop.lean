/-! laws: the loop -/
def CL (σ : tp_St) (q l t f w : Nat) : Prop := σ.1 6 5 = (if l = 3 then -1 else nI l) ∧ (l = 3 ∨ (l < 3 ∧ σ.1 6 6 = nI t ∧ (lt_ok l t ∨ lt_end l t) ∧ rmc σ q l f w ∧ ∀ j, j < t → tp_in (b_lo l j) (b_hi l j) (σ.1 26 j)))
theorem b_has {σ : tp_St} (h : RK σ) {l t : Nat} (hl : l < 3) (ht : lt_ok l t ∨ lt_end l t) : (nI t < σ.1 91 l ↔ lt_ok l t) := by
  obtain ⟨⟨h0, h1, h2⟩, -⟩ := h
  have e : ∀ c : Nat, c < 10 → (nI t < nI c ↔ t < c) := fun c hc => by
    rcases ht with z | z <;> rcases z with z | z | z <;> exact tp_ltN (by omega) (by omega)
  rcases (show l = 0 ∨ l = 1 ∨ l = 2 by omega) with rfl | rfl | rfl
  · rw [h0, show (2 : Int32) = nI 2 from rfl, e 2 (by omega)]; unfold lt_ok; omega
  · rw [h1, show (3 : Int32) = nI 3 from rfl, e 3 (by omega)]; unfold lt_ok; omega
  · rw [h2, show (1 : Int32) = nI 1 from rfl, e 1 (by omega)]; unfold lt_ok; omega
def nmP (k : Nat) (v : Int32) : Prop := k = 2 → ∃ l, l < 3 ∧ v = nI l
theorem lw_loop {g : tp_St} {B : Nat → Int32} {n q : Nat} (H : RR_all g) (hn : n ≤ 200) (h19 : g.1 19 1 = nI n) (hB : ∀ j, g.1 27 j = B j) (hb : mB g B n) (hd : g.2.2 = q) (hq : q = 24 ∨ q = 25) : ∀ d p i l t f w σ, n < p + d → i ≤ p → p ≤ n → kC g q σ → σ.1 19 4 = nI p → σ.1 6 2 = 0 → CV σ q f w → CL σ q l t f w → Hi g q p l t f w σ → tp_E 0 28 [.ref 6, .int 0, .int (nI i), .null] [] σ (tp_Res 136 [.ref 58, .null]) := by
  have hlb := lb_is hq
  have hKg : RK g := by obtain ⟨nT, nR, nS, nB, nD, -, -, -, -, -, -, -, -, hK⟩ := H; exact hK
  intro d
  induction d with
  | zero => intro p i l t f w σ h1 h2 h3; omega
  | succ d ih =>
    intro p i l t f w σ hd1 hip hpn hC h194 h62 hV hL hist
    refine sg_0_28 _ _ ⟨fun z => ?_, fun _ => ⟨fun _ => ⟨fun _ => ?_, fun z => absurd h62 z⟩, fun z => absurd rfl z⟩⟩
    · rw [show (200 : Int32) = nI 200 from rfl, tp_ltN (by omega) (by omega)] at z
      omega
    simp only [nI_1]
    refine sp_47 (B := B) hn hpn ((hC.1 19 1 (by unfold cfr; omega)).trans h19) (fun j => (hC.1 27 j (by unfold cfr; omega)).trans (hB j)) (fun σ1 hF k2 k4 k3 => ?_) h194
    have hC1 := kC_F hC hF
    have hV1 : CV σ1 q f w := CV_fr hV (fun o k ho => hF.1 o k (by omega))
    have e26 : ∀ j, σ1.1 26 j = σ.1 26 j := fun j => hF.1 26 j (by omega)
    have e26f : σ1.1 26 = σ.1 26 := funext e26
    have edr : ∀ o k, ((o = q ∧ 5 ≤ k ∧ k ≤ 7) ∨ (tp_lb q ≤ o ∧ o < tp_lb q + 5)) → σ1.1 o k = σ.1 o k := fun o k ho => hF.1 o k (by omega)
    have e65 : σ1.1 6 5 = σ.1 6 5 := hF.1 6 5 (by omega)
    have e66 : σ1.1 6 6 = σ.1 6 6 := hF.1 6 6 (by omega)
    have hd1' : σ1.2.2 = q := by rw [hF.2, hC.2]; exact hd
    have hK1 : RK σ1 := RK_fr hKg (fun o k ho => hC1.1 o k (by unfold cfr; omega))
    have hsp := rn_le (P := is_s B) (d := n - p) (p := p)
    have hkl := tk_k_le (B := B) (n := n) (s := tk_s B n p)
    have hgt := fun h : ¬ tk_k B n (tk_s B n p) = 1 => tk_e_gt (B := B) (tk_k_lt h)
    have hnm : nmP (tk_k B n (tk_s B n p)) (tk_v B n (tk_s B n p)) := tk_v_nm (B := B) (n := n) (s := tk_s B n p)
    have hsp' : p ≤ tk_s B n p := hsp.1
    obtain ⟨c5, cl⟩ := hL
    have lw_f := fun (c : Int32) (σ2 : tp_St) (hC2 : kC g q σ2) (h2 : σ2.1 19 2 = nI (tk_s B n p)) (hc : 0 < c.toInt) kf => lw_fault (c := c) H hn hpn hb hd hq hist hC2 h2 hc kf
    have tok := fun {a Q l t f w} {σ0 : tp_St} (ag : tp_ag g a) cont => hm_tok (l := l) (t := t) (f := f) (w := w) (σ := σ0) (Q := Q) (q := q) hn hpn hb ag cont
    generalize hs : tk_s B n p = s at *
    generalize hk : tk_k B n s = k at *
    generalize hv : tk_v B n s = v at *
    generalize he : tk_e B n s = e at *
    have k0 : nI k = 0 ↔ k = 0 := by rw [show (0 : Int32) = nI 0 from rfl, tp_ne (by omega) (by omega)]
    have k1 : nI k = 1 ↔ k = 1 := by rw [show (1 : Int32) = nI 1 from rfl, tp_ne (by omega) (by omega)]
    have k2' : nI k = 2 ↔ k = 2 := by rw [show (2 : Int32) = nI 2 from rfl, tp_ne (by omega) (by omega)]
    have k3' : nI k = 3 ↔ k = 3 := by rw [show (3 : Int32) = nI 3 from rfl, tp_ne (by omega) (by omega)]
    have k4' : nI k = 4 ↔ k = 4 := by rw [show (4 : Int32) = nI 4 from rfl, tp_ne (by omega) (by omega)]
    have stop : ∀ (c : Int32) (σ2 : tp_St), kC g q σ2 → σ2.1 19 2 = nI s → 0 < c.toInt → (∀ a Q υ', TK a s k v υ' → MS σ q f w υ' → MN (σ.1 26) l t f w υ' → FQ a c s Q → KK l t f w (σ.1 26) Q υ') → (nI k = 1 → tp_E 0 28 [.ref 6, .int 1, .int (nI (i + 1)), .null] [] (tp_set σ2 6 2 c) (tp_Res 136 [.ref 58, .null])) ∧ (¬ nI k = 1 → tp_E 0 28 [.ref 6, .int 0, .int (nI (i + 1)), .null] [] (tp_set σ2 6 2 c) (tp_Res 136 [.ref 58, .null])) := fun c σ2 x1 x2 x3 x4 => ⟨fun _ => lw_f c σ2 x1 x2 x3 x4 _ _, fun _ => lw_f c σ2 x1 x2 x3 x4 _ _⟩
    have next : ∀ (l1 t1 f1 w1 : Nat) (σ2 : tp_St), ¬ k = 1 → (k = 2 ∨ k = 3 ∨ k = 4) → kC g q σ2 → σ2.1 19 4 = nI e → CV σ2 q f1 w1 → CL σ2 q l1 t1 f1 w1 → (∀ a Q, tp_ag g a → HA q e l1 t1 f1 w1 σ2 a Q → ∀ υ', TK a s k v υ' → υ'.1 58 27 = nI e → MS σ q f w υ' → MN (σ.1 26) l t f w υ' → KK l t f w (σ.1 26) Q υ') → (nI k = 1 → tp_E 0 28 [.ref 6, .int 1, .int (nI (i + 1)), .null] [] (tp_set σ2 6 2 0) (tp_Res 136 [.ref 58, .null])) ∧ (¬ nI k = 1 → tp_E 0 28 [.ref 6, .int 0, .int (nI (i + 1)), .null] [] (tp_set σ2 6 2 0) (tp_Res 136 [.ref 58, .null])) := by
      intro l1 t1 f1 w1 σ2 x0 xk x1 x2 x3 x4 x5
      refine ⟨fun z => absurd (k1.mp z) x0, fun _ => ?_⟩
      have hge := hgt x0
      have n26 : (tp_set σ2 6 2 0).1 26 = σ2.1 26 := funext fun j => tp_sg_ne (by omega)
      refine ih e (i + 1) l1 t1 f1 w1 _ (by omega) (by omega) (by omega) (kC_set x1 (by unfold cfr; omega)) (by rw [tp_sg_ne (by omega)]; exact x2) tp_sg_eq (CV_fr x3 (fun o k ho => by rw [tp_sg_ne (by omega)])) ?_ ?_
      · obtain ⟨y1, y2⟩ := x4
        refine ⟨by rw [tp_sg_ne (by omega)]; exact y1, y2.imp id (fun ⟨z1, z2, z3, z4, z5⟩ => ⟨z1, by rw [tp_sg_ne (by omega)]; exact z2, z3, ?_, fun j hj => by rw [tp_sg_ne (by omega)]; exact z5 j hj⟩)⟩
        unfold rmc at z4 ⊢
        rw [tp_sg_ne (by omega)]
        exact z4
      · intro a Q ag hA
        have hA2 : HA q e l1 t1 f1 w1 σ2 a Q := by
          intro υ u1 u2 u3 u4 u5
          have := hA υ u1 u2 u3 (MS_cl u4 (fun o k ho => by rw [tp_sg_ne (by omega)])) (by rw [n26]; exact u5)
          rw [n26] at this
          exact this
        exact hist a Q ag (tok ag (fun υ' T h27 hM hN => x5 a Q ag hA2 υ' T (h27 xk) hM hN))
    refine sg_2_0 _ ?_
    rw [k0, k3', e65, c5]
    refine ⟨fun z => stop 1 σ1 hC1 k2 (by decide) (fun a Q υ' T hM hN fq => ?_), fun z => ⟨fun z2 => ?_, fun z2 => ?_⟩⟩
    · rcases cl with rfl | ⟨l3, c6, c7, c8, c9⟩
      · unfold KK
        rw [if_neg (by omega), if_neg (by omega), if_neg (by omega)]
        exact n_bad T z fq
      · unfold rmc at c8
        rcases c7 with c7 | c7
        · exact kk_nf c7 (by omega) (by omega) (fun x y => by have := c9 0 (by omega); subst x; exact this) hkl T hM (Or.inl ⟨z, rfl⟩) fq
        · exact kk_sf c7 (by omega) (by omega) hkl T hM (Or.inl ⟨z, rfl⟩) fq
    · rcases cl with rfl | ⟨l3, c6, c7, c8, c9⟩
      · refine sg_3_0 _ ?_
        rw [k2']
        refine ⟨fun yy => ?_, fun yy => ⟨fun y2 => ?_, fun y2 => stop 2 σ1 hC1 k2 (by decide) (fun a Q υ' T hM hN fq => ?_)⟩⟩
        · have y := k1.mp yy
          refine ⟨fun _ => lw_done H hn hpn hb hd hq hist hC1 hV1 edr (by rw [hs, hk]; exact y), fun y2 => absurd yy y2⟩
        · have y : ¬ k = 1 := fun w => yy (k1.mpr w)
          obtain ⟨l1, hl1, el1⟩ := hnm y2
          have k3v := k3 (Or.inl y2)
          rw [k3v, el1, hd1']
          generalize hσ2 : tp_set (tp_set σ1 6 5 (nI l1)) 6 6 0 = σ2
          have hC2 : kC g q σ2 := by rw [← hσ2]; exact kC_set (kC_set hC1 (by unfold cfr; omega)) (by unfold cfr; omega)
          have s19 : ∀ j, σ2.1 19 j = σ1.1 19 j := fun j => by rw [← hσ2, tp_sg_ne (by omega), tp_sg_ne (by omega)]
          have sdr : ∀ o k, ((o = q ∧ 5 ≤ k ∧ k ≤ 7) ∨ (tp_lb q ≤ o ∧ o < tp_lb q + 5)) → σ2.1 o k = σ.1 o k := fun o k ho => by rw [← hσ2, tp_sg_ne (by omega), tp_sg_ne (by omega)]; exact edr o k ho
          have s26 : σ2.1 26 = σ.1 26 := by rw [← e26f, ← hσ2]; exact funext fun j => by rw [tp_sg_ne (by omega), tp_sg_ne (by omega)]
          have hV2 : CV σ2 q f w := CV_fr hV sdr
          have f9 := hV.2.1
          have w4 := hV.2.2.2.1
          have rm_is : ∀ υ', MS σ q f w υ' → (rm l1 f w (υ'.1 58 35) ↔ rmc σ2 q l1 f w) := fun υ' hM => by
            unfold rm rmc
            rw [sdr q 7 (by omega)]
            rcases hM.2.2.1 with ⟨x1, x2⟩ | ⟨m, x0, x1, x2⟩
            · rw [x1, x2]; simp
            · have n1 : ¬ nI m = -1 := by rw [tp_eq, tp_t (by omega)]; show ¬ (m : Int) = -1; omega
              have n4 : ¬ nI m = -4 := by rw [tp_eq, tp_t (by omega)]; show ¬ (m : Int) = -4; omega
              rw [x1, x2]; simp [n1, n4]
          refine tp_t2 (P := fun qq => tp_E 8 0 [.ref qq, .int (nI l1)] [] σ2 (fun r1 σ1 => (r1 = 0 → (nI k = 1 → tp_E 0 28 [.ref 6, .int 1, .int (nI (i + 1)), .null] [] (tp_set σ1 6 2 5) (tp_Res 136 [.ref 58, .null])) ∧ (¬ nI k = 1 → tp_E 0 28 [.ref 6, .int 0, .int (nI (i + 1)), .null] [] (tp_set σ1 6 2 5) (tp_Res 136 [.ref 58, .null]))) ∧ (¬ r1 = 0 → (nI k = 1 → tp_E 0 28 [.ref 6, .int 1, .int (nI (i + 1)), .null] [] (tp_set σ1 6 2 0) (tp_Res 136 [.ref 58, .null])) ∧ (¬ nI k = 1 → tp_E 0 28 [.ref 6, .int 0, .int (nI (i + 1)), .null] [] (tp_set σ1 6 2 0) (tp_Res 136 [.ref 58, .null]))))) hq (tp_if (sp_8 hq hl1 hV2) (fun hr => ?_) (fun hr => ?_))
          · refine next l1 0 f w σ2 y (Or.inl y2) hC2 (by rw [s19]; exact k4 (Or.inl y2)) hV2 ⟨?_, Or.inr ⟨hl1, ?_, Or.inl ?_, hr, fun j hj => absurd hj (Nat.not_lt_zero j)⟩⟩ (fun a Q ag hA υ' T h27 hM hN => ?_)
            · rw [if_neg (by omega), ← hσ2, tp_sg_ne (by omega), tp_sg_eq]
            · rw [← hσ2, tp_sg_eq]; rfl
            · unfold lt_ok; omega
            · unfold KK
              rw [if_neg (by omega), if_neg (by omega), if_neg (by omega)]
              rw [y2] at T
              refine n_nam T hM hl1 el1 f9 w4 (fun _ => ?_) (fun hno => absurd ((rm_is υ' hM).mpr hr) hno)
              have := hA υ' T.1 h27 (T.2.2.2.1 (by omega)).1 (MS_cl hM sdr) ⟨fun _ x => by omega, fun _ x => by omega, fun _ x => by omega⟩
              rw [s26] at this
              exact this
          · refine stop 5 σ2 hC2 (by rw [s19]; exact k2) (by decide) (fun a Q υ' T hM hN fq => ?_)
            unfold KK
            rw [if_neg (by omega), if_neg (by omega), if_neg (by omega)]
            rw [y2] at T
            exact n_nam T hM hl1 el1 f9 w4 (fun hy => absurd ((rm_is υ' hM).mp hy) hr) (fun _ => fq)
        · have y : ¬ k = 1 := fun w => yy (k1.mpr w)
          unfold KK
          rw [if_neg (by omega), if_neg (by omega), if_neg (by omega)]
          have h5 : k < 5 := by
            rw [← hk]
            unfold tk_k
            split
            · omega
            · split
              · split <;> omega
              · split
                · split <;> omega
                · split <;> omega
          exact n_mis T (by omega) fq
      · rw [if_neg (by omega), tp_eq, tp_t (by omega)] at z2
        have : (l : Int) = -1 := z2
        omega
    · rcases cl with rfl | ⟨l3, c6, c7, c8, c9⟩
      · exact absurd (if_pos rfl) z2
      · rw [if_neg (by omega), tp_c (show l < 1000000 by omega), e66, c6, b_has hK1 l3 c7]
        have c8' : rmc σ1 q l f w := by
          unfold rmc at c8 ⊢
          rw [edr q 7 (by omega)]
          exact c8
        have hfw : (l = 0 → f < 9) ∧ (l = 1 → w < 4) := by unfold rmc at c8; omega
        refine ⟨tp_vi l3 (by omega), fun y => ⟨fun y2 => ?_, fun y2 => stop 2 σ1 hC1 k2 (by decide) (fun a Q υ' T hM hN fq => kk_nf y hfw.1 hfw.2 (fun x x2 => by have := c9 0 (by omega); subst x; exact this) hkl T hM (Or.inr (Or.inl ⟨z, y2, rfl⟩)) fq)⟩, fun y => ?_⟩
        · have k3v := k3 (Or.inr y2)
          rw [k3v]
          have lfe : lf σ1 q f t = lf σ q f t := by
            have ht : l = 0 → t < 2 := by unfold lt_ok at y; omega
            unfold lf
            by_cases hz : f = 0
            · rw [if_pos hz, if_pos hz]
            · rw [if_neg hz, if_neg hz, edr (tp_lb q + t) _ (by unfold lt_ok at y; omega)]
          have hN0 : l = 1 → t = 1 → tp_rg 0 23 (σ.1 26 0) := fun x x2 => by have := c9 0 (by omega); subst x; exact this
          refine sp_4 hK1 y hd1' hq hV1 (by rw [e65, c5, if_neg (by omega)]) (e66.trans c6) (fun hno => ?_) (fun hin hl0 hlt => ?_) (fun hin hlt => ?_)
          · rw [e26f] at hno
            exact stop 3 σ1 hC1 k2 (by decide) (fun a Q υ' T hM hN fq => kk_nf y hfw.1 hfw.2 hN0 hkl T hM (Or.inr (Or.inr (Or.inl ⟨y2, hno, rfl⟩))) fq)
          · rw [e26f] at hin
            rw [lfe] at hlt
            exact stop 4 σ1 hC1 k2 (by decide) (fun a Q υ' T hM hN fq => kk_nf y hfw.1 hfw.2 hN0 hkl T hM (Or.inr (Or.inr (Or.inr ⟨y2, hin, hl0, hlt, rfl⟩))) fq)
          · rw [e26f] at hin
            rw [lfe] at hlt
            generalize hσ2 : tp_set (tp_set σ1 26 t v) 6 6 (nI (t + 1)) = σ2
            have hC2 : kC g q σ2 := by rw [← hσ2]; exact kC_set (kC_set hC1 (by unfold cfr; omega)) (by unfold cfr; omega)
            have s19 : ∀ j, σ2.1 19 j = σ1.1 19 j := fun j => by rw [← hσ2, tp_sg_ne (by omega), tp_sg_ne (by omega)]
            have sdr : ∀ o k, ((o = q ∧ 5 ≤ k ∧ k ≤ 7) ∨ (tp_lb q ≤ o ∧ o < tp_lb q + 5)) → σ2.1 o k = σ.1 o k := fun o k ho => by rw [← hσ2, tp_sg_ne (by omega), tp_sg_ne (by omega)]; exact edr o k ho
            have s26t : σ2.1 26 t = v := by rw [← hσ2, tp_sg_ne (by omega), tp_sg_eq]
            have s26 : ∀ j, j < t → σ2.1 26 j = σ.1 26 j := fun j hj => by rw [← hσ2, tp_sg_ne (by omega), tp_sg_ne (by omega)]; exact e26 j
            refine next l (t + 1) f w σ2 (by omega) (Or.inr (Or.inl y2)) hC2 (by rw [s19]; exact k4 (Or.inr (Or.inl y2))) (CV_fr hV sdr) ⟨?_, Or.inr ⟨l3, ?_, ?_, ?_, fun j hj => ?_⟩⟩ (fun a Q ag hA υ' T h27 hM hN => ?_)
            · rw [← hσ2, tp_sg_ne (by omega), tp_sg_ne (by omega), e65, c5]
            · rw [← hσ2, tp_sg_eq]
            · unfold lt_ok lt_end; unfold lt_ok at y; omega
            · unfold rmc at c8 ⊢
              rw [sdr q 7 (by omega)]
              exact c8
            · by_cases ej : j = t
              · rw [ej, s26t]; exact hin.1
              · rw [s26 j (by omega)]; exact c9 j (by omega)
            · rw [y2] at T
              refine kk_ok y hfw.1 hfw.2 hN0 T hM hN hin hlt s26t s26 (fun υ2 u1 u2 u3 u4 => ?_)
              exact hA υ2 u1 ((u2 27).trans h27) ((u2 30).trans (T.2.2.2.1 (by omega)).1) (MS_cl u3 sdr) u4
        · have y' : lt_end l t := c7.resolve_left y
          refine sg_5_0 _ ?_
          rw [k4']
          refine ⟨fun y2 => ?_, fun y2 => stop 2 σ1 hC1 k2 (by decide) (fun a Q υ' T hM hN fq => kk_sf y' hfw.1 hfw.2 hkl T hM (Or.inr ⟨z, y2, rfl⟩) fq)⟩
          rw [hd1', e65, c5, if_neg (by omega)]
          have c9' : ∀ j, j < t → tp_in (b_lo l j) (b_hi l j) (σ1.1 26 j) := fun j hj => by rw [e26]; exact c9 j hj
          refine tp_t2 (P := fun qq => tp_E 9 0 [.ref qq, .int (nI l), .int (σ1.1 26 0), .int (σ1.1 26 1), .int (σ1.1 26 2)] [] σ1 (fun r1 σ1 => (nI k = 1 → tp_E 0 28 [.ref 6, .int 1, .int (nI (i + 1)), .null] [] (tp_set (tp_set σ1 6 5 (-1)) 6 2 0) (tp_Res 136 [.ref 58, .null])) ∧ (¬ nI k = 1 → tp_E 0 28 [.ref 6, .int 0, .int (nI (i + 1)), .null] [] (tp_set (tp_set σ1 6 5 (-1)) 6 2 0) (tp_Res 136 [.ref 58, .null])))) hq (sp_9 hq l3 hV1 c8' ?_)
          refine next 3 0 (f' l f) (w' l w) (tp_set (ad_l σ1 q l f w) 6 5 (-1)) (by omega) (Or.inr (Or.inr y2)) (kC_set (kC_ad hC1 hq) (by unfold cfr; omega)) ?_ (CV_fr (CV_ad hq y' hV1 c8' c9') (fun o k ho => by rw [tp_sg_ne (by omega)])) ⟨by rw [if_pos rfl, tp_sg_eq], Or.inl rfl⟩ (fun a Q ag hA υ' T h27 hM hN => ?_)
          · rw [tp_sg_ne (by omega), ad_ne hq (by omega)]; exact k4 (Or.inr (Or.inr y2))
          · rw [y2] at T
            have hM1 : MS σ1 q f w υ' := MS_cl hM edr
            have hmad := MS_ad hq y' hM1 (by rw [e26f]; exact hN) (fun x => by subst x; exact c9' 0 (by unfold lt_end at y'; omega))
            rw [e26f] at hmad
            have T2 : TK a s 4 v (fin_l l f w (σ.1 26) υ') := by
              unfold fin_l
              split
              · exact TK_set2 (TK_set2 T (by omega)) (by omega)
              · split
                · exact TK_set2 (TK_set2 T (by omega)) (by omega)
                · exact TK_set2 T (by omega)
            have f27 : (fin_l l f w (σ.1 26) υ').1 58 27 = υ'.1 58 27 := by
              unfold fin_l
              split
              · rw [tp_sg_ne (by omega), tp_sg_ne (by omega)]
              · split
                · rw [tp_sg_ne (by omega), tp_sg_ne (by omega)]
                · rw [tp_sg_ne (by omega)]
            refine kk_so y' hfw.1 hfw.2 T hM ?_
            have := hA (fin_l l f w (σ.1 26) υ') T2.1 (f27.trans h27) (T2.2.2.2.1 (by omega)).1 (MS_cl hmad (fun o k ho => by rw [tp_sg_ne (by omega)])) ⟨fun x => by omega, fun x => by omega, fun x => by omega⟩
            unfold KK at this
            exact this
theorem op_laws {σ : tp_St} (h : RR_all σ) : tp_E 81 0 [.ref 0] [] σ (tp_Res 136 [.ref 58, .null]) := by
  obtain ⟨nT, nR, nS, nB, nD, hT, hP, hR, hS, hH, hA, hL, hD, hK⟩ := id h
  have hq : σ.2.2 = 24 ∨ σ.2.2 = 25 := by rcases hL.1 with e | e <;> rw [e] <;> simp
  generalize hqq : σ.2.2 = q at *
  have hlb := lb_is hq
  refine sg_81_0 (sg_0_0 ?_)
  rw [hqq]
  refine tp_t2 (P := fun t => tp_E 6 0 [.ref t] [] σ (fun r1 σ1 => tp_E 46 0 [.ref 19] [] σ1 (fun r2 σ2 => tp_E 0 28 [.ref 6, .int 0, .int 0, .null] [] (tp_set (tp_set σ2 6 5 (-1)) 6 2 0) (tp_Res 136 [.ref 58, .null])))) hq (sg_6_0 _ hq (sg_46_0 ?_))
  generalize hσ1 : tp_set (tp_set (tp_set (tp_set (tp_set (tp_set σ q 5 0) q 6 0) q 7 (-1)) 19 4 0) 6 5 (-1)) 6 2 0 = σ1
  have hC : kC σ q σ1 := by
    rw [← hσ1]
    exact kC_set (kC_set (kC_set (kC_set (kC_set (kC_set ⟨fun _ _ _ => rfl, rfl⟩ (by unfold cfr; omega)) (by unfold cfr; omega)) (by unfold cfr; omega)) (by unfold cfr; omega)) (by unfold cfr; omega)) (by unfold cfr; omega)
  have q5 : σ1.1 q 5 = 0 := by rw [← hσ1, tp_sg_ne (by omega), tp_sg_ne (by omega), tp_sg_ne (by omega), tp_sg_ne (by omega), tp_sg_ne (by omega), tp_sg_eq]
  have q6 : σ1.1 q 6 = 0 := by rw [← hσ1, tp_sg_ne (by omega), tp_sg_ne (by omega), tp_sg_ne (by omega), tp_sg_ne (by omega), tp_sg_eq]
  have q7 : σ1.1 q 7 = -1 := by rw [← hσ1, tp_sg_ne (by omega), tp_sg_ne (by omega), tp_sg_ne (by omega), tp_sg_eq]
  have p4 : σ1.1 19 4 = 0 := by rw [← hσ1, tp_sg_ne (by omega), tp_sg_ne (by omega), tp_sg_eq]
  have l5 : σ1.1 6 5 = -1 := by rw [← hσ1, tp_sg_ne (by omega), tp_sg_eq]
  have f2 : σ1.1 6 2 = 0 := by rw [← hσ1, tp_sg_eq]
  have hb : mB σ (fun j => σ.1 27 j) nB := ⟨hA.2.2.1, RA_mbr hA⟩
  refine lw_loop (B := fun j => σ.1 27 j) (n := nB) (q := q) h hA.1 hA.2.1 (fun _ => rfl) hb hqq hq (nB + 1) 0 0 3 0 0 0 σ1 (by omega) (by omega) (by omega) hC p4 f2 ⟨q5, by omega, q6, by omega, Or.inl q7, fun k hk => absurd hk (Nat.not_lt_zero k), fun k hk => absurd hk (Nat.not_lt_zero k)⟩ ⟨by rw [if_pos rfl]; exact l5, Or.inl rfl⟩ (fun a Q ag hA2 => ?_)
  refine sg_136_0 ?_
  generalize hυ : tp_set (tp_set (tp_set (tp_set (tp_set a 58 30 0) 58 27 0) 58 33 0) 58 34 0) 58 35 (-4) = υ
  have u30 : υ.1 58 30 = 0 := by rw [← hυ, tp_sg_ne (by omega), tp_sg_ne (by omega), tp_sg_ne (by omega), tp_sg_ne (by omega), tp_sg_eq]
  have u27 : υ.1 58 27 = 0 := by rw [← hυ, tp_sg_ne (by omega), tp_sg_ne (by omega), tp_sg_ne (by omega), tp_sg_eq]
  have u33 : υ.1 58 33 = 0 := by rw [← hυ, tp_sg_ne (by omega), tp_sg_ne (by omega), tp_sg_eq]
  have u34 : υ.1 58 34 = 0 := by rw [← hυ, tp_sg_ne (by omega), tp_sg_eq]
  have u35 : υ.1 58 35 = -4 := by rw [← hυ, tp_sg_eq]
  have hG : mG a υ := by rw [← hυ]; exact mG_set (mG_set (mG_set (mG_set (mG_set mG_rf (by omega)) (by omega)) (by omega)) (by omega)) (by omega)
  have := hA2 υ hG u27 u30 ⟨u33, u34, Or.inl ⟨q7, u35⟩, fun k hk => absurd hk (Nat.not_lt_zero k), fun k hk => absurd hk (Nat.not_lt_zero k)⟩ ⟨fun x => by omega, fun x => by omega, fun x => by omega⟩
  unfold KK at this
  exact this
