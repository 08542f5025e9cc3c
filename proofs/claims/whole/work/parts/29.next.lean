/-! the reference reads a token -/
def mbr (b m : Int32) : Prop := m.toInt = b.toInt % 256 ∧ -128 ≤ b.toInt ∧ b.toInt ≤ 127
theorem mbr_c {b m : Int32} (h : mbr b m) {c : Int32} (h0 : 0 ≤ c.toInt) (h1 : c.toInt ≤ 127) : m = c ↔ b = c := by
  obtain ⟨a1, a2, a3⟩ := h
  rw [tp_eq, tp_eq]
  omega
theorem RA_mbr {σ : tp_St} {n : Nat} (h : RA σ n) : ∀ j, j < n → mbr (σ.1 27 j) (σ.1 73 j) := by
  intro j hj
  obtain ⟨h1, h2, h3, h4⟩ := h
  obtain ⟨e1, e2⟩ := h4 j hj
  have e3 : (σ.1 27 j).toInt = (σ.1 27 j).toInt.bmod (2 ^ 8) := by
    conv => lhs; rw [← e2]
    rw [Int8.toInt_toInt32, Int32.toInt_toInt8]
  refine ⟨by rw [e1, and255], ?_, ?_⟩
  · rw [e3]; simp only [Int.bmod_def]; omega
  · rw [e3]; simp only [Int.bmod_def]; omega
def mB (υ : tp_St) (B : Nat → Int32) (n : Nat) : Prop := υ.1 58 18 = nI n ∧ ∀ j, j < n → mbr (B j) (υ.1 73 j)
theorem sp_129 {υ : tp_St} {B : Nat → Int32} {n p : Nat} {post : Int32 → tp_St → Prop} (hb : mB υ B n) (hn : n ≤ 200) (hp : p < 1000) (h0 : n ≤ p → post (-4) υ) (h1 : p < n → mbr (B p) (υ.1 73 p) → post (υ.1 73 p) υ) : tp_E 129 0 [.ref 58, .int (nI p)] [] υ post := by
  refine sg_129_0 _ ?_
  rw [hb.1, tp_leN (by omega) (by omega), tp_c (show p < 1000000 by omega)]
  exact ⟨h0, fun w => ⟨tp_vi (by omega) (by omega), h1 (by omega) (hb.2 p (by omega))⟩⟩
def mF (a b : tp_St) : Prop := (∀ o k, ¬ (o = 76 ∨ (o = 58 ∧ 26 ≤ k ∧ k ≤ 31)) → b.1 o k = a.1 o k) ∧ b.2 = a.2
theorem mF_rf {a : tp_St} : mF a a := ⟨fun _ _ _ => rfl, rfl⟩
theorem mF_tr {a b c : tp_St} (h : mF a b) (k : mF b c) : mF a c := ⟨fun o j ho => (k.1 o j ho).trans (h.1 o j ho), k.2.trans h.2⟩
theorem mF_set {a b : tp_St} {k : Nat} {v : Int32} (h : mF a b) (hk : 26 ≤ k ∧ k ≤ 31) : mF a (tp_set b 58 k v) := ⟨fun o j ho => by rw [tp_sg_ne (by omega)]; exact h.1 o j ho, h.2⟩
theorem mF_76 {a b : tp_St} {k : Nat} {v : Int32} (h : mF a b) : mF a (tp_set b 76 k v) := ⟨fun o j ho => by rw [tp_sg_ne (by omega)]; exact h.1 o j ho, h.2⟩
theorem mB_F {a b : tp_St} {B : Nat → Int32} {n : Nat} (h : mB a B n) (f : mF a b) : mB b B n := ⟨(f.1 58 18 (by omega)).trans h.1, fun j hj => by rw [f.1 73 j (by omega)]; exact h.2 j hj⟩
theorem l6 {a b c d e f : Int32} {j : Nat} (hj : j < 6) {υ : tp_St} : (tp_set (tp_set (tp_set (tp_set (tp_set (tp_set υ 76 0 a) 76 1 b) 76 2 c) 76 3 d) 76 4 e) 76 5 f).1 76 j = [a, b, c, d, e, f].getD j 0 := by
  rcases (show j = 0 ∨ j = 1 ∨ j = 2 ∨ j = 3 ∨ j = 4 ∨ j = 5 by omega) with rfl | rfl | rfl | rfl | rfl | rfl <;> rfl
theorem sp_131 {υ : tp_St} {B : Nat → Int32} {n k s e : Nat} {c0 c1 c2 c3 c4 c5 : Int32} {post : Int32 → tp_St → Prop} (hk : k < 3) (hb : mB υ B n) (hn : n ≤ 200) (h27 : υ.1 58 27 = nI e) (hse : s ≤ e) (he : e ≤ n) (hl : ∀ j, j < nl k → [c0, c1, c2, c3, c4, c5].getD j 0 = tp_rob (97 + k) j) (hp : ∀ υ', mF υ υ' → (∀ j, υ'.1 58 j = υ.1 58 j) → post (b01 (spb B k s e)) υ') : tp_E 131 0 [.ref 58, .int (nI s), .int c0, .int c1, .int c2, .int c3, .int c4, .int c5, .int (nI (nl k)), .null, .null, .null] [] υ post := by
  have h6 := nl_le (k := k)
  generalize hυ1 : tp_set (tp_set (tp_set (tp_set (tp_set (tp_set υ 76 0 c0) 76 1 c1) 76 2 c2) 76 3 c3) 76 4 c4) 76 5 c5 = υ1
  have hF : mF υ υ1 := by rw [← hυ1]; exact mF_76 (mF_76 (mF_76 (mF_76 (mF_76 (mF_76 mF_rf)))))
  have h58 : ∀ j, υ1.1 58 j = υ.1 58 j := fun j => by rw [← hυ1, tp_sg_ne (by omega), tp_sg_ne (by omega), tp_sg_ne (by omega), tp_sg_ne (by omega), tp_sg_ne (by omega), tp_sg_ne (by omega)]
  have h76 : ∀ j, j < nl k → υ1.1 76 j = tp_rob (97 + k) j := fun j hj => by rw [← hυ1, l6 (by omega)]; exact hl j hj
  have hb1 := mB_F hb hF
  have hp := hp υ1 hF h58
  have rob0 : ∀ k, k < 3 → ∀ j, j < nl k → 0 ≤ (tp_rob (97 + k) j).toInt ∧ (tp_rob (97 + k) j).toInt ≤ 127 := by decide +kernel
  have loop : ∀ b0 : Bool, b0 = decide (e = s + nl k) → tp_E 131 61 [.ref 58, .int (nI s), .null, .null, .null, .null, .null, .null, .int (nI (nl k)), .ref 76, .int (b01 b0), .int 0] [] υ1 post := by
    intro b0 hb0
    refine tp_up_loop (E := fun i => ∀ b : Bool, b = (b0 && al B k s i) → tp_E 131 61 [.ref 58, .int (nI s), .null, .null, .null, .null, .null, .null, .int (nI (nl k)), .ref 76, .int (b01 b), .int (nI i)] [] υ1 post) (n := nl k) (fun i hi z b hbb => ?_) (fun b hbb => ?_) 0 (Nat.zero_le _) b0 (by show _ = (_ && true); rw [Bool.and_true])
    · refine sg_131_61 _ _ _ _ ?_
      rw [b01_0, nI_add]
      simp only [nI_1]
      refine ⟨fun w => absurd w (tp_nle hi (by omega)), fun _ => ⟨fun w => ⟨b01_n, ?_⟩, fun w => ?_⟩⟩
      · have wb : b = false := Bool.eq_false_iff.mpr w
        have : spb B k s e = false := by
          unfold spb
          rw [← hb0]
          rw [wb] at hbb
          cases hbq : b0 with
          | false => rfl
          | true =>
            rw [hbq, Bool.true_and] at hbb
            have := al_stop hbb.symm (nl k - i)
            rw [show i + (nl k - i) = nl k by omega] at this
            rw [this]; rfl
        rw [wb]
        rw [this] at hp
        exact hp
      · have wb : b = true := by cases b; exact absurd (by decide) w; rfl
        rw [wb] at hbb
        obtain ⟨hb0', hal⟩ := (Bool.and_eq_true _ _).mp hbb.symm
        have es : e = s + nl k := of_decide_eq_true (hb0.symm.trans hb0')
        have e1 : (b0 && al B k s (i + 1)) = decide (B (s + i) = tp_rob (97 + k) i) := by
          show (b0 && (al B k s i && _)) = _
          rw [hb0', hal, Bool.true_and, Bool.true_and]
        refine sp_129 hb1 hn (by omega) (fun w => by omega) (fun _ hm => ?_)
        rw [tp_c (show i < 1000000 by omega), h76 i hi]
        obtain ⟨r0, r1⟩ := rob0 k hk i hi
        rw [mbr_c hm r0 r1]
        exact ⟨tp_vi (by omega) (by omega), fun w2 => z true (by rw [e1]; exact (decide_eq_true w2).symm), fun w2 => z false (by rw [e1]; exact (decide_eq_false w2).symm)⟩
    · refine sg_131_61 _ _ _ _ ⟨fun _ => ⟨b01_n, ?_⟩, fun w => absurd (tp_le.mpr (Int.le_refl _)) w⟩
      rw [hbb, hb0]
      exact hp
  refine sg_131_0 _ _ _ _ _ _ _ _ ?_
  rw [h27, tp_subN hse (by omega), tp_ne (by omega) (by omega), hυ1]
  exact ⟨fun w => loop true (decide_eq_true (by omega)).symm, fun w => loop false (decide_eq_false (by omega)).symm⟩
def mk_C (a : tp_St) (B : Nat → Int32) (n s : Nat) (post : Int32 → tp_St → Prop) : Prop := ∀ υ', mF a υ' → υ'.1 58 26 = nI s → (tk_k B n s = 0 → υ'.1 58 30 = 1 ∧ υ'.1 58 31 = nI s) → (¬ tk_k B n s = 0 → υ'.1 58 30 = 0 ∧ υ'.1 58 28 = nI (tk_k B n s - 1)) → (tk_k B n s = 2 ∨ tk_k B n s = 3 ∨ tk_k B n s = 4 → υ'.1 58 27 = nI (tk_e B n s)) → (tk_k B n s = 2 ∨ tk_k B n s = 3 → υ'.1 58 29 = tk_v B n s) → post 0 υ'
theorem sp_130 {υ : tp_St} {a b : Int32} {post : Int32 → tp_St → Prop} (h : υ.1 58 30 = 0) (hp : post 0 (tp_set (tp_set υ 58 30 a) 58 31 b)) : tp_E 130 0 [.ref 58, .int a, .int b] [] υ post := sg_130_0 _ _ ⟨fun _ => hp, fun w => absurd h w⟩
theorem sm_84 {a : tp_St} {B : Nat → Int32} {n s : Nat} {post : Int32 → tp_St → Prop} (hn : n ≤ 200) (hs : s < n) (hl : is_l B s = true) (hb : mB a B n) (hp : mk_C a B n s post) : ∀ d p υ, p + d = n → s ≤ p → rn (is_l B) (n - p) p = rn (is_l B) (n - s) s → mF a υ → υ.1 58 26 = nI s → υ.1 58 27 = nI p → υ.1 58 30 = 0 → tp_E 132 84 [.ref 58, .null] [] υ post := by
  have he : tk_e B n s = rn (is_l B) (n - s) s := by unfold tk_e; rw [if_pos hl]
  have fin : ∀ p υ, s ≤ p → p ≤ n → p = tk_e B n s → mF a υ → υ.1 58 26 = nI s → υ.1 58 27 = nI p → υ.1 58 30 = 0 → tp_E 131 0 [.ref 58, .int (υ.1 58 26), .int 102, .int 97, .int 114, .int 101, .int 0, .int 0, .int 4, .null, .null, .null] [] (tp_set υ 58 28 1) (fun r3 σ3 => (r3 = 0 → tp_E 131 0 [.ref 58, .int (σ3.1 58 26), .int 119, .int 111, .int 114, .int 107, .int 0, .int 0, .int 4, .null, .null, .null] [] σ3 (fun r4 σ4 => (r4 = 0 → tp_E 131 0 [.ref 58, .int (σ4.1 58 26), .int 99, .int 104, .int 97, .int 110, .int 103, .int 101, .int 6, .null, .null, .null] [] σ4 (fun r5 σ5 => (r5 = 0 → tp_E 130 0 [.ref 58, .int 1, .int (σ5.1 58 26)] [] (tp_set σ5 58 29 (-4)) (fun r6 σ6 => post 0 σ6)) ∧ (¬ r5 = 0 → post 0 (tp_set σ5 58 29 2)))) ∧ (¬ r4 = 0 → post 0 (tp_set σ4 58 29 1)))) ∧ (¬ r3 = 0 → post 0 (tp_set σ3 58 29 0))) := by
    intro p υ h3 h4 h5 hc h6 h7 h8
    have kk : tk_k B n s = if (spb B 0 s p || (spb B 1 s p || spb B 2 s p)) = true then 2 else 0 := by
      unfold tk_k; rw [if_neg (by omega), if_pos hl, ← h5]
    have kv : tk_v B n s = if spb B 0 s p = true then 0 else if spb B 1 s p = true then 1 else 2 := by
      unfold tk_v; rw [if_pos hl, ← h5]
    have hc2 : mF a (tp_set υ 58 28 1) := mF_set hc (by omega)
    have ok : ∀ υ' : tp_St, mF a υ' → (∀ j, υ'.1 58 j = (tp_set υ 58 28 1).1 58 j) → tk_k B n s = 2 → post 0 (tp_set υ' 58 29 (tk_v B n s)) := by
      intro υ' hf h58 hk2
      refine hp _ (mF_set hf (by omega)) ?_ (fun w => by omega) (fun _ => ⟨?_, ?_⟩) (fun _ => ?_) (fun _ => tp_sg_eq)
      · rw [tp_sg_ne (by omega), h58, tp_sg_ne (by omega)]; exact h6
      · rw [tp_sg_ne (by omega), h58, tp_sg_ne (by omega)]; exact h8
      · rw [tp_sg_ne (by omega), h58, tp_sg_eq, hk2]; rfl
      · rw [tp_sg_ne (by omega), h58, tp_sg_ne (by omega), h7, h5]
    rw [h6]
    refine sp_131 (k := 0) (n := n) (e := p) (by omega) (mB_F hb hc2) hn (by rw [tp_sg_ne (by omega)]; exact h7) h3 h4 (by decide) (fun υ1 f1 g1 => ⟨fun q => ?_, fun q => ?_⟩)
    · rw [b01_0] at q
      have e26 : υ1.1 58 26 = nI s := by rw [g1, tp_sg_ne (by omega)]; exact h6
      rw [e26]
      have f1' := mF_tr hc2 f1
      refine sp_131 (k := 1) (n := n) (e := p) (by omega) (mB_F hb f1') hn (by rw [g1, tp_sg_ne (by omega)]; exact h7) h3 h4 (by decide) (fun υ2 f2 g2 => ⟨fun q2 => ?_, fun q2 => ?_⟩)
      · rw [b01_0] at q2
        have e26 : υ2.1 58 26 = nI s := by rw [g2]; exact e26
        rw [e26]
        have f2' := mF_tr f1' f2
        refine sp_131 (k := 2) (n := n) (e := p) (by omega) (mB_F hb f2') hn (by rw [g2, g1, tp_sg_ne (by omega)]; exact h7) h3 h4 (by decide) (fun υ3 f3 g3 => ⟨fun q3 => ?_, fun q3 => ?_⟩)
        · rw [b01_0] at q3
          have f3' := mF_tr f2' f3
          rw [if_neg (by rw [Bool.eq_false_iff.mpr q, Bool.eq_false_iff.mpr q2, Bool.eq_false_iff.mpr q3]; decide)] at kk
          refine sp_130 (by rw [tp_sg_ne (by omega), g3, g2, g1, tp_sg_ne (by omega)]; exact h8) ?_
          refine hp _ (mF_set (mF_set (mF_set f3' (by omega)) (by omega)) (by omega)) ?_ (fun _ => ⟨?_, ?_⟩) (fun w => absurd kk w) (fun w => by omega) (fun w => by omega)
          · rw [tp_sg_ne (by omega), tp_sg_ne (by omega), tp_sg_ne (by omega), g3]; exact e26
          · rw [tp_sg_ne (by omega), tp_sg_eq]
          · rw [tp_sg_eq, g3]; exact e26
        · have q3 : spb B 2 s p = true := by cases hq : spb B 2 s p; rw [hq] at q3; exact absurd (by decide) q3; rfl
          rw [if_pos (by rw [q3]; simp)] at kk
          rw [if_neg q, if_neg q2] at kv
          have := ok υ3 (mF_tr f2' f3) (fun j => by rw [g3, g2, g1]) kk
          rw [kv] at this
          exact this
      · have q2 : spb B 1 s p = true := by cases hq : spb B 1 s p; rw [hq] at q2; exact absurd (by decide) q2; rfl
        rw [if_pos (by rw [q2]; simp)] at kk
        rw [if_neg q, if_pos q2] at kv
        have := ok υ2 (mF_tr f1' f2) (fun j => by rw [g2, g1]) kk
        rw [kv] at this
        exact this
    · have q : spb B 0 s p = true := by cases hq : spb B 0 s p; rw [hq] at q; exact absurd (by decide) q; rfl
      rw [if_pos (by rw [q]; rfl)] at kk
      rw [if_pos q] at kv
      have := ok υ1 (mF_tr hc2 f1) g1 kk
      rw [kv] at this
      exact this
  intro d
  induction d with
  | zero =>
    intro p υ hd h3 h5 hc h6 h7 h8
    refine sg_132_84 ?_
    rw [h7]
    refine sp_129 (mB_F hb hc) hn (by omega) (fun _ => tp_if (sp_101 tp_i64 (l := 97) rfl (h := 122) rfl) (fun w => absurd w.1 (by decide)) (fun _ => ?_)) (fun w => by omega)
    exact fin p υ h3 (by omega) (by rw [he, ← h5, rn_end (by omega)]) hc h6 h7 h8
  | succ d ih =>
    intro p υ hd h3 h5 hc h6 h7 h8
    refine sg_132_84 ?_
    rw [h7]
    refine sp_129 (mB_F hb hc) hn (by omega) (fun w => by omega) (fun _ hm => ?_)
    obtain ⟨m1, m2, m3⟩ := hm
    refine tp_if (sp_101 tp_i64 (l := 97) rfl (h := 122) rfl) (fun w => ?_) (fun w => ?_)
    · rw [h7, nI_1]
      have hlp : is_l B p = true := by unfold is_l; rw [Bool.and_eq_true, decide_eq_true_eq, decide_eq_true_eq]; omega
      refine ih (p + 1) _ (by omega) (by omega) (by rw [← h5, rn_go (by omega) hlp]) (mF_set hc (by omega)) (by rw [tp_sg_ne (by omega)]; exact h6) tp_sg_eq (by rw [tp_sg_ne (by omega)]; exact h8)
    · have hlp : ¬ is_l B p = true := by unfold is_l; rw [Bool.and_eq_true, decide_eq_true_eq, decide_eq_true_eq]; omega
      exact fin p υ h3 (by omega) (by rw [he, ← h5, rn_no hlp]) hc h6 h7 h8
theorem sm_250 {a : tp_St} {B : Nat → Int32} {n s : Nat} {post : Int32 → tp_St → Prop} (hn : n ≤ 200) (hs : s < n) (hl : ¬ is_l B s = true) (hf : is_f B s = true) (hb : mB a B n) (hp : mk_C a B n s post) : ∀ d p υ, p + d = n → s ≤ p → rn (is_f B) (n - p) p = rn (is_f B) (n - s) s → mF a υ → υ.1 58 26 = nI s → υ.1 58 27 = nI p → υ.1 58 30 = 0 → υ.1 58 29 = vv B s (p - s) → tp_E 132 250 [.ref 58, .null] [] υ post := by
  have he : tk_e B n s = rn (is_f B) (n - s) s := by unfold tk_e; rw [if_neg hl, if_pos hf]
  have f4 : ∀ x : Nat, x < 1000 → (nI x ≤ 4 ↔ x ≤ 4) := fun x hx => by rw [show (4 : Int32) = nI 4 from rfl, tp_leN (by omega) (by omega)]
  have g4 : ∀ x : Nat, x < 1000 → (4 ≤ nI x ↔ 4 ≤ x) := fun x hx => by rw [show (4 : Int32) = nI 4 from rfl, tp_leN (by omega) (by omega)]
  have fin : ∀ p υ, s ≤ p → p ≤ n → p = tk_e B n s → mF a υ → υ.1 58 26 = nI s → υ.1 58 27 = nI p → υ.1 58 30 = 0 → υ.1 58 29 = vv B s (p - s) → (υ.1 58 27 - υ.1 58 26 ≤ 4 → post 0 (tp_set υ 58 28 2)) ∧ (¬ υ.1 58 27 - υ.1 58 26 ≤ 4 → tp_E 130 0 [.ref 58, .int 1, .int (υ.1 58 26)] [] (tp_set υ 58 28 2) (fun r4 σ4 => post 0 σ4)) := by
    intro p υ h3 h4 h5 hc h6 h7 h8 h9
    rw [h7, h6, tp_subN h3 (by omega), f4 (p - s) (by omega)]
    have kk : tk_k B n s = if p ≤ s + 4 then 3 else 0 := by
      unfold tk_k; rw [if_neg (by omega), if_neg hl, if_pos hf, ← h5]
    have kv : tk_v B n s = vv B s (p - s) := by unfold tk_v; rw [if_neg hl, ← h5]
    refine ⟨fun q => ?_, fun q => ?_⟩
    · rw [if_pos (by omega)] at kk
      refine hp _ (mF_set hc (by omega)) ?_ (fun w => by omega) (fun _ => ⟨?_, ?_⟩) (fun _ => ?_) (fun _ => ?_)
      · rw [tp_sg_ne (by omega)]; exact h6
      · rw [tp_sg_ne (by omega)]; exact h8
      · rw [tp_sg_eq, kk]; rfl
      · rw [tp_sg_ne (by omega), h7, h5]
      · rw [tp_sg_ne (by omega), h9, kv]
    · rw [if_neg (by omega)] at kk
      refine sp_130 (by rw [tp_sg_ne (by omega)]; exact h8) ?_
      refine hp _ (mF_set (mF_set (mF_set hc (by omega)) (by omega)) (by omega)) ?_ (fun _ => ⟨?_, tp_sg_eq⟩) (fun w => absurd kk w) (fun w => by omega) (fun w => by omega)
      · rw [tp_sg_ne (by omega), tp_sg_ne (by omega), tp_sg_ne (by omega)]; exact h6
      · rw [tp_sg_ne (by omega), tp_sg_eq]
  intro d
  induction d with
  | zero =>
    intro p υ hd h3 h5 hc h6 h7 h8 h9
    refine sg_132_250 ?_
    rw [h7]
    refine sp_129 (mB_F hb hc) hn (by omega) (fun _ => tp_if (sp_101 tp_i64 (l := 48) rfl (h := 57) rfl) (fun w => absurd w.1 (by decide)) (fun _ => ?_)) (fun w => by omega)
    exact fin p υ h3 (by omega) (by rw [he, ← h5, rn_end (by omega)]) hc h6 h7 h8 h9
  | succ d ih =>
    intro p υ hd h3 h5 hc h6 h7 h8 h9
    refine sg_132_250 ?_
    rw [h7]
    refine sp_129 (mB_F hb hc) hn (by omega) (fun w => by omega) (fun _ hm => ?_)
    obtain ⟨m1, m2, m3⟩ := id hm
    refine tp_if (sp_101 tp_i64 (l := 48) rfl (h := 57) rfl) (fun w => ?_) (fun w => ?_)
    · rw [h7, h6, tp_subN h3 (by omega), h9, g4 (p - s) (by omega)]
      have hfp : is_f B p = true := by unfold is_f; rw [Bool.and_eq_true, decide_eq_true_eq, decide_eq_true_eq]; omega
      have e1 : vv B s (p + 1 - s) = if p - s < 4 then vv B s (p - s) * 10 + (B p - 48) else vv B s (p - s) := by
        rw [show p + 1 - s = (p - s) + 1 by omega]
        show (if p - s < 4 then vv B s (p - s) * 10 + (B (s + (p - s)) - 48) else _) = _
        rw [show s + (p - s) = p by omega]
      have em : υ.1 73 p = B p := tp_eq.mpr (by omega)
      refine ⟨fun q => ?_, fun q => sp_129 (mB_F hb hc) hn (by omega) (fun w => by omega) (fun _ _ => ?_)⟩
      · rw [nI_1]
        refine ih (p + 1) _ (by omega) (by omega) (by rw [← h5, rn_go (by omega) hfp]) (mF_set (mF_set hc (by omega)) (by omega)) (by rw [tp_sg_ne (by omega), tp_sg_ne (by omega)]; exact h6) tp_sg_eq (by rw [tp_sg_ne (by omega), tp_sg_ne (by omega)]; exact h8) ?_
        rw [tp_sg_ne (by omega), tp_sg_eq, e1, if_neg (by omega)]
      · rw [h7, nI_1]
        refine ih (p + 1) _ (by omega) (by omega) (by rw [← h5, rn_go (by omega) hfp]) (mF_set (mF_set hc (by omega)) (by omega)) (by rw [tp_sg_ne (by omega), tp_sg_ne (by omega)]; exact h6) tp_sg_eq (by rw [tp_sg_ne (by omega), tp_sg_ne (by omega)]; exact h8) ?_
        rw [tp_sg_ne (by omega), tp_sg_eq, e1, if_pos (by omega), em, Int32.mul_comm 10, Int32.sub_eq_add_neg, Int32.sub_eq_add_neg, Int32.add_assoc]
    · have hfp : ¬ is_f B p = true := by unfold is_f; rw [Bool.and_eq_true, decide_eq_true_eq, decide_eq_true_eq]; omega
      exact fin p υ h3 (by omega) (by rw [he, ← h5, rn_no hfp]) hc h6 h7 h8 h9
theorem sp_132 {a : tp_St} {B : Nat → Int32} {n p0 : Nat} {post : Int32 → tp_St → Prop} (hn : n ≤ 200) (hp0 : p0 ≤ n) (hb : mB a B n) (h27 : a.1 58 27 = nI p0) (h30 : a.1 58 30 = 0) (hp : mk_C a B n (tk_s B n p0) post) : tp_E 132 0 [.ref 58, .null] [] a post := by
  refine sg_132_0 ⟨fun _ => ?_, fun w => absurd (by rw [h30]; decide) w⟩
  have key : ∀ d p υ, p + d = n → p0 ≤ p → rn (is_s B) (n - p) p = tk_s B n p0 → mF a υ → υ.1 58 27 = nI p → υ.1 58 30 = 0 → tp_E 132 8 [.ref 58, .null] [] υ post := by
    intro d
    induction d with
    | zero =>
      intro p υ hd h3 h5 hc h7 h8
      refine sg_132_8 ?_
      rw [h7]
      rw [rn_end (by omega)] at h5
      rw [← h5] at hp
      have kk : tk_k B n p = 1 := by unfold tk_k; rw [if_pos (by omega)]
      refine sp_129 (mB_F hb hc) hn (by omega) (fun _ => ⟨fun w => absurd w (by decide), fun _ => ?_⟩) (fun w => by omega)
      rw [h7]
      refine sp_129 (mB_F hb (mF_set hc (by omega))) hn (by omega) (fun _ => ⟨fun _ => ?_, fun w => absurd rfl w⟩) (fun w => by omega)
      refine hp _ (mF_set (mF_set (mF_set hc (by omega)) (by omega)) (by omega)) ?_ (fun w => by omega) (fun _ => ⟨?_, ?_⟩) (fun w => by omega) (fun w => by omega)
      · rw [tp_sg_ne (by omega), tp_sg_ne (by omega), tp_sg_eq]
      · rw [tp_sg_ne (by omega), tp_sg_ne (by omega), tp_sg_ne (by omega)]; exact h8
      · rw [tp_sg_eq, kk]; rfl
    | succ d ih =>
      intro p υ hd h3 h5 hc h7 h8
      refine sg_132_8 ?_
      rw [h7]
      refine sp_129 (mB_F hb hc) hn (by omega) (fun w => by omega) (fun _ hm => ?_)
      rw [mbr_c hm (show 0 ≤ (32 : Int32).toInt by decide) (by decide)]
      refine ⟨fun w => ?_, fun w => ?_⟩
      · rw [h7, nI_1]
        refine ih (p + 1) _ (by omega) (by omega) ?_ (mF_set hc (by omega)) tp_sg_eq (by rw [tp_sg_ne (by omega)]; exact h8)
        rw [← h5, rn_go (P := is_s B) (by omega) (decide_eq_true w)]
      · rw [rn_no (fun y => w (of_decide_eq_true y))] at h5
        rw [← h5] at hp
        rw [h7]
        have hc2 : mF a (tp_set υ 58 26 (nI p)) := mF_set hc (by omega)
        refine sp_129 (mB_F hb hc2) hn (by omega) (fun w => by omega) (fun _ hm2 => ?_)
        obtain ⟨m1, m2, m3⟩ := id hm2
        refine ⟨fun y => ?_, fun _ => ?_⟩
        · rw [y] at m1
          have : (-4 : Int) = (B p).toInt % 256 := m1
          omega
        · have hc3 := mF_set (v := (tp_set υ 58 26 (nI p)).1 73 p) hc2 (k := 29) (by omega)
          generalize (tp_set υ 58 26 (nI p)).1 73 p = m at *
          have x26 : (tp_set (tp_set υ 58 26 (nI p)) 58 29 m).1 58 26 = nI p := by rw [tp_sg_ne (by omega), tp_sg_eq]
          have x27 : (tp_set (tp_set υ 58 26 (nI p)) 58 29 m).1 58 27 = nI p := by rw [tp_sg_ne (by omega), tp_sg_ne (by omega)]; exact h7
          have x30 : (tp_set (tp_set υ 58 26 (nI p)) 58 29 m).1 58 30 = 0 := by rw [tp_sg_ne (by omega), tp_sg_ne (by omega)]; exact h8
          refine tp_if (sp_101 tp_i64 (l := 97) rfl (h := 122) rfl) (fun q => ?_) (fun q => ?_)
          · have hlp : is_l B p = true := by unfold is_l; rw [Bool.and_eq_true, decide_eq_true_eq, decide_eq_true_eq]; omega
            exact sm_84 hn (by omega) hlp hb hp (n - p) p _ (by omega) (Nat.le_refl p) rfl hc3 x26 x27 x30
          · have hlp : ¬ is_l B p = true := by unfold is_l; rw [Bool.and_eq_true, decide_eq_true_eq, decide_eq_true_eq]; omega
            refine tp_if (sp_101 tp_i64 (l := 48) rfl (h := 57) rfl) (fun q2 => ?_) (fun q2 => ?_)
            · have hfp : is_f B p = true := by unfold is_f; rw [Bool.and_eq_true, decide_eq_true_eq, decide_eq_true_eq]; omega
              exact sm_250 hn (by omega) hlp hfp hb hp (n - p) p _ (by omega) (Nat.le_refl p) rfl (mF_set hc3 (by omega)) (by rw [tp_sg_ne (by omega)]; exact x26) (by rw [tp_sg_ne (by omega)]; exact x27) (by rw [tp_sg_ne (by omega)]; exact x30) (by rw [tp_sg_eq, Nat.sub_self]; rfl)
            · have hfp : ¬ is_f B p = true := by unfold is_f; rw [Bool.and_eq_true, decide_eq_true_eq, decide_eq_true_eq]; omega
              have ke : tk_e B n p = p + 1 := by unfold tk_e; rw [if_neg hlp, if_neg hfp]
              have kk : tk_k B n p = if B p = 59 then 4 else 0 := by unfold tk_k; rw [if_neg (by omega), if_neg hlp, if_neg hfp]
              rw [mbr_c hm2 (show 0 ≤ (59 : Int32).toInt by decide) (by decide)]
              refine ⟨fun q3 => ?_, fun q3 => ?_⟩
              · rw [if_pos q3] at kk
                rw [x27, nI_1]
                refine hp _ (mF_set (mF_set hc3 (by omega)) (by omega)) ?_ (fun w => by omega) (fun _ => ⟨?_, ?_⟩) (fun _ => ?_) (fun w => by omega)
                · rw [tp_sg_ne (by omega), tp_sg_ne (by omega)]; exact x26
                · rw [tp_sg_ne (by omega), tp_sg_ne (by omega)]; exact x30
                · rw [tp_sg_eq, kk]; rfl
                · rw [tp_sg_ne (by omega), tp_sg_eq, ke]
              · rw [if_neg q3] at kk
                rw [x26]
                refine sp_130 x30 ?_
                refine hp _ (mF_set (mF_set hc3 (by omega)) (by omega)) ?_ (fun _ => ⟨?_, tp_sg_eq⟩) (fun w => absurd kk w) (fun w => by omega) (fun w => by omega)
                · rw [tp_sg_ne (by omega), tp_sg_ne (by omega)]; exact x26
                · rw [tp_sg_ne (by omega), tp_sg_eq]
  exact key (n - p0) p0 a (by omega) (Nat.le_refl _) rfl mF_rf h27 h30
