/-! the law's own side: its arrays, the script -/
def GA (pr sp : Nat → Nat) (u : Nat → Bool) (σ : tp_St) : Prop := 64 < σ.2.1 ∧ (∀ k, k < 2 → σ.1 58 k = nI (pr k) ∧ σ.1 59 k = nI (sp k)) ∧ ∀ t, t < 4 → σ.1 60 t = bI (u t) ∧ σ.1 61 t = nI t
def SC (L : Nat) (σ : tp_St) : Prop := σ.1 89 0 = nI L ∧ L < 1000000
def GL (u : Nat → Bool) (tr ty st : Nat → Nat) (n : Nat) (σ : tp_St) : Prop := σ.1 64 0 = nI n ∧ ∀ i, i < n → σ.1 64 (4 * i + 1) = nI (tr i) ∧ σ.1 64 (4 * i + 2) = nI (ty i) ∧ σ.1 64 (4 * i + 3) = nI (g_no tr ty i) ∧ σ.1 64 (4 * i + 4) = nI (g_sg u (tr i) (st i))
def GP (lim : Nat → Nat → Nat) (tr ty : Nat → Nat) (n : Nat) (σ : tp_St) : Prop := ∀ t k, t < 4 → k < 2 → σ.1 62 (2 * t + k) = nI (g_nx tr ty n t k) ∧ σ.1 63 (2 * t + k) = nI (lim t k)
def GI (pr sp : Nat → Nat) (u : Nat → Bool) (lim : Nat → Nat → Nat) (L : Nat) (tr ty st : Nat → Nat) (n : Nat) (σ : tp_St) : Prop := G0 pr sp u σ ∧ GO σ ∧ GA pr sp u σ ∧ SC L σ ∧ GS lim tr ty st n σ ∧ GL u tr ty st n σ ∧ GP lim tr ty n σ
theorem GA_fr {pr sp : Nat → Nat} {u : Nat → Bool} {σ σ' : tp_St} (h : GA pr sp u σ) (h2 : σ'.2 = σ.2) (e : ∀ o k, (58 ≤ o ∧ o < 62) → σ'.1 o k = σ.1 o k) : GA pr sp u σ' := by
  obtain ⟨a1, a2, a3⟩ := h
  refine ⟨by rw [h2]; exact a1, fun k hk => ?_, fun t ht => ?_⟩
  · rw [e 58 k (by omega), e 59 k (by omega)]; exact a2 k hk
  · rw [e 60 t (by omega), e 61 t (by omega)]; exact a3 t ht
theorem g_nx_congr {tr ty tr' ty' : Nat → Nat} {n t k : Nat} (e : ∀ i, i < n → tr' i = tr i ∧ ty' i = ty i) : g_nx tr' ty' n t k = g_nx tr ty n t k := by
  unfold g_nx
  rw [ct_congr (p := g_p tr' ty' t k) (q := g_p tr ty t k) (n := n) (fun i hi => by unfold g_p; rw [(e i hi).1, (e i hi).2])]
theorem g_ls_congr {tr st tr' st' : Nat → Nat} {t : Nat} : ∀ {n}, (∀ i, i < n → tr' i = tr i ∧ st' i = st i) → g_ls tr' st' t n = g_ls tr st t n
  | 0, _ => rfl
  | n + 1, h => by
    unfold g_ls
    rw [(h n (by omega)).1, (h n (by omega)).2, g_ls_congr (n := n) (fun i hi => h i (by omega))]
theorem GI_congr {pr sp : Nat → Nat} {u : Nat → Bool} {lim : Nat → Nat → Nat} {L : Nat} {tr ty st tr' ty' st' : Nat → Nat} {n : Nat} {σ : tp_St} (h : GI pr sp u lim L tr ty st n σ) (e : ∀ i, i < n → tr' i = tr i ∧ ty' i = ty i ∧ st' i = st i) : GI pr sp u lim L tr' ty' st' n σ := by
  obtain ⟨h0, ho, hA, hC, hS, hL, hP⟩ := h
  refine ⟨h0, ho, hA, hC, GS_congr hS e, ⟨hL.1, fun i hi => ?_⟩, fun t k ht hk => ?_⟩
  · unfold g_no
    rw [(e i hi).1, (e i hi).2.1, (e i hi).2.2, g_nx_congr (n := i) (fun j hj => ⟨(e j (by omega)).1, (e j (by omega)).2.1⟩)]
    exact hL.2 i hi
  · rw [g_nx_congr (fun j hj => ⟨(e j hj).1, (e j hj).2.1⟩)]
    exact hP t k ht hk
theorem tp_41 {i : Nat} : (4 : Int32) * nI i + 1 = nI (4 * i + 1) := by rw [show (4 : Int32) = nI 4 from rfl, pk_mul, nI_1]
theorem tp_42 {i : Nat} : (4 : Int32) * nI i + 2 = nI (4 * i + 2) := by rw [show (4 : Int32) = nI 4 from rfl, pk_mul, show (2 : Int32) = nI 2 from rfl, nI_add]
theorem tp_43 {i : Nat} : (4 : Int32) * nI i + 3 = nI (4 * i + 3) := by rw [show (4 : Int32) = nI 4 from rfl, pk_mul, show (3 : Int32) = nI 3 from rfl, nI_add]
theorem tp_44 {i : Nat} : (4 : Int32) * nI i + 4 = nI (4 * i + 4) := by rw [show (4 : Int32) = nI 4 from rfl, pk_mul, nI_add]
theorem tp_2k {t k : Nat} : (2 : Int32) * nI t + nI k = nI (2 * t + k) := by rw [show (2 : Int32) = nI 2 from rfl, pk_mul, nI_add]
/-- the stage of the last sale on trip t -/
def g_la (u : Nat → Bool) (tr st : Nat → Nat) (t : Nat) : Nat → Option Nat
  | 0 => none
  | n + 1 => if tr n = t then some (g_sg u t (st n)) else g_la u tr st t n
def g_ox : Option Nat → Int32
  | none => -1
  | some x => nI x
theorem g_la_ls {u : Nat → Bool} {tr st : Nat → Nat} {t : Nat} : ∀ {n}, (g_la u tr st t n = none ∧ g_ls tr st t n = 0) ∨ g_la u tr st t n = some (g_sg u t (g_ls tr st t n))
  | 0 => Or.inl ⟨rfl, rfl⟩
  | n + 1 => by
    unfold g_la g_ls
    by_cases h : tr n = t
    · rw [if_pos h, if_pos h]
      exact Or.inr rfl
    · rw [if_neg h, if_neg h]
      exact g_la_ls
section GF
variable {pr sp : Nat → Nat} {u : Nat → Bool} {lim : Nat → Nat → Nat} {L : Nat} {tr ty st : Nat → Nat} {n e : Nat} {σ : tp_St} {post : Int32 → tp_St → Prop}
/-- from here on the loop is done -/
def S_nx (pr sp : Nat → Nat) (u : Nat → Bool) (lim : Nat → Nat → Nat) (L e : Nat) (post : Int32 → tp_St → Prop) : Prop := ∀ tr ty st n σ, n ≤ e → GI pr sp u lim L tr ty st n σ → H_42_3 20 4 2 (nI e) σ post
theorem s_374 (hn : n ≤ e + 1) (k : S_nx pr sp u lim L (e + 1) post) (h : GI pr sp u lim L tr ty st n σ) : H_42_374 20 4 2 (nI e) σ post := by
  refine sg_42_374 _ _ _ _ ?_
  rw [nI_1]
  exact k _ _ _ _ _ hn h
theorem s_289 {d : Int32} (he : n ≤ e) (he2 : e < 14) (h : GI pr sp u lim L tr ty st n σ) (ht : tr n < 4) (hk : ty n < 2) (hg : st n ≤ 9) (k : S_nx pr sp u lim L (e + 1) post)
    (d2 : (st n < g_ls tr st (tr n) n ∨ st n = 9) → d = -2) (d4 : ¬ (st n < g_ls tr st (tr n) n ∨ st n = 9) → g_nx tr ty n (tr n) (ty n) = lim (tr n) (ty n) → d = -4)
    (d1 : ¬ (st n < g_ls tr st (tr n) n ∨ st n = 9) → ¬ g_nx tr ty n (tr n) (ty n) = lim (tr n) (ty n) → d = nI (g_no tr ty n)) :
    H_42_289 20 4 2 (nI e) (nI (tr n)) (nI (ty n)) (nI (g_sg u (tr n) (st n))) (nI (2 * tr n + ty n)) d σ post := by
  obtain ⟨h0, ho, hA, hC, hS, hL, hP⟩ := id h
  refine sg_42_289 _ _ _ _ _ _ _ _ _ (c_sell h0 ho hS (by omega) ht hk hg rfl rfl rfl (fun z => ?_) (fun z z2 => ?_) (fun z z2 σ' hS' hf h2 => ?_))
  · rw [d2 z]
    exact ⟨fun _ => ⟨fun _ => s_374 (by omega) k h, fun w => absurd (by decide) w⟩, fun w => absurd rfl w⟩
  · rw [d4 z z2]
    exact ⟨fun _ => ⟨fun _ => s_374 (by omega) k h, fun w => absurd (by decide) w⟩, fun w => absurd rfl w⟩
  · rw [d1 z z2]
    have hc := ct_le (p := g_p tr ty (tr n) (ty n)) n
    have hno : g_no tr ty n < 1000 := by unfold g_no g_nx; omega
    have hN : 64 < σ'.2.1 := by rw [h2]; exact hA.1
    have e64 : σ'.1 64 0 = nI n := (hf 64 0 (by omega)).trans hL.1
    have e62 : σ'.1 62 (2 * tr n + ty n) = nI (g_nx tr ty n (tr n) (ty n)) := (hf 62 _ (by omega)).trans (hP _ _ ht hk).1
    rw [e64, tp_41, tp_42, tp_43, tp_44, tp_c (show 4 * n + 1 < 1000000 by omega), tp_c (show 4 * n + 2 < 1000000 by omega), tp_c (show 4 * n + 3 < 1000000 by omega), tp_c (show 4 * n + 4 < 1000000 by omega), tp_c (show 2 * tr n + ty n < 1000000 by omega), e62, nI_1]
    have v1 := tp_vi (show 4 * n + 1 < 60 by omega) (by omega)
    have v2 := tp_vi (show 4 * n + 2 < 60 by omega) (by omega)
    have v3 := tp_vi (show 4 * n + 3 < 60 by omega) (by omega)
    have v4 := tp_vi (show 4 * n + 4 < 60 by omega) (by omega)
    have v8 := tp_vi (show 2 * tr n + ty n < 8 by omega) (by omega)
    refine ⟨fun _ => ⟨fun w => absurd w (nI_pos (by omega)), fun _ => ⟨hN, hN, v1, hN, v2, hN, v3, hN, v4, hN, hN, (by omega), v8, (by omega), v8, ?_⟩⟩, fun w => absurd rfl w⟩
    rw [tp_sg_ne (o' := 64) (k' := 0) (by omega), tp_sg_ne (o' := 64) (k' := 0) (by omega), tp_sg_ne (o' := 64) (k' := 0) (by omega), tp_sg_ne (o' := 64) (k' := 0) (by omega), e64, nI_1]
    generalize hX : (tp_set (tp_set (tp_set (tp_set (tp_set (tp_set σ' 64 (4 * n + 1) (nI (tr n))) 64 (4 * n + 2) (nI (ty n))) 64 (4 * n + 3) (nI (g_no tr ty n))) 64 (4 * n + 4) (nI (g_sg u (tr n) (st n)))) 64 0 (nI (n + 1))) 62 (2 * tr n + ty n) (nI (g_nx tr ty n (tr n) (ty n) + 1))) = X
    have x2 : X.2 = σ.2 := by rw [← hX]; exact h2
    have xf : ∀ o j, ¬ (o = 64 ∨ o = 62) → X.1 o j = σ'.1 o j := fun o j hd => by
      rw [← hX, tp_sg_ne (by omega), tp_sg_ne (by omega), tp_sg_ne (by omega), tp_sg_ne (by omega), tp_sg_ne (by omega), tp_sg_ne (by omega)]
    have x64 : ∀ j, ¬ (j = 0 ∨ (4 * n + 1 ≤ j ∧ j ≤ 4 * n + 4)) → X.1 64 j = σ'.1 64 j := fun j hd => by
      rw [← hX, tp_sg_ne (by omega), tp_sg_ne (by omega), tp_sg_ne (by omega), tp_sg_ne (by omega), tp_sg_ne (by omega), tp_sg_ne (by omega)]
    refine s_374 (tr := tr) (ty := ty) (st := st) (n := n + 1) (by omega) k ⟨G0_fr h0 (fun o j hd => (xf o j (by omega)).trans (hf o j (by omega))), fun t ht2 => (xf 14 t (by omega)).trans ((hf 14 t (by omega)).trans (ho t ht2)), GA_fr hA x2 (fun o j hd => (xf o j (by omega)).trans (hf o j (by omega))), ⟨(xf 89 0 (by omega)).trans ((hf 89 0 (by omega)).trans hC.1), hC.2⟩, GS_fr hS' (fun o j hd => xf o j (by omega)), ⟨?_, fun i hi => ?_⟩, fun t j ht2 hk2 => ?_⟩
    · rw [← hX, tp_sg_ne (by omega), tp_sg_eq]
    · by_cases q : i = n
      · subst q
        refine ⟨?_, ?_, ?_, ?_⟩
        · rw [← hX, tp_sg_ne (by omega), tp_sg_ne (by omega), tp_sg_ne (by omega), tp_sg_ne (by omega), tp_sg_ne (by omega), tp_sg_eq]
        · rw [← hX, tp_sg_ne (by omega), tp_sg_ne (by omega), tp_sg_ne (by omega), tp_sg_ne (by omega), tp_sg_eq]
        · rw [← hX, tp_sg_ne (by omega), tp_sg_ne (by omega), tp_sg_ne (by omega), tp_sg_eq]
        · rw [← hX, tp_sg_ne (by omega), tp_sg_ne (by omega), tp_sg_eq]
      · rw [x64 _ (by omega), x64 _ (by omega), x64 _ (by omega), x64 _ (by omega), hf _ _ (by omega), hf _ _ (by omega), hf _ _ (by omega), hf _ _ (by omega)]
        exact hL.2 i (by omega)
    · have hs := g_nx_succ (tr := tr) (ty := ty) (n := n) (t := t) (k := j)
      obtain ⟨p1, p2⟩ := hP t j ht2 hk2
      refine ⟨?_, (xf 63 _ (by omega)).trans ((hf 63 _ (by omega)).trans p2)⟩
      by_cases q : t = tr n ∧ j = ty n
      · obtain ⟨rfl, rfl⟩ := q
        rw [if_pos ⟨rfl, rfl⟩] at hs
        rw [← hX, tp_sg_eq, hs]
      · rw [if_neg (fun w => q ⟨w.1.symm, w.2.symm⟩)] at hs
        rw [← hX, tp_sg_ne (by omega), tp_sg_ne (by omega), tp_sg_ne (by omega), tp_sg_ne (by omega), tp_sg_ne (by omega), tp_sg_ne (by omega), hf _ _ (by omega), p1, hs]
theorem s_233 (he : n ≤ e) (he2 : e < 14) (h : GI pr sp u lim L tr ty st n σ) (ht : tr n < 4) (hk : ty n < 2) (hg : st n ≤ 9) (k : S_nx pr sp u lim L (e + 1) post) :
    H_42_233 20 4 2 (nI e) (nI (tr n)) (nI (ty n)) (nI (st n)) (nI (g_sg u (tr n) (st n))) (nI (g_ls tr st (tr n) n)) σ post := by
  obtain ⟨h0, ho, hA, hC, hS, hL, hP⟩ := id h
  have hls := g_ls_le (tr := tr) (st := st) (t := tr n) (n := n) (fun i hi => (hS.2.2.1 i hi).1.2.2)
  have hN := hA.1
  obtain ⟨p1, p2⟩ := hP _ _ ht hk
  obtain ⟨-, -, q3, q4⟩ := hS.2.2.2 _ _ ht hk
  have v8 := tp_vi (show 2 * tr n + ty n < 8 by omega) (by omega)
  have f2 : (st n < g_ls tr st (tr n) n ∨ st n = 9) → H_42_261 20 4 2 (nI e) (nI (tr n)) (nI (ty n)) (nI (g_sg u (tr n) (st n))) (nI (2 * tr n + ty n)) σ post := fun z =>
    sg_42_261 _ _ _ _ _ _ _ _ (s_289 he he2 h ht hk hg k (fun _ => rfl) (fun w => absurd z w) (fun w => absurd z w))
  refine sg_42_233 _ _ _ _ _ _ _ _ _ ?_
  rw [tp_c (show tr n < 1000000 by omega), (hA.2.2 _ ht).2, tp_2k, tp_c (show 2 * tr n + ty n < 1000000 by omega), p1, p2]
  refine ⟨by omega, tp_vi ht (by omega), pk_lt (st n) (g_ls tr st (tr n) n) (fun z => f2 (Or.inl z)) (fun z => pk_eq (st n) 9 (fun z2 => f2 (Or.inr z2)) (fun z2 => ⟨by omega, v8, by omega, v8, pk_eq (g_nx tr ty n (tr n) (ty n)) (lim (tr n) (ty n)) (fun z3 => ?_) (fun z3 => ⟨by omega, v8, ?_⟩)⟩))⟩
  · exact s_289 he he2 h ht hk hg k (fun w => by omega) (fun _ _ => rfl) (fun _ w => absurd z3 w)
  · exact s_289 he he2 h ht hk hg k (fun w => by omega) (fun _ w => absurd w z3) (fun _ _ => rfl)
theorem s_182 {t y g : Nat} (he : n ≤ e) (he2 : e < 14) (h : GI pr sp u lim L tr ty st n σ) (ht : t < 4) (hk : y < 2) (hg : g ≤ 9) (k : S_nx pr sp u lim L (e + 1) post) :
    H_42_182 20 4 2 (nI e) (nI t) (nI y) (g_ox (g_la u tr st t n)) (nI g) σ post := by
  obtain ⟨h0, ho, hA, hC, hS, hL, hP⟩ := id h
  have hN := hA.1
  have hls := g_ls_le (tr := tr) (st := st) (t := t) (n := n) (fun i hi => (hS.2.2.1 i hi).1.2.2)
  have hG : GI pr sp u lim L (fun i => if i = n then t else tr i) (fun i => if i = n then y else ty i) (fun i => if i = n then g else st i) n σ := GI_congr h (fun i hi => by
    have : ¬ i = n := by omega
    simp only [if_neg this, and_self])
  have key := s_233 (e := e) (post := post) he he2 hG (by simpa using ht) (by simpa using hk) (by simpa using hg) k
  have els : g_ls (fun i => if i = n then t else tr i) (fun i => if i = n then g else st i) t n = g_ls tr st t n := g_ls_congr (fun i hi => by
    have : ¬ i = n := by omega
    simp only [if_neg this, and_self])
  simp only [if_true, els] at key
  have f203 : H_42_203 20 4 2 (nI e) (nI t) (nI y) (g_ox (g_la u tr st t n)) (nI g) (nI (g_sg u t g)) σ post := by
    refine sg_42_203 _ _ _ _ _ _ _ _ _ ?_
    rcases g_la_ls (u := u) (tr := tr) (st := st) (t := t) (n := n) with ⟨q1, q2⟩ | q
    · rw [q1]
      rw [q2] at key
      exact ⟨fun z => absurd z (by decide), fun _ => key⟩
    · rw [q]
      have hsg : g_sg u t (g_ls tr st t n) ≤ 9 := by unfold g_sg; split <;> omega
      refine ⟨fun _ => ⟨by omega, tp_vi ht (by omega), ?_⟩, fun z => absurd (nI_pos' (n := g_sg u t (g_ls tr st t n)) (by omega)) z⟩
      rw [tp_c (show t < 1000000 by omega), (hA.2.2 _ ht).1, bI_1]
      refine ⟨fun z => ?_, fun z => ?_⟩
      · show H_42_233 _ _ _ _ _ _ _ _ (nI (g_sg u t (g_ls tr st t n))) _ _
        rw [show g_sg u t (g_ls tr st t n) = g_ls tr st t n by unfold g_sg; rw [if_pos z]]
        exact key
      · show H_42_233 _ _ _ _ _ _ _ _ (9 - nI (g_sg u t (g_ls tr st t n))) _ _
        rw [show (9 : Int32) = nI 9 from rfl, pk_sub hsg, show 9 - g_sg u t (g_ls tr st t n) = g_ls tr st t n by unfold g_sg; rw [if_neg z]; omega]
        exact key
  refine sg_42_182 _ _ _ _ _ _ _ _ ?_
  rw [tp_c (show t < 1000000 by omega), (hA.2.2 _ ht).1, bI_1]
  refine ⟨by omega, tp_vi ht (by omega), fun z => ?_, fun z => ?_⟩
  · rw [show g_sg u t g = g by unfold g_sg; rw [if_pos z]] at f203
    exact f203
  · rw [show g_sg u t g = 9 - g by unfold g_sg; rw [if_neg z]] at f203
    rw [show (9 : Int32) = nI 9 from rfl, pk_sub hg]
    exact f203
theorem s_141 {t y g : Nat} {x : Int32} (he : n ≤ e) (he2 : e < 14) (h : GI pr sp u lim L tr ty st n σ) (ht : t < 4) (hk : y < 2) (hg : g < 1000) (k : S_nx pr sp u lim L (e + 1) post) :
    H_42_141 20 4 2 (nI e) x (nI t) (nI y) (g_ox (g_la u tr st t n)) (nI g) σ post := by
  have f168 : ∀ g, g < 1000 → H_42_168 20 4 2 (nI e) (nI t) (nI y) (g_ox (g_la u tr st t n)) (nI g) σ post := fun g hg =>
    sg_42_168 _ _ _ _ _ _ _ _ (pk_le g 9 (fun z => s_182 he he2 h ht hk z k) (fun z => s_182 (g := 9) he he2 h ht hk (by omega) k))
  refine sg_42_141 _ _ _ _ _ _ _ _ _ (sp_40 (c := 9) rfl (by omega) (by omega) (fun r _ => ⟨fun _ => sp_40 (c := 10) rfl (by omega) (by omega) (fun r2 _ => f168 r2 (by omega)), fun _ => f168 g hg⟩))
theorem s_45 {t y : Nat} {x : Int32} (he : n ≤ e) (he2 : e < 14) (h : GI pr sp u lim L tr ty st n σ) (ht : t < 4) (hk : y < 2) (k : S_nx pr sp u lim L (e + 1) post) :
    H_42_45 20 4 2 (nI e) x (nI t) (nI y) (-1) 0 σ post := by
  obtain ⟨h0, ho, hA, hC, hS, hL, hP⟩ := id h
  have hN := hA.1
  refine tp_up_loop (E := fun i => H_42_45 20 4 2 (nI e) x (nI t) (nI y) (g_ox (g_la u tr st t i)) (nI i) σ post) (n := n) (fun i hi g => ?_) ?_ 0 (Nat.zero_le _)
  · obtain ⟨l1, l2, l3, l4⟩ := hL.2 i hi
    obtain ⟨⟨a1, a2, a3⟩, -⟩ := hS.2.2.1 i hi
    have g2 : ∀ la, g_la u tr st t (i + 1) = la → H_42_79 20 4 2 (nI e) x (nI t) (nI y) (g_ox la) (nI i) σ post := fun la hla => by
      refine sg_42_79 _ _ _ _ _ _ _ _ _ ?_
      rw [nI_1, ← hla]
      exact g
    refine sg_42_45 _ _ _ _ _ _ _ _ _ ?_
    rw [hL.1, tp_41, tp_44, tp_c (show 4 * i + 1 < 1000000 by omega), tp_c (show 4 * i + 4 < 1000000 by omega), l1, l4]
    refine ⟨hN, fun z => absurd z (tp_nle hi (by omega)), fun _ => ⟨hN, tp_vi (by omega) (by omega), pk_eq (tr i) t (fun z => ⟨hN, tp_vi (by omega) (by omega), ?_⟩) (fun z => ?_)⟩⟩
    · have := g2 (some (g_sg u (tr i) (st i))) (by unfold g_la; rw [if_pos z, z])
      exact this
    · exact g2 _ (by conv => lhs; unfold g_la
                     rw [if_neg z])
  · have hls := g_ls_le (tr := tr) (st := st) (t := t) (n := n) (fun i hi => (hS.2.2.1 i hi).1.2.2)
    have key : ∀ g, g < 1000 → H_42_141 20 4 2 (nI e) x (nI t) (nI y) (g_ox (g_la u tr st t n)) (nI g) σ post := fun g hg => s_141 he he2 h ht hk hg k
    refine sg_42_45 _ _ _ _ _ _ _ _ _ ?_
    rw [hL.1]
    refine ⟨hN, fun _ => ?_, fun z => absurd (tp_le.mpr (Int.le_refl _)) z⟩
    rcases g_la_ls (u := u) (tr := tr) (st := st) (t := t) (n := n) with ⟨q1, q2⟩ | q
    · rw [q1] at key ⊢
      exact ⟨fun z => absurd z (by decide), fun _ => sp_40 (c := 4) rfl (by omega) (by omega) (fun r hr => key r (by omega))⟩
    · rw [q] at key ⊢
      have hsg : g_sg u t (g_ls tr st t n) ≤ 9 := by unfold g_sg; split <;> omega
      refine ⟨fun _ => ⟨by omega, tp_vi ht (by omega), fun _ => sp_40 (c := 3) rfl (by omega) (by omega) (fun r hr => ?_), fun _ => sp_40 (c := 3) rfl (by omega) (by omega) (fun r hr => ?_)⟩, fun z => absurd (nI_pos' (n := g_sg u t (g_ls tr st t n)) (by omega)) z⟩
      · show H_42_141 _ _ _ _ _ _ _ _ (nI (g_sg u t (g_ls tr st t n)) + nI r) _ _
        rw [nI_add]
        exact key _ (by omega)
      · show H_42_141 _ _ _ _ _ _ _ _ ((9 - nI (g_sg u t (g_ls tr st t n))) + nI r) _ _
        rw [show (9 : Int32) = nI 9 from rfl, pk_sub hsg, nI_add]
        exact key _ (by omega)
theorem s_loop (k : ∀ tr ty st n σ, GI pr sp u lim L tr ty st n σ → post (nI n) σ) : ∀ d e, e + d = 14 → S_nx pr sp u lim L e post
  | 0, e, he => fun tr ty st n σ hn h => by
    obtain ⟨h0, ho, hA, hC, hS, hL, hP⟩ := id h
    refine sg_42_3 _ _ _ _ (pk_le 14 e (fun _ => ⟨hA.1, ?_⟩) (fun z => absurd z (by omega)))
    rw [hL.1]
    exact k _ _ _ _ _ h
  | d + 1, e, he => fun tr ty st n σ hn h => by
    have ih := s_loop k d (e + 1) (by omega)
    obtain ⟨h0, ho, hA, hC, hS, hL, hP⟩ := id h
    refine sg_42_3 _ _ _ _ (pk_le 14 e (fun z => absurd z (by omega)) (fun _ => sp_41 (j := 20 + e) hC.1 hC.2 (nI_add 20 e) (by omega) (fun x => sp_40 (c := 4) rfl (by omega) (by omega) (fun t ht => sp_40 (c := 2) rfl (by omega) (by omega) (fun y hy => ?_)))))
    exact s_45 hn (by omega) h ht hy ih
/-- the law's sales: whatever was sold, the ghost stands -/
theorem c_sells (h : GI pr sp u lim L tr ty st 0 σ) (k : ∀ tr ty st n σ, GI pr sp u lim L tr ty st n σ → post (nI n) σ) : H_42_0 20 4 2 σ post :=
  sg_42_0 _ _ _ (s_loop k 14 0 rfl _ _ _ _ _ (Nat.le_refl _) h)
end GF
