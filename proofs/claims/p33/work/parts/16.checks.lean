/-! the law's checks, from the last to the first -/
def g_e (sp : Nat → Nat) (tr ty st : Nat → Nat) (t q n : Nat) : Nat := ct (fun i => decide (tr i = t) && decide (st i + sp (ty i) = q)) n
def g_g (sp : Nat → Nat) (tr ty st : Nat → Nat) (t q n : Nat) : Nat := ct (fun i => decide (tr i = t) && g_in sp ty st q i) n
/-- most in a section, and those who leave ahead of it, are most in the one ahead and least here -/
theorem g_bal {sp : Nat → Nat} {tr ty st : Nat → Nat} {t q : Nat} : ∀ n, (∀ i, i < n → 1 ≤ sp (ty i)) → g_g sp tr ty st t q n + g_e sp tr ty st t q n = (if q = 0 then 0 else g_g sp tr ty st t (q - 1) n) + ct (fun i => decide (tr i = t) && decide (st i = q)) n
  | 0, _ => by
    unfold g_g g_e ct
    split <;> rfl
  | n + 1, h => by
    have ih := g_bal (sp := sp) (tr := tr) (ty := ty) (st := st) (t := t) (q := q) n (fun i hi => h i (by omega))
    have hs := h n (by omega)
    unfold g_g g_e at ih ⊢
    simp only [ct_succ]
    unfold g_in at ih ⊢
    simp only [Bool.and_eq_true, decide_eq_true_eq] at ih ⊢
    by_cases hq : q = 0
    · simp only [if_pos hq] at ih ⊢
      by_cases ht : tr n = t
      · simp only [ht, true_and]
        split <;> split <;> split <;> omega
      · simp only [ht, false_and, if_false]
        exact ih
    · simp only [if_neg hq] at ih ⊢
      by_cases ht : tr n = t
      · simp only [ht, true_and]
        split <;> split <;> split <;> split <;> omega
      · simp only [ht, false_and, if_false]
        exact ih
theorem g_c1 {sp : Nat → Nat} {u : Nat → Bool} {tr ty st : Nat → Nat} {t k n : Nat} : g_c sp u tr ty st t k 1 n = g_g sp tr ty st t (g_q u t k) n := rfl
theorem g_c0 {sp : Nat → Nat} {u : Nat → Bool} {tr ty st : Nat → Nat} {t k n : Nat} : g_c sp u tr ty st t k 0 n = ct (fun i => decide (tr i = t) && decide (st i = g_q u t k)) n := rfl
theorem g_r_sm {sp : Nat → Nat} {u : Nat → Bool} {tr ty st : Nat → Nat} {b : Bool} {k w n : Nat} (h : ∀ i, i < n → tr i < 4) : sm (fun r => if (u r == b) = true then g_c sp u tr ty st r k w n else 0) 4 = g_r sp u tr ty st b k w n := by
  unfold g_r
  rw [← sm_ct (q := fun r => u r == b) (tr := tr) (p := fun i => g_ab sp ty st w (g_q u (tr i) k) i) (m := 4) h]
  refine sm_congr (fun r _ => ?_)
  unfold g_c
  rw [ct_congr (p := fun i => decide (tr i = r) && g_ab sp ty st w (g_q u r k) i) (q := fun i => decide (tr i = r) && g_ab sp ty st w (g_q u (tr i) k) i) (n := n) (fun i _ => by
    by_cases e : tr i = r
    · rw [e]
    · simp [e])]
section GK
variable {pr sp : Nat → Nat} {u : Nat → Bool} {lim : Nat → Nat → Nat} {L : Nat} {tr ty st : Nat → Nat} {n : Nat} {σ : tp_St} {post : Int32 → tp_St → Prop}
theorem l_764 {k w t : Nat} {a14 a15 : Int32} (h : GI pr sp u lim L tr ty st n σ) (hk : k ≤ 8) (ht : t < 4) (nx : H_43_833 (nI n) (nI k) (nI w) a14 a15 (nI t) σ post) : H_43_764 (nI n) (nI k) (nI w) a14 a15 (nI t) 0 σ post := by
  obtain ⟨h0, ho, hA, hC, hS, hL, hP⟩ := id h
  have n1 := hS.1
  have m1 : g_c sp u tr ty st t k 1 n ≤ n := ct_le n
  have m0 : g_c sp u tr ty st t k 0 n ≤ n := ct_le n
  refine tp_up_loop (E := fun i => H_43_764 (nI n) (nI k) (nI w) a14 a15 (nI t) (nI i) σ post) (n := 16) (fun i hi g => ?_) ?_ 0 (Nat.zero_le _)
  · have g822 : ∀ x, H_43_822 (nI n) (nI k) (nI w) a14 a15 (nI t) (nI i) x x σ post := fun x => by
      refine sg_43_822 _ _ _ _ _ _ _ _ _ ?_
      rw [nI_1]
      exact ⟨fun _ => g, fun z => absurd rfl z⟩
    refine sg_43_764 _ _ _ _ _ _ _ (pk_le 16 i (fun z => absurd z (by omega)) (fun _ => c_heads h0 hS rfl rfl rfl ht hk hi (fun z => ⟨fun _ => ?_, fun c => absurd rfl c⟩) (fun z r hr => ⟨fun c => absurd c hr, fun _ => ?_⟩)))
    · refine sg_43_789 _ _ _ _ _ _ _ _ (c_aboard (w := 0) h0 hS rfl rfl rfl ht hk (by omega) (pk_lt i (g_c sp u tr ty st t k 0 n) (fun z2 => absurd z2 (by omega)) (fun _ => c_aboard (w := 1) h0 hS rfl rfl rfl ht hk (by omega) (pk_lt (g_c sp u tr ty st t k 1 n) i (fun z2 => absurd z2 (by omega)) (fun _ => g822 1)))))
    · refine sg_43_789 _ _ _ _ _ _ _ _ (c_aboard (w := 0) h0 hS rfl rfl rfl ht hk (by omega) (pk_lt i (g_c sp u tr ty st t k 0 n) (fun z2 => sg_43_821 _ _ _ _ _ _ _ _ (g822 0)) (fun z2 => c_aboard (w := 1) h0 hS rfl rfl rfl ht hk (by omega) (pk_lt (g_c sp u tr ty st t k 1 n) i (fun z3 => sg_43_821 _ _ _ _ _ _ _ _ (g822 0)) (fun z3 => absurd ⟨z2, z3⟩ z)))))
  · exact sg_43_764 _ _ _ _ _ _ _ (pk_le 16 16 (fun _ => nx) (fun z => absurd z (by omega)))
theorem tp_subI {a b c : Nat} : nI a - nI b = nI c ↔ nI a = nI (c + b) := by
  rw [← nI_add]
  exact ⟨fun h => by rw [← h, Int32.sub_add_cancel], fun h => by rw [h, Int32.add_sub_cancel]⟩
theorem l_576 {k w t had : Nat} {a14 a15 : Int32} (h : GI pr sp u lim L tr ty st n σ) (hk : k ≤ 8) (ht : t < 4) (hh : had = if g_q u t k = 0 then 0 else g_g sp tr ty st t (g_q u t k - 1) n) (nx : H_43_833 (nI n) (nI k) (nI w) a14 a15 (nI t) σ post) : H_43_576 (nI n) (nI k) (nI w) a14 a15 (nI t) (nI had) 0 0 0 σ post := by
  obtain ⟨h0, ho, hA, hC, hS, hL, hP⟩ := id h
  have n1 := hS.1
  have hN := hA.1
  refine tp_up_loop (E := fun i => H_43_576 (nI n) (nI k) (nI w) a14 a15 (nI t) (nI had) (nI (g_e sp tr ty st t (g_q u t k) i)) (nI (g_g sp tr ty st t (g_q u t k) i)) (nI i) σ post) (n := n) (fun i hi g => ?_) ?_ 0 (Nat.zero_le _)
  · obtain ⟨l1, l2, l3, l4⟩ := hL.2 i hi
    obtain ⟨⟨a1, a2, a3⟩, -⟩ := hS.2.2.1 i hi
    obtain ⟨-, -, -, c1, c2⟩ := h0.2.1 _ a2
    have v1 := tp_vi (show 4 * i + 1 < 60 by omega) (by omega)
    have v2 := tp_vi (show 4 * i + 2 < 60 by omega) (by omega)
    have v3 := tp_vi (show 4 * i + 3 < 60 by omega) (by omega)
    have v4 := tp_vi (show 4 * i + 4 < 60 by omega) (by omega)
    have g712 : ∀ x y, x = nI (g_e sp tr ty st t (g_q u t k) (i + 1)) → y = nI (g_g sp tr ty st t (g_q u t k) (i + 1)) → H_43_712 (nI n) (nI k) (nI w) a14 a15 (nI t) (nI had) x y (nI i) σ post := fun x y hx hy => by
      subst hx hy
      refine sg_43_712 _ _ _ _ _ _ _ _ _ _ ?_
      rw [nI_1]
      exact g
    refine sg_43_576 _ _ _ _ _ _ _ _ _ _ (pk_le n i (fun z => absurd z (by omega)) (fun _ => ?_))
    rw [tp_41, tp_42, tp_44, tp_c (show 4 * i + 1 < 1000000 by omega), tp_c (show 4 * i + 2 < 1000000 by omega), tp_c (show 4 * i + 4 < 1000000 by omega), l1, l2, l4, tp_c (show ty i < 1000000 by omega), (hA.2.1 _ a2).2, tp_c (show t < 1000000 by omega), (hA.2.2 _ ht).1, bI_1]
    refine ⟨hN, v1, pk_eq (tr i) t (fun z => ?_) (fun z => ?_)⟩
    · subst z
      have hge := g712 (nI (g_e sp tr ty st (tr i) (g_q u (tr i) k) (i + 1))) (nI (g_g sp tr ty st (tr i) (g_q u (tr i) k) (i + 1))) rfl rfl
      have g670 : ∀ y, nI (g_e sp tr ty st (tr i) (g_q u (tr i) k) i) + y = nI (g_e sp tr ty st (tr i) (g_q u (tr i) k) (i + 1)) → H_43_670 (nI n) (nI k) (nI w) a14 a15 (nI (tr i)) (nI had) (nI (g_g sp tr ty st (tr i) (g_q u (tr i) k) i)) (nI i) (nI (g_e sp tr ty st (tr i) (g_q u (tr i) k) i)) y σ post := fun y hy => by
        refine sg_43_670 _ _ _ _ _ _ _ _ _ _ _ ?_
        rw [tp_42, tp_43, tp_c (show 4 * i + 2 < 1000000 by omega), tp_c (show 4 * i + 3 < 1000000 by omega), l2, l3, hy]
        refine ⟨hN, v2, hN, v3, c_shown h0 hS hi rfl rfl rfl rfl hk (fun z => ⟨fun _ => sg_43_709 _ _ _ _ _ _ _ _ _ _ _ ?_, fun c => absurd rfl c⟩) (fun z r hr => ⟨fun c => absurd c hr, fun _ => sg_43_709 _ _ _ _ _ _ _ _ _ _ _ ?_⟩)⟩
        · refine g712 _ _ rfl ?_
          unfold g_g
          rw [ct_succ, if_pos (by simp [z]), nI_1]
        · refine g712 _ _ rfl ?_
          unfold g_g
          rw [ct_succ, if_neg (by simp [z]), Int32.add_zero]
      have yes : st i + sp (ty i) = g_q u (tr i) k → H_43_670 (nI n) (nI k) (nI w) a14 a15 (nI (tr i)) (nI had) (nI (g_g sp tr ty st (tr i) (g_q u (tr i) k) i)) (nI i) (nI (g_e sp tr ty st (tr i) (g_q u (tr i) k) i)) 1 σ post := fun z => g670 1 (by
        unfold g_e
        rw [ct_succ, if_pos (by simp [z]), nI_1])
      have no : ¬ st i + sp (ty i) = g_q u (tr i) k → H_43_670 (nI n) (nI k) (nI w) a14 a15 (nI (tr i)) (nI had) (nI (g_g sp tr ty st (tr i) (g_q u (tr i) k) i)) (nI i) (nI (g_e sp tr ty st (tr i) (g_q u (tr i) k) i)) 0 σ post := fun z => g670 0 (by
        unfold g_e
        rw [ct_succ, if_neg (by simp [z]), Int32.add_zero])
      refine ⟨hN, v4, hN, v2, by omega, tp_vi a2 (by omega), by omega, tp_vi a1 (by omega), fun z => ?_, fun z => ?_⟩
      · rw [nI_add]
        have e1 : g_sg u (tr i) (st i) = st i := by unfold g_sg; rw [if_pos z]
        have e2 : g_q u (tr i) k = k := by unfold g_q; rw [if_pos z]
        rw [e1]
        exact pk_eq (st i + sp (ty i)) k (fun y => yes (by rw [e2]; exact y)) (fun y => no (by rw [e2]; exact y))
      · have e1 : g_sg u (tr i) (st i) = 9 - st i := by unfold g_sg; rw [if_neg z]
        have e2 : g_q u (tr i) k = 8 - k := by unfold g_q; rw [if_neg z]
        rw [e1, nI_1, tp_subI]
        exact pk_eq (9 - st i) (k + 1 + sp (ty i)) (fun y => yes (by omega)) (fun y => no (by omega))
    · refine g712 _ _ ?_ ?_
      · unfold g_e
        rw [ct_succ, if_neg (by simp [z])]
      · unfold g_g
        rw [ct_succ, if_neg (by simp [z])]
  · have hb := g_bal (sp := sp) (tr := tr) (ty := ty) (st := st) (t := t) (q := g_q u t k) n (fun i hi => (h0.2.1 _ (hS.2.2.1 i hi).1.2.1).2.2.2.1)
    rw [← hh] at hb
    have l0 : H_43_764 (nI n) (nI k) (nI w) a14 a15 (nI t) 0 σ post := l_764 h hk ht nx
    refine sg_43_576 _ _ _ _ _ _ _ _ _ _ (pk_le n n (fun _ => c_aboard (w := 1) h0 hS rfl rfl rfl ht hk (by omega) (c_aboard (w := 0) h0 hS rfl rfl rfl ht hk (by omega) ⟨fun _ => c_aboard (w := 1) h0 hS rfl rfl rfl ht hk (by omega) ⟨fun _ => l0, fun c => absurd g_c1.symm (fun e => c (congrArg nI e))⟩, fun c => ?_⟩)) (fun z => absurd z (by omega)))
    refine absurd ?_ c
    rw [nI_add, g_c1, g_c0, ← hb, pk_sub (by omega), Nat.add_sub_cancel]
end GK
