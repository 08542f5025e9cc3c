/-! the law's loop -/
theorem frO_tr {a b c : tp_St} (h : frO a b) (k : frO b c) : frO a c := fun o ho => (k o ho).trans (h o ho)
theorem law_op {i m : Nat} {av av' : List Value} {σ : tp_St} {G : Int32 → tp_St → Prop} (h : tp_E i 0 av [] σ (tp_Res m av')) (hG : ∀ r σ1, frO σ σ1 → (∀ P : Int32 → tp_St → Prop, (∀ σ2, RR_all σ2 → frO σ σ2 → P r σ2) → tp_E m 0 av' [] σ1 P) → G r σ1) : tp_E i 0 av [] σ G :=
  tp_Em (tp_E_fr h) (fun r σ1 q => hG r σ1 q.2 (fun P hP => tp_Em (tp_E_fr q.1) (fun r' σ2 z => by
    obtain ⟨⟨e, hr⟩, f2⟩ := z
    subst e
    exact hP σ2 hr (frO_tr q.2 f2))))
theorem nI_i {n : Nat} (h : n < 2147483648) : (nI n).toInt = (n : Int) := nI_toInt (by omega)
theorem law_loop {N : Nat} (hN : N < 2147483648) : ∀ d i σ, N < i + d → i ≤ N → RR_all σ → (σ.1 89 0).toNatClampNeg = N → tp_E 156 18 [.ref 90, .ref 0, .ref 58, .int (nI i)] [] σ (fun r _ => r = 1) := by
  intro d
  induction d with
  | zero => intro i σ h1 h2; omega
  | succ d ih =>
    intro i σ hd hi h hl
    refine sg_156_18 _ ?_
    rw [hl]
    have e6 : (Int32.ofNat N - 6).toInt = (N : Int) - 6 := by
      rw [Int32.toInt_sub, show (Int32.ofNat N).toInt = (N : Int) from nI_i hN, show (6 : Int32).toInt = 6 from rfl]
      simp only [Int.bmod_def]
      omega
    refine ⟨fun _ => rfl, fun hle => ?_⟩
    rw [tp_lt, e6, nI_i (by omega)] at hle
    have hv : ∀ j, j < 6 → vp_in (nI i + nI j) N := fun j hj => by rw [nI_add]; exact vp_in_nI (by omega) (by omega)
    have fin : ∀ (r : Int32) σ2, RR_all σ2 → frO σ σ2 → (r = r → tp_E 156 18 [.ref 90, .ref 0, .ref 58, .int (nI i + 6)] [] σ2 (fun r _ => r = 1)) ∧ (¬ r = r → (fun r _ => r = 1) (0 : Int32) σ2) := fun r σ2 h2 f2 => ⟨fun _ => by
      rw [show nI i + 6 = nI (i + 6) from nI_add i 6]
      exact ih (i + 6) σ2 (by omega) (by omega) h2 (by rw [f2 89 (by omega)]; exact hl), fun w => absurd rfl w⟩
    rw [← hl] at hv
    rw [← hl]
    have hv0 : vp_in (nI i) ((σ.1 89 0).toNatClampNeg) := by rw [hl]; exact vp_in_nI (by omega) (by omega)
    refine ⟨hv0, fun _ => ((fin 0 σ h (fun _ _ => rfl)).1 rfl), ?_, ?_, ?_, ?_, ?_, ?_, ?_, ?_, ?_, ?_, ?_, ?_, ?_, ?_, ?_, ?_, ?_, ?_, ?_, ?_, ?_, ?_, ?_, ?_, ?_, ?_, ?_, ?_, ?_, ?_⟩
    · exact fun _ => ⟨hv 1 (by omega), hv 2 (by omega), law_op (op_type h) (fun r σ1 f k => by
        rw [f 90 (by omega), f 89 (by omega)]
        exact ⟨hv 1 (by omega), hv 2 (by omega), k _ (fin r)⟩)⟩
    · exact fun _ => ⟨hv 1 (by omega), hv 2 (by omega), hv 3 (by omega), hv 4 (by omega), law_op (op_issue h) (fun r σ1 f k => by
        rw [f 90 (by omega), f 89 (by omega)]
        exact ⟨hv 1 (by omega), hv 2 (by omega), hv 3 (by omega), hv 4 (by omega), k _ (fin r)⟩)⟩
    · exact fun _ => ⟨hv 1 (by omega), hv 2 (by omega), hv 3 (by omega), law_op (op_pack h) (fun r σ1 f k => by
        rw [f 90 (by omega), f 89 (by omega)]
        exact ⟨hv 1 (by omega), hv 2 (by omega), hv 3 (by omega), k _ (fin r)⟩)⟩
    · exact fun _ => ⟨hv 1 (by omega), hv 2 (by omega), fun z => law_op (op_trip (Or.inl rfl) h) (fun r σ1 f k => by
        rw [f 90 (by omega), f 89 (by omega)]
        exact ⟨hv 1 (by omega), hv 2 (by omega), fun _ => k _ (fin r), fun w => absurd z w⟩), fun z => law_op (op_trip (Or.inr rfl) h) (fun r σ1 f k => by
        rw [f 90 (by omega), f 89 (by omega)]
        exact ⟨hv 1 (by omega), hv 2 (by omega), fun w => absurd w z, fun _ => k _ (fin r)⟩)⟩
    · exact fun _ => ⟨hv 1 (by omega), law_op (op_close h) (fun r σ1 f k => by
        rw [f 90 (by omega), f 89 (by omega)]
        exact ⟨hv 1 (by omega), k _ (fin r)⟩)⟩
    · exact fun _ => ⟨hv 1 (by omega), hv 2 (by omega), hv 3 (by omega), law_op (op_sell h) (fun r σ1 f k => by
        rw [f 90 (by omega), f 89 (by omega)]
        exact ⟨hv 1 (by omega), hv 2 (by omega), hv 3 (by omega), k _ (fin r)⟩)⟩
    · exact fun _ => law_op (op_undo h) (fun r σ1 f k => k _ (fin r))
    · exact fun _ => ⟨hv 1 (by omega), hv 2 (by omega), hv 3 (by omega), law_op (op_sheet h) (fun r σ1 f k => by
        rw [f 90 (by omega), f 89 (by omega)]
        exact ⟨hv 1 (by omega), hv 2 (by omega), hv 3 (by omega), k _ (fin r)⟩)⟩
    · exact fun _ => ⟨hv 1 (by omega), hv 2 (by omega), hv 3 (by omega), law_op (op_lay h) (fun r σ1 f k => by
        rw [f 90 (by omega), f 89 (by omega)]
        exact ⟨hv 1 (by omega), hv 2 (by omega), hv 3 (by omega), k _ (fin r)⟩)⟩
    · exact fun _ => ⟨hv 1 (by omega), hv 2 (by omega), hv 3 (by omega), hv 4 (by omega), hv 5 (by omega), law_op (op_scan h) (fun r σ1 f k => by
        rw [f 90 (by omega), f 89 (by omega)]
        exact ⟨hv 1 (by omega), hv 2 (by omega), hv 3 (by omega), hv 4 (by omega), hv 5 (by omega), k _ (fin r)⟩)⟩
    · exact fun _ => ⟨hv 1 (by omega), hv 2 (by omega), hv 3 (by omega), law_op (op_waybill h) (fun r σ1 f k => by
        rw [f 90 (by omega), f 89 (by omega)]
        exact ⟨hv 1 (by omega), hv 2 (by omega), hv 3 (by omega), k _ (fin r)⟩)⟩
    · exact fun _ => ⟨hv 1 (by omega), law_op (op_money h) (fun r σ1 f k => by
        rw [f 90 (by omega), f 89 (by omega)]
        exact ⟨hv 1 (by omega), k _ (fin r)⟩)⟩
    · exact fun _ => ⟨hv 1 (by omega), hv 2 (by omega), law_op (op_paid h) (fun r σ1 f k => by
        rw [f 90 (by omega), f 89 (by omega)]
        exact ⟨hv 1 (by omega), hv 2 (by omega), k _ (fin r)⟩)⟩
    · exact fun _ => ⟨hv 1 (by omega), hv 2 (by omega), hv 3 (by omega), law_op (op_aboard h) (fun r σ1 f k => by
        rw [f 90 (by omega), f 89 (by omega)]
        exact ⟨hv 1 (by omega), hv 2 (by omega), hv 3 (by omega), k _ (fin r)⟩)⟩
    · exact fun _ => ⟨hv 1 (by omega), fun z => ⟨hv 2 (by omega), hv 3 (by omega), law_op (op_riders h) (fun r σ1 f k => by
        rw [f 90 (by omega), f 89 (by omega)]
        exact ⟨hv 1 (by omega), fun _ => ⟨hv 2 (by omega), hv 3 (by omega), k _ (fin r)⟩, fun w => absurd z w⟩)⟩, fun z => ⟨hv 2 (by omega), hv 3 (by omega), law_op (op_riders h) (fun r σ1 f k => by
        rw [f 90 (by omega), f 89 (by omega)]
        exact ⟨hv 1 (by omega), fun w => absurd w z, fun _ => ⟨hv 2 (by omega), hv 3 (by omega), k _ (fin r)⟩⟩)⟩⟩
    · exact fun _ => ⟨hv 1 (by omega), hv 2 (by omega), hv 3 (by omega), hv 4 (by omega), law_op (op_shown h) (fun r σ1 f k => by
        rw [f 90 (by omega), f 89 (by omega)]
        exact ⟨hv 1 (by omega), hv 2 (by omega), hv 3 (by omega), hv 4 (by omega), k _ (fin r)⟩)⟩
    · exact fun _ => ⟨hv 1 (by omega), hv 2 (by omega), hv 3 (by omega), law_op (op_heads h) (fun r σ1 f k => by
        rw [f 90 (by omega), f 89 (by omega)]
        exact ⟨hv 1 (by omega), hv 2 (by omega), hv 3 (by omega), k _ (fin r)⟩)⟩
    · exact fun _ => ⟨hv 1 (by omega), law_op (op_gap h) (fun r σ1 f k => by
        rw [f 90 (by omega), f 89 (by omega)]
        exact ⟨hv 1 (by omega), k _ (fin r)⟩)⟩
    · exact fun _ => ⟨hv 1 (by omega), hv 2 (by omega), law_op (op_feed h) (fun r σ1 f k => by
        rw [f 90 (by omega), f 89 (by omega)]
        exact ⟨hv 1 (by omega), hv 2 (by omega), k _ (fin r)⟩)⟩
    · exact fun _ => ⟨hv 1 (by omega), law_op (op_end h) (fun r σ1 f k => by
        rw [f 90 (by omega), f 89 (by omega)]
        exact ⟨hv 1 (by omega), k _ (fin r)⟩)⟩
    · exact fun _ => law_op (op_laws h) (fun r σ1 f k => k _ (fin r))
    · exact fun _ => law_op (op_fault h) (fun r σ1 f k => k _ (fin r))
    · exact fun _ => ⟨hv 1 (by omega), hv 2 (by omega), law_op (op_fare h) (fun r σ1 f k => by
        rw [f 90 (by omega), f 89 (by omega)]
        exact ⟨hv 1 (by omega), hv 2 (by omega), k _ (fin r)⟩)⟩
    · exact fun _ => ⟨hv 1 (by omega), hv 2 (by omega), law_op (op_change h) (fun r σ1 f k => by
        rw [f 90 (by omega), f 89 (by omega)]
        exact ⟨hv 1 (by omega), hv 2 (by omega), k _ (fin r)⟩)⟩
    · exact fun _ => ⟨hv 1 (by omega), hv 2 (by omega), law_op (op_duty h) (fun r σ1 f k => by
        rw [f 90 (by omega), f 89 (by omega)]
        exact ⟨hv 1 (by omega), hv 2 (by omega), k _ (fin r)⟩)⟩
    · exact fun _ => ⟨hv 1 (by omega), law_op (op_rest h) (fun r σ1 f k => by
        rw [f 90 (by omega), f 89 (by omega)]
        exact ⟨hv 1 (by omega), k _ (fin r)⟩)⟩
    · exact fun _ => ⟨hv 1 (by omega), law_op (op_crew h) (fun r σ1 f k => by
        rw [f 90 (by omega), f 89 (by omega)]
        exact ⟨hv 1 (by omega), k _ (fin r)⟩)⟩
    · exact fun _ => ⟨hv 1 (by omega), law_op (op_crews h) (fun r σ1 f k => by
        rw [f 90 (by omega), f 89 (by omega)]
        exact ⟨hv 1 (by omega), k _ (fin r)⟩)⟩
    · exact fun _ => ⟨hv 1 (by omega), law_op (op_ill h) (fun r σ1 f k => by
        rw [f 90 (by omega), f 89 (by omega)]
        exact ⟨hv 1 (by omega), k _ (fin r)⟩)⟩
    · exact fun _ => ⟨hv 1 (by omega), law_op (op_count h) (fun r σ1 f k => by
        rw [f 90 (by omega), f 89 (by omega)]
        exact ⟨hv 1 (by omega), k _ (fin r)⟩)⟩
