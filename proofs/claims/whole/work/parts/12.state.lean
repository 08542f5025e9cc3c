/-! THE RELATION of the two worlds -/
theorem tp_sg_ne {σ : tp_St} {o k o' k' : Nat} {v : Int32} (h : ¬ (o' = o ∧ k' = k)) : (tp_set σ o k v).1 o' k' = σ.1 o' k' := by
  rw [tp_sg]
  split
  · rename_i h1
    split
    · rename_i h2
      exact absurd ⟨h1, h2⟩ h
    · rfl
  · rfl
theorem tp_sg_eq {σ : tp_St} {o k : Nat} {v : Int32} : (tp_set σ o k v).1 o k = v := by rw [tp_sg, if_pos rfl, if_pos rfl]
/-- crews, laid -/
abbrev cl_S : Type := (Nat → Option Nat) × (Nat → Int) × Nat
def cl_first (n : Nat) (fr : Nat → Int) (cr : Nat → Option Nat) : Option Nat := tp_fo (fun d (b : Option Nat) => if cr d = none ∧ (∀ e, b = some e → fr d < fr e) then some d else b) n none
def cl_crew (x : Int) (ff : Nat → Int) : Nat → Nat → Nat
  | 0, c => c
  | d + 1, c => if ff c ≤ x then c else cl_crew x ff d (c + 1)
def cl_turn (n : Nat) (fr to : Nat → Int) (rest : Int) (s : cl_S) : cl_S := match cl_first n fr s.1 with
  | none => s
  | some d => (fun e => if e = d then some (cl_crew (fr d) s.2.1 s.2.2 0) else s.1 e, fun e => if e = cl_crew (fr d) s.2.1 s.2.2 0 then to d + rest else s.2.1 e, if s.2.2 ≤ cl_crew (fr d) s.2.1 s.2.2 0 then cl_crew (fr d) s.2.1 s.2.2 0 + 1 else s.2.2)
def cl_lay (n : Nat) (fr to : Nat → Int) (rest : Int) : Nat → cl_S := fun k => tp_fo (fun _ s => cl_turn n fr to rest s) k (fun _ => none, fun _ => 0, 0)
/-! the groups -/
def RT (σ : tp_St) (nT : Nat) : Prop := nT ≤ 5 ∧ σ.1 1 2 = nI nT ∧ σ.1 58 0 = nI nT ∧ ∀ k, k < nT → σ.1 59 k = σ.1 8 k ∧ σ.1 60 k = σ.1 9 k ∧ tp_rg 1 60 (σ.1 8 k) ∧ tp_rg 1 9 (σ.1 9 k)
def RP (σ : tp_St) : Prop := ∀ c t, c < 6 → t < 5 → σ.1 61 (5 * c + t) = σ.1 (46 + c) t ∧ σ.1 62 (5 * c + t) = σ.1 (52 + c) t ∧ 0 ≤ (σ.1 (46 + c) t).toInt ∧ (σ.1 (46 + c) t).toInt ≤ (σ.1 (52 + c) t).toInt ∧ (σ.1 (52 + c) t).toInt ≤ 101000
def RR (σ : tp_St) (nR : Nat) : Prop := nR ≤ 16 ∧ σ.1 3 3 = nI nR ∧ σ.1 58 5 = nI nR ∧ ∀ k, k < nR → σ.1 63 k = σ.1 12 k ∧ σ.1 64 k = σ.1 13 k ∧ σ.1 65 k = σ.1 14 k ∧ (∃ c, c < 6 ∧ σ.1 12 k = nI c) ∧ (σ.1 13 k = 0 ∨ σ.1 13 k = 1) ∧ (σ.1 14 k = 0 ∨ σ.1 14 k = 1)
def RS1 (σ : tp_St) (nT nR k : Nat) : Prop := (∃ t, t < nR ∧ σ.1 15 k = nI t ∧ σ.1 66 k = nI t ∧ σ.1 17 k = (if σ.1 13 t = 0 then 9 - σ.1 68 k else σ.1 68 k)) ∧ (∃ y, y < nT ∧ σ.1 16 k = nI y ∧ σ.1 67 k = nI y) ∧ σ.1 69 k = σ.1 18 k ∧ tp_rg 0 8 (σ.1 17 k) ∧ tp_rg 0 101000 (σ.1 18 k)
def RS (σ : tp_St) (nT nR nS : Nat) : Prop := nS ≤ 200 ∧ σ.1 4 4 = nI nS ∧ σ.1 58 9 = nI nS ∧ ∀ k, k < nS → RS1 σ nT nR k
def RH (σ : tp_St) : Prop := (∀ k, k < 4 → (σ.1 70 k = -4 ∧ σ.1 (20 + k) 2 = -1) ∨ ∃ l n : Nat, l < 3 ∧ n ≤ 64 ∧ σ.1 70 k = nI l ∧ σ.1 (20 + k) 1 = nI l ∧ σ.1 71 k = nI n ∧ σ.1 (20 + k) 2 = nI n) ∧ ∀ k j, k < 4 → j < 64 → σ.1 72 (64 * k + j) = σ.1 (32 + k) j
def RA (σ : tp_St) (nB : Nat) : Prop := nB ≤ 200 ∧ σ.1 19 1 = nI nB ∧ σ.1 58 18 = nI nB ∧ ∀ j, j < nB → σ.1 73 j = σ.1 27 j &&& 255 ∧ (σ.1 27 j).toInt8.toInt32 = σ.1 27 j
def tp_lb (o : Nat) : Nat := if o = 24 then 36 else 41
def RLw (σ : tp_St) : Prop := (σ.2 = (24, 25) ∨ σ.2 = (25, 24)) ∧ σ.1 6 2 = σ.1 58 19 ∧ ∃ nf nw : Nat, nf ≤ 9 ∧ nw ≤ 4 ∧ σ.1 σ.2.1 5 = nI nf ∧ σ.1 58 20 = nI nf ∧ σ.1 σ.2.1 6 = nI nw ∧ σ.1 58 22 = nI nw ∧
  (∀ k, k < nf → σ.1 74 (2 * k) = σ.1 (tp_lb σ.2.1) k ∧ σ.1 74 (2 * k + 1) = σ.1 (tp_lb σ.2.1 + 1) k ∧ tp_rg 1 9 (σ.1 (tp_lb σ.2.1) k) ∧ tp_rg 1 999 (σ.1 (tp_lb σ.2.1 + 1) k)) ∧
  (∀ k, k < nw → σ.1 75 (3 * k) = σ.1 (tp_lb σ.2.1 + 2) k ∧ σ.1 75 (3 * k + 1) = σ.1 (tp_lb σ.2.1 + 3) k ∧ σ.1 75 (3 * k + 2) = σ.1 (tp_lb σ.2.1 + 4) k ∧ tp_rg 0 23 (σ.1 (tp_lb σ.2.1 + 2) k) ∧ tp_rg 1 24 (σ.1 (tp_lb σ.2.1 + 3) k) ∧ tp_rg 0 100 (σ.1 (tp_lb σ.2.1 + 4) k)) ∧
  ((σ.1 σ.2.1 7 = -1 ∧ σ.1 58 24 = -4 ∧ σ.1 58 25 = nI (nf + nw)) ∨ ∃ m : Nat, m ≤ 120 ∧ σ.1 σ.2.1 7 = nI m ∧ σ.1 58 24 = nI m ∧ σ.1 58 25 = nI (nf + nw + 1))
def RD0 (σ : tp_St) (nD : Nat) : Prop := nD ≤ 10 ∧ σ.1 7 4 = nI nD ∧ σ.1 58 38 = nI nD ∧ (∀ k, k < nD → σ.1 79 k = σ.1 28 k ∧ σ.1 80 k = σ.1 29 k ∧ 0 ≤ (σ.1 28 k).toInt ∧ (σ.1 28 k).toInt < (σ.1 29 k).toInt ∧ (σ.1 29 k).toInt ≤ 1440) ∧ σ.1 58 41 = σ.1 7 6 ∧ tp_rg 0 600 (σ.1 7 6)
def tp_cl (σ : tp_St) (nD : Nat) : cl_S := cl_lay nD (fun d => (σ.1 28 d).toInt) (fun d => (σ.1 29 d).toInt) (σ.1 7 6).toInt nD
def RC (σ : tp_St) (nD : Nat) : Prop := σ.1 7 5 = nI (tp_cl σ nD).2.2 ∧ ∀ d, d < nD → ∃ c, (tp_cl σ nD).1 d = some c ∧ σ.1 31 d = nI c
def RD (σ : tp_St) (nD : Nat) : Prop := RD0 σ nD ∧ RC σ nD
def RK (σ : tp_St) : Prop := (σ.1 91 0 = 2 ∧ σ.1 91 1 = 3 ∧ σ.1 91 2 = 1) ∧ (∀ k, k < 9 → σ.1 92 k = [1, 1, 0, 0, 1, 0, 0, 0, 0].getD k 0) ∧ ∀ k, k < 9 → σ.1 93 k = [9, 999, 0, 23, 24, 100, 120, 0, 0].getD k 0
def RR_all (σ : tp_St) : Prop := ∃ nT nR nS nB nD, RT σ nT ∧ RP σ ∧ RR σ nR ∧ RS σ nT nR nS ∧ RH σ ∧ RA σ nB ∧ RLw σ ∧ RD σ nD ∧ RK σ
def tp_Res (m : Nat) (av : List Value) : Int32 → tp_St → Prop := fun r σ1 => tp_E m 0 av [] σ1 (fun r' σ2 => r = r' ∧ RR_all σ2)
/-! a group stays where its places stay -/
theorem RT_fr {σ σ' : tp_St} {n : Nat} (h : RT σ n) (e : ∀ o k, ((o = 1 ∧ k = 2) ∨ (o = 58 ∧ k = 0) ∨ o = 8 ∨ o = 9 ∨ o = 59 ∨ o = 60) → σ'.1 o k = σ.1 o k) : RT σ' n := by
  obtain ⟨h1, h2, h3, h4⟩ := h
  refine ⟨h1, by rw [e _ _ (by omega)]; exact h2, by rw [e _ _ (by omega)]; exact h3, fun k hk => ?_⟩
  rw [e 59 k (by omega), e 60 k (by omega), e 8 k (by omega), e 9 k (by omega)]
  exact h4 k hk
theorem RP_fr {σ σ' : tp_St} (h : RP σ) (e : ∀ o k, (o = 61 ∨ o = 62 ∨ (46 ≤ o ∧ o < 58)) → σ'.1 o k = σ.1 o k) : RP σ' := by
  intro c t hc ht
  rw [e 61 _ (by omega), e 62 _ (by omega), e (46 + c) _ (by omega), e (52 + c) _ (by omega)]
  exact h c t hc ht
theorem RR_fr {σ σ' : tp_St} {n : Nat} (h : RR σ n) (e : ∀ o k, ((o = 3 ∧ k = 3) ∨ (o = 58 ∧ k = 5) ∨ o = 12 ∨ o = 13 ∨ o = 14 ∨ o = 63 ∨ o = 64 ∨ o = 65) → σ'.1 o k = σ.1 o k) : RR σ' n := by
  obtain ⟨h1, h2, h3, h4⟩ := h
  refine ⟨h1, by rw [e _ _ (by omega)]; exact h2, by rw [e _ _ (by omega)]; exact h3, fun k hk => ?_⟩
  rw [e 63 k (by omega), e 64 k (by omega), e 65 k (by omega), e 12 k (by omega), e 13 k (by omega), e 14 k (by omega)]
  exact h4 k hk
theorem RS1_fr {σ σ' : tp_St} {nT nR nT' nR' k : Nat} (h : RS1 σ nT nR k) (hT : nT ≤ nT') (hR : nR ≤ nR') (e : ∀ o j, (((o = 15 ∨ o = 16 ∨ o = 17 ∨ o = 18 ∨ o = 66 ∨ o = 67 ∨ o = 68 ∨ o = 69) ∧ j = k) ∨ (o = 13 ∧ j < nR)) → σ'.1 o j = σ.1 o j) : RS1 σ' nT' nR' k := by
  obtain ⟨⟨t, a1, a2, a3, a4⟩, ⟨y, b1, b2, b3⟩, c1, c2, c3⟩ := h
  refine ⟨⟨t, by omega, ?_, ?_, ?_⟩, ⟨y, by omega, ?_, ?_⟩, ?_, ?_, ?_⟩
  · rw [e 15 k (by omega)]; exact a2
  · rw [e 66 k (by omega)]; exact a3
  · rw [e 17 k (by omega), e 68 k (by omega), e 13 t (by omega)]; exact a4
  · rw [e 16 k (by omega)]; exact b2
  · rw [e 67 k (by omega)]; exact b3
  · rw [e 69 k (by omega), e 18 k (by omega)]; exact c1
  · rw [e 17 k (by omega)]; exact c2
  · rw [e 18 k (by omega)]; exact c3
theorem RS_fr {σ σ' : tp_St} {nT nR nS nT' nR' : Nat} (h : RS σ nT nR nS) (hT : nT ≤ nT') (hR : nR ≤ nR') (e : ∀ o k, ((o = 4 ∧ k = 4) ∨ (o = 58 ∧ k = 9) ∨ o = 15 ∨ o = 16 ∨ o = 17 ∨ o = 18 ∨ o = 66 ∨ o = 67 ∨ o = 68 ∨ o = 69 ∨ (o = 13 ∧ k < nR)) → σ'.1 o k = σ.1 o k) : RS σ' nT' nR' nS := by
  obtain ⟨h1, h2, h3, h4⟩ := h
  refine ⟨h1, by rw [e _ _ (by omega)]; exact h2, by rw [e _ _ (by omega)]; exact h3, fun k hk => ?_⟩
  exact RS1_fr (h4 k hk) hT hR (fun o j hj => e o j (by omega))
theorem RH_fr {σ σ' : tp_St} (h : RH σ) (e : ∀ o k, ((20 ≤ o ∧ o < 24) ∨ (32 ≤ o ∧ o < 36) ∨ o = 70 ∨ o = 71 ∨ o = 72) → σ'.1 o k = σ.1 o k) : RH σ' := by
  obtain ⟨h1, h2⟩ := h
  refine ⟨fun k hk => ?_, fun k j hk hj => ?_⟩
  · rw [e 70 k (by omega), e 71 k (by omega), e (20 + k) 1 (by omega), e (20 + k) 2 (by omega)]
    exact h1 k hk
  · rw [e 72 _ (by omega), e (32 + k) j (by omega)]
    exact h2 k j hk hj
theorem RA_fr {σ σ' : tp_St} {n : Nat} (h : RA σ n) (e : ∀ o k, ((o = 19 ∧ k = 1) ∨ (o = 58 ∧ k = 18) ∨ o = 73 ∨ o = 27) → σ'.1 o k = σ.1 o k) : RA σ' n := by
  obtain ⟨h1, h2, h3, h4⟩ := h
  refine ⟨h1, by rw [e _ _ (by omega)]; exact h2, by rw [e _ _ (by omega)]; exact h3, fun k hk => ?_⟩
  rw [e 73 k (by omega), e 27 k (by omega)]
  exact h4 k hk
theorem RLw_fr {σ σ' : tp_St} (h : RLw σ) (e2 : σ'.2 = σ.2) (e : ∀ o k, ((o = 6 ∧ k = 2) ∨ (o = 58 ∧ (k = 19 ∨ k = 20 ∨ k = 22 ∨ k = 24 ∨ k = 25)) ∨ o = 74 ∨ o = 75 ∨ o = 24 ∨ o = 25 ∨ (36 ≤ o ∧ o < 46)) → σ'.1 o k = σ.1 o k) : RLw σ' := by
  obtain ⟨h1, h2, nf, nw, a1, a2, a3, a4, a5, a6, a7, a8, a9⟩ := h
  have hb : tp_lb σ.2.1 = 36 ∨ tp_lb σ.2.1 = 41 := by rcases h1 with h1 | h1 <;> rw [h1] <;> simp [tp_lb]
  have ho : σ.2.1 = 24 ∨ σ.2.1 = 25 := by rcases h1 with h1 | h1 <;> rw [h1] <;> simp
  unfold RLw
  rw [e2]
  refine ⟨h1, ?_, nf, nw, a1, a2, ?_, ?_, ?_, ?_, fun k hk => ?_, fun k hk => ?_, ?_⟩
  · rw [e 6 2 (by omega), e 58 19 (by omega)]; exact h2
  · rw [e _ 5 (by omega)]; exact a3
  · rw [e 58 20 (by omega)]; exact a4
  · rw [e _ 6 (by omega)]; exact a5
  · rw [e 58 22 (by omega)]; exact a6
  · rw [e 74 _ (by omega), e 74 _ (by omega), e (tp_lb σ.2.1) _ (by omega), e (tp_lb σ.2.1 + 1) _ (by omega)]; exact a7 k hk
  · rw [e 75 _ (by omega), e 75 _ (by omega), e 75 _ (by omega), e (tp_lb σ.2.1 + 2) _ (by omega), e (tp_lb σ.2.1 + 3) _ (by omega), e (tp_lb σ.2.1 + 4) _ (by omega)]; exact a8 k hk
  · rw [e σ.2.1 7 (by omega), e 58 24 (by omega), e 58 25 (by omega)]; exact a9
theorem RD_fr {σ σ' : tp_St} {n : Nat} (h : RD σ n) (e : ∀ o k, ((o = 7 ∧ (k = 4 ∨ k = 5 ∨ k = 6)) ∨ (o = 58 ∧ (k = 38 ∨ k = 41)) ∨ o = 28 ∨ o = 29 ∨ o = 31 ∨ o = 79 ∨ o = 80) → σ'.1 o k = σ.1 o k) : RD σ' n := by
  obtain ⟨⟨h1, h2, h3, h4, h5, h6⟩, h7, h8⟩ := h
  have hc : tp_cl σ' n = tp_cl σ n := by
    unfold tp_cl
    rw [e 7 6 (by omega), show (fun d => (σ'.1 28 d).toInt) = (fun d => (σ.1 28 d).toInt) from funext fun d => by rw [e 28 d (by omega)], show (fun d => (σ'.1 29 d).toInt) = (fun d => (σ.1 29 d).toInt) from funext fun d => by rw [e 29 d (by omega)]]
  refine ⟨⟨h1, by rw [e _ _ (by omega)]; exact h2, by rw [e _ _ (by omega)]; exact h3, fun k hk => ?_, by rw [e _ _ (by omega), e 7 6 (by omega)]; exact h5, by rw [e 7 6 (by omega)]; exact h6⟩, ?_, fun d hd => ?_⟩
  · rw [e 79 k (by omega), e 80 k (by omega), e 28 k (by omega), e 29 k (by omega)]; exact h4 k hk
  · rw [hc, e 7 5 (by omega)]; exact h7
  · rw [hc, e 31 d (by omega)]; exact h8 d hd
theorem RK_fr {σ σ' : tp_St} (h : RK σ) (e : ∀ o k, (91 ≤ o ∧ o < 94) → σ'.1 o k = σ.1 o k) : RK σ' := by
  obtain ⟨⟨h1, h2, h3⟩, h4, h5⟩ := h
  refine ⟨⟨by rw [e _ _ (by omega)]; exact h1, by rw [e _ _ (by omega)]; exact h2, by rw [e _ _ (by omega)]; exact h3⟩, fun k hk => by rw [e _ _ (by omega)]; exact h4 k hk, fun k hk => by rw [e _ _ (by omega)]; exact h5 k hk⟩
