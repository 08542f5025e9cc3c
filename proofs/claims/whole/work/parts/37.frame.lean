/-! nothing that is only read changes -/
def frO (σ0 σ : tp_St) : Prop := ∀ o, 82 ≤ o → σ.1 o = σ0.1 o
theorem frO_set {σ0 σ : tp_St} {o k : Nat} {v : Int32} (h : frO σ0 σ) (ho : o < 82) : frO σ0 (tp_set σ o k v) := fun o' h' => by
  rw [← h o' h']
  funext j
  exact tp_sg_ne (by omega)
theorem tp_chk_k {b : Bool} {P P' : Prop} (h : b = true → P → P') : tp_chk b P → tp_chk b P' := by
  cases b
  · exact id
  · exact h rfl
theorem kd_n {o c : Nat} (h : (tp_kd o == c) = true) (hc : c < 25) : o < 82 := tp_kd_lt (by rw [beq_iff_eq] at h; omega)
theorem kd_2 {o : Nat} (h : (tp_kd o == 21 || tp_kd o == 22) = true) : o < 82 := by
  rw [Bool.or_eq_true] at h
  rcases h with h | h
  · exact kd_n h (by omega)
  · exact kd_n h (by omega)
def pf_ok (x : tp_Ins) : Prop := match x.1 with
  | .putfield _ => x.2.2.2.1 < 25
  | _ => True
set_option maxHeartbeats 4000000 in
theorem tp_I_fr {mid : Nat} {σ0 : tp_St} {K K' : tp_KT} {C C' : tp_CT} {post post' : Int32 → tp_St → Prop} {nx nx' : List Value → List Value → tp_St → Prop} (hK : ∀ t L st σ, frO σ0 σ → K t L st σ → K' t L st σ) (hC : ∀ a av σ p p', frO σ0 σ → (∀ r σ', frO σ0 σ' → p r σ' → p' r σ') → C a av σ p → C' a av σ p')
    (hp : ∀ r σ, frO σ0 σ → post r σ → post' r σ) (hn : ∀ L st σ, frO σ0 σ → nx L st σ → nx' L st σ) (x : tp_Ins) (hx : pf_ok x) (pc : Nat) (L st : List Value) (σ : tp_St) (h : frO σ0 σ) : tp_I mid K C post nx x pc L st σ → tp_I mid K' C' post' nx' x pc L st σ := by
  obtain ⟨i, n, v, a, b, w⟩ := x
  cases i <;> first
    | exact False.elim
    | exact hn _ _ _ h
    | exact hK _ _ _ _ h
    | exact tp_gi_m fun _ => hn _ _ _ h
    | exact tp_gl_m fun _ => hn _ _ _ h
    | exact tp_gr_m fun _ => hn _ _ _ h
    | exact tp_gi_m fun _ => tp_chk_m (hn _ _ _ h)
    | exact tp_i1_m fun _ _ => hn _ _ _ h
    | exact tp_i1_m fun _ _ => tp_chk_m (hn _ _ _ h)
    | exact tp_l1_m fun _ _ => hn _ _ _ h
    | exact tp_l1_m fun _ _ => tp_chk_m (hn _ _ _ h)
    | exact tp_i2_m fun _ _ _ => hn _ _ _ h
    | exact tp_i2_m fun _ _ _ => And.imp_right (hn _ _ _ h)
    | exact tp_l2_m fun _ _ _ => hn _ _ _ h
    | exact tp_il_m fun _ _ _ => hn _ _ _ h
    | exact tp_a1_m fun _ _ => hn _ _ _ h
    | exact tp_a2_m fun _ _ _ => hn _ _ _ h
    | exact tp_a3_m fun _ _ _ _ => hn _ _ _ h
    | exact tp_r1_m fun _ _ => tp_chk_m (hn _ _ _ h)
    | exact tp_ri_m fun _ _ _ => tp_chk_m (And.imp_right (hn _ _ _ h))
    | exact tp_rii_m fun _ _ _ _ => tp_chk_k fun hb => And.imp_right (hn _ _ _ (frO_set h (kd_n hb (by decide))))
    | exact tp_rii_m fun _ _ _ _ => tp_chk_k fun hb => And.imp_right (hn _ _ _ (frO_set h (kd_2 hb)))
    | exact tp_i1_m fun _ _ => And.imp (fun q z => hK _ _ _ _ h (q z)) (tp_tl_m (fun _ => hK _ _ _ _ h) _ _)
    | exact tp_i1_m fun _ _ => tp_lk_m (fun _ => hK _ _ _ _ h) _
    | exact tp_chk_m (hC _ _ _ _ _ h (fun _ _ h' => hn _ _ _ h'))
    | exact tp_is_m (tp_i2_m fun _ _ _ => tp_chk_m (hn _ _ _ h)) (tp_i2_m fun _ _ _ => tp_chk_m (hn _ _ _ h)) (tp_chk_m (hC _ _ _ _ _ h (fun _ _ h' => hn _ _ _ h')))
    | (rename_i cd _; cases cd <;> first
        | exact tp_i1_m fun _ _ => tp_br_m (hK _ _ _ _ h) (hn _ _ _ h)
        | exact tp_i1_m fun _ _ => tp_br_m (hn _ _ _ h) (hK _ _ _ _ h)
        | exact tp_i2_m fun _ _ _ => tp_br_m (hn _ _ _ h) (hK _ _ _ _ h)
        | exact tp_i2_m fun _ _ _ => tp_br_m (hK _ _ _ _ h) (hn _ _ _ h))
    | (simp only [tp_I]; split <;> first
        | exact hn _ _ _ h
        | exact False.elim
        | exact And.imp (hn _ _ _ h) (hn _ _ _ h)
        | exact tp_ri_m fun _ _ _ => tp_chk_k fun hb => hn _ _ _ (frO_set h (kd_n hb hx))
        | exact tp_r2_m fun _ _ _ => tp_chk_m (tp_pf_m (hn _ _ _ h) (hn _ _ _ h))
        | exact tp_chk_m (hp _ _ h)
        | exact tp_chk_m (hC _ _ _ _ _ h (fun _ _ h' => hn _ _ _ h'))
        | exact tp_i2_m fun _ _ _ => tp_chk_m (hn _ _ _ h)
        | exact tp_i1_m fun _ _ => tp_chk_m (And.imp_right (hp _ _ h)))
    | (simp only [tp_I]; refine tp_ri_m fun _ _ _ => ?_; split <;> first
        | exact And.imp_right (tp_four_m fun _ => hn _ _ _ h)
        | exact tp_chk_m (And.imp_right (hn _ _ _ h)))
    | (simp only [tp_I]; refine tp_r1_m fun _ _ => tp_chk_m ?_; split <;> first
        | exact hn _ _ _ h
        | (split <;> first
          | exact hn _ _ _ h
          | (split <;> first
            | exact hn _ _ _ h
            | exact tp_two_m fun _ => hn _ _ _ h)))
theorem vw_lt {a : Nat} {z : vw_C} (h : vwCl[a]? = some z) : a < 25 := Nat.lt_of_lt_of_le (List.getElem?_eq_some_iff.mp h).1 (by decide +kernel)
theorem tp_ok_pf {mid pc : Nat} {x : tp_Ins} (h : tp_ok mid pc x = true) : pf_ok x := by
  obtain ⟨i, n, v, a, b, w⟩ := x
  unfold pf_ok
  split
  · rename_i k hk
    dsimp only at hk
    subst hk
    simp only [tp_ok, tp_ok2, Bool.and_eq_true] at h
    have h2 := h.2.2
    split at h2
    · rename_i z hz
      exact vw_lt hz
    · cases h2
  · trivial
theorem tp_B_fr {mid : Nat} {σ0 : tp_St} {K K' : tp_KT} {C C' : tp_CT} {post post' : Int32 → tp_St → Prop} (hK : ∀ t L st σ, frO σ0 σ → K t L st σ → K' t L st σ) (hC : ∀ a av σ p p', frO σ0 σ → (∀ r σ', frO σ0 σ' → p r σ' → p' r σ') → C a av σ p → C' a av σ p')
    (hp : ∀ r σ, frO σ0 σ → post r σ → post' r σ) : ∀ (is : List tp_Ins) (pc : Nat) (L st : List Value) (σ : tp_St), tp_okL mid pc is = true → frO σ0 σ → tp_B mid K C post is pc L st σ → tp_B mid K' C' post' is pc L st σ
  | [], _, _, _, _, _, h => hK _ _ _ _ h
  | x :: is, pc, L, st, σ, hok, h => by
    simp only [tp_okL, Bool.and_eq_true] at hok
    exact tp_I_fr hK hC hp (fun L st σ h' => tp_B_fr hK hC hp is _ L st σ hok.2 h') x (tp_ok_pf hok.1) pc L st σ h
def X_fr : tp_XT := fun i pc L st σ post => ∀ σ0, frO σ0 σ → tp_E i pc L st σ (fun r σ' => post r σ' ∧ frO σ0 σ')
theorem X_fr_m : tp_Mono X_fr := fun i pc L st σ p p' hp h σ0 hf => tp_E_mono _ _ _ _ _ _ _ (fun r σ' q => ⟨hp r σ' q.1, q.2⟩) (h σ0 hf)
theorem X_fr_c : tp_Cl X_fr := fun i pc L st σ post hB σ0 hf =>
  tp_E_step (tp_B_fr (fun _ _ _ _ h' q => Exists.elim q (fun L' w => ⟨L', w.1, w.2 σ0 h'⟩)) (fun _ _ _ _ _ h' hpp q => tp_E_mono _ _ _ _ _ _ _ (fun r σ' z => hpp r σ' z.2 z.1) (q σ0 h')) (fun _ _ h' q => ⟨q, h'⟩) _ _ _ _ _ (tp_okB i pc) hf hB)
theorem tp_E_fr {i pc : Nat} {L st : List Value} {σ : tp_St} {post : Int32 → tp_St → Prop} (h : tp_E i pc L st σ post) : tp_E i pc L st σ (fun r σ' => post r σ' ∧ frO σ σ') := h X_fr X_fr_m X_fr_c σ (fun _ _ => rfl)
