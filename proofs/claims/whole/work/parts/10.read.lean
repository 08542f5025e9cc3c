theorem tp_Em {i pc : Nat} {L st : List Value} {σ : tp_St} {p p' : Int32 → tp_St → Prop} (h : tp_E i pc L st σ p) (hp : ∀ r σ, p r σ → p' r σ) : tp_E i pc L st σ p' := tp_E_mono i pc L st σ p p' hp h
theorem tp_rk46 {j : Int32} (h : vp_in j 6) : tp_kd (46 + j.toNatClampNeg) = 20 ∧ tp_ln (46 + j.toNatClampNeg) = 5 := by
  obtain ⟨k, hk, rfl⟩ := vp_in_of h (by decide)
  rw [nI_clamp (by omega)]
  exact (by decide +kernel : ∀ k, k < 6 → tp_kd (46 + k) = 20 ∧ tp_ln (46 + k) = 5) k hk
theorem tp_rk52 {j : Int32} (h : vp_in j 6) : tp_kd (52 + j.toNatClampNeg) = 20 ∧ tp_ln (52 + j.toNatClampNeg) = 5 := by
  obtain ⟨k, hk, rfl⟩ := vp_in_of h (by decide)
  rw [nI_clamp (by omega)]
  exact (by decide +kernel : ∀ k, k < 6 → tp_kd (52 + k) = 20 ∧ tp_ln (52 + k) = 5) k hk
theorem tp_rw {o n mid : Nat} {t : Int32} {σ : tp_St} {P : Prop} (hk : tp_kd o = 20 ∧ tp_ln o = n) (h : vp_in t n ∧ P) : tp_chk (tp_kd o == 20 || (tp_kd o == 27 || (tp_kd o == 26 && mid == tp_law))) (vp_in t (tp_len σ o) ∧ P) := by
  obtain ⟨hk, rfl⟩ := hk
  simp only [hk, tp_len]
  exact h
theorem tp_rs {o n : Nat} {t : Int32} {P : Prop} (hk : tp_kd o = 20 ∧ tp_ln o = n) (h : vp_in t n ∧ P) : tp_chk (tp_kd o == 20) (vp_in t (tp_ln o) ∧ P) := by
  obtain ⟨hk, rfl⟩ := hk
  simp only [hk]
  exact h

/-- X0_tellDraft ()I, 0 -/
theorem sg_1_0 {post : Int32 → tp_St → Prop} {σ : tp_St}   (h : (σ.2.1 = 24 ∨ σ.2.1 = 25) ∧ (σ.2.1 = 24 →
(σ.2.2 = 24 ∨ σ.2.2 = 25) ∧ (σ.2.2 = 24 →
tp_E 7 0 [.ref 24] [] ((σ.1, (24, σ.2.2)).1, ((σ.1, (24, σ.2.2)).2.1, 24)) (fun r1 σ1 =>
post r1 σ1)) ∧ (σ.2.2 = 25 →
tp_E 7 0 [.ref 25] [] ((σ.1, (25, σ.2.2)).1, ((σ.1, (25, σ.2.2)).2.1, 24)) (fun r4 σ4 =>
post r4 σ4))) ∧ (σ.2.1 = 25 →
(σ.2.2 = 24 ∨ σ.2.2 = 25) ∧ (σ.2.2 = 24 →
tp_E 7 0 [.ref 24] [] ((σ.1, (24, σ.2.2)).1, ((σ.1, (24, σ.2.2)).2.1, 25)) (fun r5 σ5 =>
post r5 σ5)) ∧ (σ.2.2 = 25 →
tp_E 7 0 [.ref 25] [] ((σ.1, (25, σ.2.2)).1, ((σ.1, (25, σ.2.2)).2.1, 25)) (fun r8 σ8 =>
post r8 σ8)))) : tp_E 1 0 [.ref 6, .null] [] σ post := tp_E_step (And.intro h.1 (And.intro (fun c9 => And.intro (h.2.1 c9).1 (And.intro (fun c10 => And.intro (Or.inl rfl) (And.intro (fun _ => tp_Em ((h.2.1 c9).2.1 c10) (fun r1 σ1 h1 => And.intro rfl h1)) (fun hc => absurd hc (by decide)))) (fun c10 => And.intro (Or.inr rfl) (And.intro (fun hc => absurd hc (by decide)) (fun _ => tp_Em ((h.2.1 c9).2.2 c10) (fun r4 σ4 h4 => And.intro rfl h4)))))) (fun c9 => And.intro (h.2.2 c9).1 (And.intro (fun c13 => And.intro (Or.inl rfl) (And.intro (fun _ => tp_Em ((h.2.2 c9).2.1 c13) (fun r5 σ5 h5 => And.intro rfl h5)) (fun hc => absurd hc (by decide)))) (fun c13 => And.intro (Or.inr rfl) (And.intro (fun hc => absurd hc (by decide)) (fun _ => tp_Em ((h.2.2 c9).2.2 c13) (fun r8 σ8 h8 => And.intro rfl h8))))))))
/-- X1_priceFor (II)I, 0 -/
theorem sg_11_0 {post : Int32 → tp_St → Prop} {σ : tp_St} (q0 : Nat) (a1 : Int32) (a2 : Int32) (hq0 : q0 = 24 ∨ q0 = 25) (h : tp_E 11 2 [.ref q0, .int a1, .int a2, .int 0] [] σ post) : tp_E 11 0 [.ref q0, .int a1, .int a2, .null] [] σ post := by
  rcases hq0 with rfl | rfl
  · exact tp_E_step (Exists.intro [.ref 24, .int a1, .int a2, .int 0] (And.intro (And.intro (Or.inr rfl) (And.intro (Or.inr rfl) (And.intro (Or.inr rfl) (And.intro (Or.inr rfl) (trivial))))) h))
  · exact tp_E_step (Exists.intro [.ref 25, .int a1, .int a2, .int 0] (And.intro (And.intro (Or.inr rfl) (And.intro (Or.inr rfl) (And.intro (Or.inr rfl) (And.intro (Or.inr rfl) (trivial))))) h))
/-- X1_priceFor (II)I, 2 -/
theorem sg_11_2 {post : Int32 → tp_St → Prop} {σ : tp_St} (q0 : Nat) (a1 : Int32) (a2 : Int32) (a3 : Int32) (hq0 : q0 = 24 ∨ q0 = 25) (h : ((σ.1 q0 5) ≤ a3 →
post (-4) σ) ∧ (¬ (σ.1 q0 5) ≤ a3 →
vp_in a3 9 ∧
((σ.1 (tp_rr σ q0 0) (a3).toNatClampNeg) < a1 →
tp_E 11 2 [.ref q0, .int a1, .int a2, .int (a3 + 1)] [] σ post) ∧ (¬ (σ.1 (tp_rr σ q0 0) (a3).toNatClampNeg) < a1 →
vp_in a3 9 ∧
tp_E 12 0 [.ref q0, .int a2, .null] [] σ (fun r1 σ1 =>
post ((((σ.1 (tp_rr σ q0 1) (a3).toNatClampNeg) * r1) + 99) / 100) σ1)))) : tp_E 11 2 [.ref q0, .int a1, .int a2, .int a3] [] σ post := by
  rcases hq0 with rfl | rfl
  · exact tp_E_step (And.intro (fun c2 => Exists.intro _ (And.intro (tp_wk_rf _) (tp_E_step (And.intro rfl (h.1 c2))))) (fun c2 => And.intro (h.2 c2).1 (And.intro (fun c3 => Exists.intro _ (And.intro (tp_wk_rf _) (tp_E_step (Exists.intro [.ref 24, .int a1, .int a2, .int (a3 + 1)] (And.intro (And.intro (Or.inr rfl) (And.intro (Or.inr rfl) (And.intro (Or.inr rfl) (And.intro (Or.inr rfl) (trivial))))) ((h.2 c2).2.1 c3)))))) (fun c3 => And.intro ((h.2 c2).2.2 c3).1 (tp_Em ((h.2 c2).2.2 c3).2 (fun r1 σ1 h1 => And.intro (by decide) (And.intro rfl h1)))))))
  · exact tp_E_step (And.intro (fun c2 => Exists.intro _ (And.intro (tp_wk_rf _) (tp_E_step (And.intro rfl (h.1 c2))))) (fun c2 => And.intro (h.2 c2).1 (And.intro (fun c3 => Exists.intro _ (And.intro (tp_wk_rf _) (tp_E_step (Exists.intro [.ref 25, .int a1, .int a2, .int (a3 + 1)] (And.intro (And.intro (Or.inr rfl) (And.intro (Or.inr rfl) (And.intro (Or.inr rfl) (And.intro (Or.inr rfl) (trivial))))) ((h.2 c2).2.1 c3)))))) (fun c3 => And.intro ((h.2 c2).2.2 c3).1 (tp_Em ((h.2 c2).2.2 c3).2 (fun r1 σ1 h1 => And.intro (by decide) (And.intro rfl h1)))))))
/-- X2_takeNext (II)I, 0 -/
theorem sg_16_0 {post : Int32 → tp_St → Prop} {σ : tp_St} (a1 : Int32) (a2 : Int32)  (h : vp_in a1 6 ∧
vp_in a2 5 ∧
vp_in a2 5 ∧
post (σ.1 (46 + (a1).toNatClampNeg) (a2).toNatClampNeg) (tp_set σ (46 + (a1).toNatClampNeg) (a2).toNatClampNeg ((σ.1 (46 + (a1).toNatClampNeg) (a2).toNatClampNeg) + 1))) : tp_E 16 0 [.ref 2, .int a1, .int a2] [] σ post := tp_E_step (And.intro h.1 (tp_rw (tp_rk46 h.1) (And.intro h.2.1 (tp_rs (tp_rk46 h.1) (And.intro h.2.2.1 (And.intro rfl h.2.2.2))))))
/-- X4_find (II)I, 0 -/
theorem sg_33_0 {post : Int32 → tp_St → Prop} {σ : tp_St} (a1 : Int32) (a2 : Int32)  (h : tp_E 33 2 [.ref 4, .int a1, .int a2, .int 0] [] σ post) : tp_E 33 0 [.ref 4, .int a1, .int a2, .null] [] σ post := tp_E_step (Exists.intro [.ref 4, .int a1, .int a2, .int 0] (And.intro (And.intro (Or.inr rfl) (And.intro (Or.inr rfl) (And.intro (Or.inr rfl) (And.intro (Or.inr rfl) (trivial))))) h))
/-- X4_find (II)I, 2 -/
theorem sg_33_2 {post : Int32 → tp_St → Prop} {σ : tp_St} (a1 : Int32) (a2 : Int32) (a3 : Int32)  (h : ((σ.1 4 4) ≤ a3 →
post (-1) σ) ∧ (¬ (σ.1 4 4) ≤ a3 →
vp_in a3 200 ∧
((σ.1 16 (a3).toNatClampNeg) = a1 →
vp_in a3 200 ∧
((σ.1 18 (a3).toNatClampNeg) = a2 →
post a3 σ) ∧ (¬ (σ.1 18 (a3).toNatClampNeg) = a2 →
tp_E 33 2 [.ref 4, .int a1, .int a2, .int (a3 + 1)] [] σ post)) ∧ (¬ (σ.1 16 (a3).toNatClampNeg) = a1 →
tp_E 33 2 [.ref 4, .int a1, .int a2, .int (a3 + 1)] [] σ post))) : tp_E 33 2 [.ref 4, .int a1, .int a2, .int a3] [] σ post := tp_E_step (And.intro (fun c1 => Exists.intro _ (And.intro (tp_wk_rf _) (tp_E_step (And.intro rfl (h.1 c1))))) (fun c1 => And.intro (h.2 c1).1 (And.intro (fun c2 => And.intro ((h.2 c1).2.1 c2).1 (And.intro (fun c3 => And.intro rfl (((h.2 c1).2.1 c2).2.1 c3)) (fun c3 => Exists.intro _ (And.intro (tp_wk_rf _) (tp_E_step (Exists.intro [.ref 4, .int a1, .int a2, .int (a3 + 1)] (And.intro (And.intro (Or.inr rfl) (And.intro (Or.inr rfl) (And.intro (Or.inr rfl) (And.intro (Or.inr rfl) (trivial))))) (((h.2 c1).2.1 c2).2.2 c3)))))))) (fun c2 => Exists.intro _ (And.intro (tp_wk_rf _) (tp_E_step (Exists.intro [.ref 4, .int a1, .int a2, .int (a3 + 1)] (And.intro (And.intro (Or.inr rfl) (And.intro (Or.inr rfl) (And.intro (Or.inr rfl) (And.intro (Or.inr rfl) (trivial))))) ((h.2 c1).2.2 c2)))))))))
/-- X8_has (I)Z, 0 -/
theorem sg_59_0 {post : Int32 → tp_St → Prop} {σ : tp_St} (a1 : Int32)  (h : (a1 < 0 →
post 0 σ) ∧ (¬ a1 < 0 →
((σ.1 1 2) ≤ a1 →
post 0 σ) ∧ (¬ (σ.1 1 2) ≤ a1 →
post 1 σ))) : tp_E 59 0 [.ref 1, .int a1] [] σ post := tp_E_step (And.intro (fun c1 => Exists.intro _ (And.intro (tp_wk_rf _) (tp_E_step (Exists.intro _ (And.intro (tp_wk_rf _) (tp_E_step (And.intro rfl (h.1 c1)))))))) (fun c1 => And.intro (fun c2 => Exists.intro _ (And.intro (tp_wk_rf _) (tp_E_step (Exists.intro _ (And.intro (tp_wk_rf _) (tp_E_step (And.intro rfl ((h.2 c1).1 c2)))))))) (fun c2 => Exists.intro _ (And.intro (tp_wk_rf _) (tp_E_step (And.intro rfl ((h.2 c1).2 c2)))))))
/-- X9_fare (II)I, 0 -/
theorem sg_83_0 {post : Int32 → tp_St → Prop} {σ : tp_St} (a1 : Int32) (a2 : Int32)  (h : tp_E 91 0 [.int a1, .int 1, .int 9] [] σ (fun r1 σ1 =>
(r1 = 0 →
tp_E 91 0 [.int a2, .int 0, .int 1439] [] σ1 (fun r2 σ2 =>
(r2 = 0 →
(σ2.2.1 = 24 ∨ σ2.2.1 = 25) ∧ (σ2.2.1 = 24 →
tp_E 11 0 [.ref 24, .int a1, .int (a2 / 60), .null] [] σ2 (fun r3 σ3 =>
post r3 σ3)) ∧ (σ2.2.1 = 25 →
tp_E 11 0 [.ref 25, .int a1, .int (a2 / 60), .null] [] σ2 (fun r4 σ4 =>
post r4 σ4))) ∧ (¬ r2 = 0 →
post (-1) σ2))) ∧ (¬ r1 = 0 →
post (-1) σ1))) : tp_E 83 0 [.ref 0, .int a1, .int a2] [] σ post := tp_E_step (tp_Em h (fun r1 σ1 h1 => And.intro (fun c3 => tp_Em (h1.1 c3) (fun r2 σ2 h2 => And.intro (fun c4 => Exists.intro _ (And.intro (tp_wk_rf _) (tp_E_step (And.intro (h2.1 c4).1 (And.intro (fun c7 => And.intro (by decide) (tp_Em ((h2.1 c4).2.1 c7) (fun r5 σ5 h5 => And.intro rfl h5))) (fun c7 => And.intro (by decide) (tp_Em ((h2.1 c4).2.2 c7) (fun r6 σ6 h6 => And.intro rfl h6)))))))) (fun c4 => Exists.intro _ (And.intro (tp_wk_rf _) (tp_E_step (And.intro rfl (h2.2 c4))))))) (fun c3 => Exists.intro _ (And.intro (tp_wk_rf _) (tp_E_step (And.intro rfl (h1.2 c3)))))))
/-- X9_takings (I)I, 0 -/
theorem sg_93_0 {post : Int32 → tp_St → Prop} {σ : tp_St} (a1 : Int32)  (h : tp_E 93 4 [.ref 0, .int a1, .int 0, .int 0] [] σ post) : tp_E 93 0 [.ref 0, .int a1, .null, .null] [] σ post := tp_E_step (Exists.intro [.ref 0, .int a1, .int 0, .int 0] (And.intro (And.intro (Or.inr rfl) (And.intro (Or.inr rfl) (And.intro (Or.inr rfl) (And.intro (Or.inr rfl) (trivial))))) h))
/-- X9_takings (I)I, 4 -/
theorem sg_93_4 {post : Int32 → tp_St → Prop} {σ : tp_St} (a1 : Int32) (a2 : Int32) (a3 : Int32)  (h : ((σ.1 4 4) ≤ a3 →
post a2 σ) ∧ (¬ (σ.1 4 4) ≤ a3 →
vp_in a3 200 ∧
((σ.1 15 (a3).toNatClampNeg) = a1 →
vp_in a3 200 ∧
vp_in (σ.1 16 (a3).toNatClampNeg) 5 ∧
tp_E 93 4 [.ref 0, .int a1, .int (a2 + (σ.1 8 ((σ.1 16 (a3).toNatClampNeg)).toNatClampNeg)), .int (a3 + 1)] [] σ post) ∧ (¬ (σ.1 15 (a3).toNatClampNeg) = a1 →
tp_E 93 4 [.ref 0, .int a1, .int a2, .int (a3 + 1)] [] σ post))) : tp_E 93 4 [.ref 0, .int a1, .int a2, .int a3] [] σ post := tp_E_step (And.intro (fun c1 => Exists.intro _ (And.intro (tp_wk_rf _) (tp_E_step (And.intro rfl (h.1 c1))))) (fun c1 => And.intro (h.2 c1).1 (And.intro (fun c2 => And.intro ((h.2 c1).2.1 c2).1 (And.intro ((h.2 c1).2.1 c2).2.1 (Exists.intro _ (And.intro (tp_wk_rf _) (tp_E_step (Exists.intro [.ref 0, .int a1, .int (a2 + (σ.1 8 ((σ.1 16 (a3).toNatClampNeg)).toNatClampNeg)), .int (a3 + 1)] (And.intro (And.intro (Or.inr rfl) (And.intro (Or.inr rfl) (And.intro (Or.inr rfl) (And.intro (Or.inr rfl) (trivial))))) ((h.2 c1).2.1 c2).2.2))))))) (fun c2 => Exists.intro _ (And.intro (tp_wk_rf _) (tp_E_step (Exists.intro [.ref 0, .int a1, .int a2, .int (a3 + 1)] (And.intro (And.intro (Or.inr rfl) (And.intro (Or.inr rfl) (And.intro (Or.inr rfl) (And.intro (Or.inr rfl) (trivial))))) ((h.2 c1).2.2 c2)))))))))
