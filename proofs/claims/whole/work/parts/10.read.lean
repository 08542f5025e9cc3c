theorem tp_Em {i pc : Nat} {L st : List Value} {σ : tp_St} {p p' : Int32 → tp_St → Prop} (h : tp_E i pc L st σ p) (hp : ∀ r σ, p r σ → p' r σ) : tp_E i pc L st σ p' := tp_E_mono i pc L st σ p p' hp h
theorem tp_rk46 {j : Int32} (h : vp_in j 6) : tp_kd (46 + j.toNatClampNeg) = 20 ∧ tp_ln (46 + j.toNatClampNeg) = 5 := by
  obtain ⟨k, hk, rfl⟩ := vp_in_of h (by decide)
  rw [nI_clamp (by omega)]
  exact (by decide +kernel : ∀ k, k < 6 → tp_kd (46 + k) = 20 ∧ tp_ln (46 + k) = 5) k hk
theorem tp_rk52 {j : Int32} (h : vp_in j 6) : tp_kd (52 + j.toNatClampNeg) = 20 ∧ tp_ln (52 + j.toNatClampNeg) = 5 := by
  obtain ⟨k, hk, rfl⟩ := vp_in_of h (by decide)
  rw [nI_clamp (by omega)]
  exact (by decide +kernel : ∀ k, k < 6 → tp_kd (52 + k) = 20 ∧ tp_ln (52 + k) = 5) k hk
theorem tp_rw {o n mid : Nat} {t : Int32} {σ : tp_St} {P : Prop} (hk : tp_kd o = 20 ∧ tp_ln o = n) (h : vp_in t n ∧ P) : tp_chk (tp_kd o == 20 || (tp_kd o == 27 || (tp_kd o == 26 && mid == tp_law))) (vp_in t (tp_len σ o) ∧ P) := by
  obtain ⟨hk, rfl⟩ := hk
  simp only [hk, tp_len]
  exact h
theorem tp_rs {o n : Nat} {t : Int32} {P : Prop} (hk : tp_kd o = 20 ∧ tp_ln o = n) (h : vp_in t n ∧ P) : tp_chk (tp_kd o == 20) (vp_in t (tp_ln o) ∧ P) := by
  obtain ⟨hk, rfl⟩ := hk
  simp only [hk]
  exact h

/-- X0_readTape ()I, 0 -/
theorem sg_0_0 {post : Int32 → tp_St → Prop} {σ : tp_St}   (h : (σ.2.2 = 24 ∨ σ.2.2 = 25) ∧ (σ.2.2 = 24 →
tp_E 6 0 [.ref 24] [] σ (fun r1 σ1 =>
tp_E 46 0 [.ref 19] [] σ1 (fun r2 σ2 =>
tp_E 0 28 [.ref 6, .int 0, .int 0, .null] [] (tp_set (tp_set σ2 6 5 (-1)) 6 2 0) post))) ∧ (σ.2.2 = 25 →
tp_E 6 0 [.ref 25] [] σ (fun r3 σ3 =>
tp_E 46 0 [.ref 19] [] σ3 (fun r4 σ4 =>
tp_E 0 28 [.ref 6, .int 0, .int 0, .null] [] (tp_set (tp_set σ4 6 5 (-1)) 6 2 0) post)))) : tp_E 0 0 [.ref 6, .null, .null, .null] [] σ post := tp_E_step (And.intro h.1 (And.intro (fun c5 => tp_Em (h.2.1 c5) (fun r1 σ1 h1 => tp_Em h1 (fun r2 σ2 h2 => Exists.intro [.ref 6, .int 0, .int 0, .null] (And.intro (And.intro (Or.inr rfl) (And.intro (Or.inr rfl) (And.intro (Or.inr rfl) (And.intro (Or.inr rfl) (trivial))))) h2)))) (fun c5 => tp_Em (h.2.2 c5) (fun r3 σ3 h3 => tp_Em h3 (fun r4 σ4 h4 => Exists.intro [.ref 6, .int 0, .int 0, .null] (And.intro (And.intro (Or.inr rfl) (And.intro (Or.inr rfl) (And.intro (Or.inr rfl) (And.intro (Or.inr rfl) (trivial))))) h4))))))
/-- X0_readTape ()I, 28 -/
theorem sg_0_28 {post : Int32 → tp_St → Prop} {σ : tp_St} (a1 : Int32) (a2 : Int32)  (h : (200 < a2 →
((σ.1 6 2) = 0 →
tp_E 1 0 [.ref 6, .null] [] (tp_set σ 19 1 0) (fun r3 σ3 =>
post r3 σ3)) ∧ (¬ (σ.1 6 2) = 0 →
post ((-10) - (σ.1 19 2)) (tp_set σ 19 1 0))) ∧ (¬ 200 < a2 →
(a1 = 0 →
((σ.1 6 2) = 0 →
tp_E 47 0 [.ref 19] [] σ (fun r1 σ1 =>
tp_E 2 0 [.ref 6, .int r1] [] σ1 (fun r2 σ2 =>
(r1 = 1 →
tp_E 0 28 [.ref 6, .int 1, .int (a2 + 1), .null] [] (tp_set σ2 6 2 r2) post) ∧ (¬ r1 = 1 →
tp_E 0 28 [.ref 6, .int 0, .int (a2 + 1), .null] [] (tp_set σ2 6 2 r2) post)))) ∧ (¬ (σ.1 6 2) = 0 →
((σ.1 6 2) = 0 →
tp_E 1 0 [.ref 6, .null] [] (tp_set σ 19 1 0) (fun r4 σ4 =>
post r4 σ4)) ∧ (¬ (σ.1 6 2) = 0 →
post ((-10) - (σ.1 19 2)) (tp_set σ 19 1 0)))) ∧ (¬ a1 = 0 →
((σ.1 6 2) = 0 →
tp_E 1 0 [.ref 6, .null] [] (tp_set σ 19 1 0) (fun r5 σ5 =>
post r5 σ5)) ∧ (¬ (σ.1 6 2) = 0 →
post ((-10) - (σ.1 19 2)) (tp_set σ 19 1 0))))) : tp_E 0 28 [.ref 6, .int a1, .int a2, .null] [] σ post := tp_E_step (And.intro (fun c3 => Exists.intro _ (And.intro (tp_wk_rf _) (tp_E_step (And.intro (fun c5 => tp_Em ((h.1 c3).1 c5) (fun r4 σ4 h4 => Exists.intro _ (And.intro (tp_wk_rf _) (tp_E_step (And.intro rfl h4))))) (fun c5 => Exists.intro _ (And.intro (tp_wk_rf _) (tp_E_step (Exists.intro _ (And.intro (tp_wk_rf _) (tp_E_step (And.intro rfl ((h.1 c3).2 c5)))))))))))) (fun c3 => And.intro (fun c6 => And.intro (fun c7 => tp_Em (((h.2 c3).1 c6).1 c7) (fun r1 σ1 h1 => tp_Em h1 (fun r2 σ2 h2 => And.intro (fun c8 => Exists.intro _ (And.intro (tp_wk_rf _) (tp_E_step (Exists.intro [.ref 6, .int 1, .int (a2 + 1), .null] (And.intro (And.intro (Or.inr rfl) (And.intro (Or.inr rfl) (And.intro (Or.inr rfl) (And.intro (Or.inl rfl) (trivial))))) (h2.1 c8)))))) (fun c8 => Exists.intro _ (And.intro (tp_wk_rf _) (tp_E_step (Exists.intro _ (And.intro (tp_wk_rf _) (tp_E_step (Exists.intro [.ref 6, .int 0, .int (a2 + 1), .null] (And.intro (And.intro (Or.inr rfl) (And.intro (Or.inr rfl) (And.intro (Or.inr rfl) (And.intro (Or.inl rfl) (trivial))))) (h2.2 c8)))))))))))) (fun c7 => Exists.intro _ (And.intro (tp_wk_rf _) (tp_E_step (And.intro (fun c10 => tp_Em ((((h.2 c3).1 c6).2 c7).1 c10) (fun r9 σ9 h9 => Exists.intro _ (And.intro (tp_wk_rf _) (tp_E_step (And.intro rfl h9))))) (fun c10 => Exists.intro _ (And.intro (tp_wk_rf _) (tp_E_step (Exists.intro _ (And.intro (tp_wk_rf _) (tp_E_step (And.intro rfl ((((h.2 c3).1 c6).2 c7).2 c10))))))))))))) (fun c6 => Exists.intro _ (And.intro (tp_wk_rf _) (tp_E_step (And.intro (fun c12 => tp_Em (((h.2 c3).2 c6).1 c12) (fun r11 σ11 h11 => Exists.intro _ (And.intro (tp_wk_rf _) (tp_E_step (And.intro rfl h11))))) (fun c12 => Exists.intro _ (And.intro (tp_wk_rf _) (tp_E_step (Exists.intro _ (And.intro (tp_wk_rf _) (tp_E_step (And.intro rfl (((h.2 c3).2 c6).2 c12))))))))))))))
/-- X0_tellDraft ()I, 0 -/
theorem sg_1_0 {post : Int32 → tp_St → Prop} {σ : tp_St}   (h : (σ.2.1 = 24 ∨ σ.2.1 = 25) ∧ (σ.2.1 = 24 →
(σ.2.2 = 24 ∨ σ.2.2 = 25) ∧ (σ.2.2 = 24 →
tp_E 7 0 [.ref 24] [] ((σ.1, (24, σ.2.2)).1, ((σ.1, (24, σ.2.2)).2.1, 24)) (fun r1 σ1 =>
post r1 σ1)) ∧ (σ.2.2 = 25 →
tp_E 7 0 [.ref 25] [] ((σ.1, (25, σ.2.2)).1, ((σ.1, (25, σ.2.2)).2.1, 24)) (fun r4 σ4 =>
post r4 σ4))) ∧ (σ.2.1 = 25 →
(σ.2.2 = 24 ∨ σ.2.2 = 25) ∧ (σ.2.2 = 24 →
tp_E 7 0 [.ref 24] [] ((σ.1, (24, σ.2.2)).1, ((σ.1, (24, σ.2.2)).2.1, 25)) (fun r5 σ5 =>
post r5 σ5)) ∧ (σ.2.2 = 25 →
tp_E 7 0 [.ref 25] [] ((σ.1, (25, σ.2.2)).1, ((σ.1, (25, σ.2.2)).2.1, 25)) (fun r8 σ8 =>
post r8 σ8)))) : tp_E 1 0 [.ref 6, .null] [] σ post := tp_E_step (And.intro h.1 (And.intro (fun c9 => And.intro (h.2.1 c9).1 (And.intro (fun c10 => And.intro (Or.inl rfl) (And.intro (fun _ => tp_Em ((h.2.1 c9).2.1 c10) (fun r1 σ1 h1 => And.intro rfl h1)) (fun hc => absurd hc (show ¬ 24 = 25 from by decide)))) (fun c10 => And.intro (Or.inr rfl) (And.intro (fun hc => absurd hc (show ¬ 25 = 24 from by decide)) (fun _ => tp_Em ((h.2.1 c9).2.2 c10) (fun r4 σ4 h4 => And.intro rfl h4)))))) (fun c9 => And.intro (h.2.2 c9).1 (And.intro (fun c13 => And.intro (Or.inl rfl) (And.intro (fun _ => tp_Em ((h.2.2 c9).2.1 c13) (fun r5 σ5 h5 => And.intro rfl h5)) (fun hc => absurd hc (show ¬ 24 = 25 from by decide)))) (fun c13 => And.intro (Or.inr rfl) (And.intro (fun hc => absurd hc (show ¬ 25 = 24 from by decide)) (fun _ => tp_Em ((h.2.2 c9).2.2 c13) (fun r8 σ8 h8 => And.intro rfl h8))))))))
/-- X0_take (I)I, 0 -/
theorem sg_2_0 {post : Int32 → tp_St → Prop} {σ : tp_St} (a1 : Int32)  (h : (a1 = 0 →
post 1 σ) ∧ (¬ a1 = 0 →
((σ.1 6 5) = (-1) →
tp_E 3 0 [.ref 6, .int a1] [] σ (fun r1 σ1 =>
post r1 σ1)) ∧ (¬ (σ.1 6 5) = (-1) →
vp_in (σ.1 6 5) 3 ∧
((σ.1 6 6) < (σ.1 91 ((σ.1 6 5)).toNatClampNeg) →
(a1 = 3 →
tp_E 4 0 [.ref 6, .int (σ.1 19 3), .null] [] σ (fun r3 σ3 =>
post r3 σ3)) ∧ (¬ a1 = 3 →
post 2 σ)) ∧ (¬ (σ.1 6 6) < (σ.1 91 ((σ.1 6 5)).toNatClampNeg) →
tp_E 5 0 [.ref 6, .int a1] [] σ (fun r2 σ2 =>
post r2 σ2))))) : tp_E 2 0 [.ref 6, .int a1] [] σ post := tp_E_step (And.intro (fun c1 => And.intro rfl (h.1 c1)) (fun c1 => Exists.intro _ (And.intro (tp_wk_rf _) (tp_E_step (And.intro (fun c3 => tp_Em ((h.2 c1).1 c3) (fun r2 σ2 h2 => And.intro rfl h2)) (fun c3 => Exists.intro _ (And.intro (tp_wk_rf _) (tp_E_step (And.intro ((h.2 c1).2 c3).1 (And.intro (fun c5 => Exists.intro _ (And.intro (tp_wk_rf _) (tp_E_step (And.intro (fun c7 => tp_Em ((((h.2 c1).2 c3).2.1 c5).1 c7) (fun r6 σ6 h6 => Exists.intro _ (And.intro (tp_wk_rf _) (tp_E_step (And.intro rfl h6))))) (fun c7 => Exists.intro _ (And.intro (tp_wk_rf _) (tp_E_step (Exists.intro _ (And.intro (tp_wk_rf _) (tp_E_step (And.intro rfl ((((h.2 c1).2 c3).2.1 c5).2 c7)))))))))))) (fun c5 => tp_Em (((h.2 c1).2 c3).2.2 c5) (fun r4 σ4 h4 => And.intro rfl h4))))))))))))
/-- X0_beginLaw (I)I, 0 -/
theorem sg_3_0 {post : Int32 → tp_St → Prop} {σ : tp_St} (a1 : Int32)  (h : (a1 = 1 →
post 0 σ) ∧ (¬ a1 = 1 →
(a1 = 2 →
(σ.2.2 = 24 ∨ σ.2.2 = 25) ∧ (σ.2.2 = 24 →
tp_E 8 0 [.ref 24, .int (σ.1 19 3)] [] (tp_set (tp_set σ 6 5 (σ.1 19 3)) 6 6 0) (fun r1 σ1 =>
(r1 = 0 →
post 5 σ1) ∧ (¬ r1 = 0 →
post 0 σ1))) ∧ (σ.2.2 = 25 →
tp_E 8 0 [.ref 25, .int (σ.1 19 3)] [] (tp_set (tp_set σ 6 5 (σ.1 19 3)) 6 6 0) (fun r2 σ2 =>
(r2 = 0 →
post 5 σ2) ∧ (¬ r2 = 0 →
post 0 σ2)))) ∧ (¬ a1 = 2 →
post 2 σ))) : tp_E 3 0 [.ref 6, .int a1] [] σ post := tp_E_step (And.intro (fun c1 => And.intro rfl (h.1 c1)) (fun c1 => Exists.intro _ (And.intro (tp_wk_rf _) (tp_E_step (And.intro (fun c2 => Exists.intro _ (And.intro (tp_wk_rf _) (tp_E_step (And.intro ((h.2 c1).1 c2).1 (And.intro (fun c5 => tp_Em (((h.2 c1).1 c2).2.1 c5) (fun r3 σ3 h3 => And.intro (fun c6 => Exists.intro _ (And.intro (tp_wk_rf _) (tp_E_step (Exists.intro _ (And.intro (tp_wk_rf _) (tp_E_step (And.intro rfl (h3.1 c6)))))))) (fun c6 => Exists.intro _ (And.intro (tp_wk_rf _) (tp_E_step (And.intro rfl (h3.2 c6))))))) (fun c5 => tp_Em (((h.2 c1).1 c2).2.2 c5) (fun r4 σ4 h4 => And.intro (fun c7 => Exists.intro _ (And.intro (tp_wk_rf _) (tp_E_step (Exists.intro _ (And.intro (tp_wk_rf _) (tp_E_step (And.intro rfl (h4.1 c7)))))))) (fun c7 => Exists.intro _ (And.intro (tp_wk_rf _) (tp_E_step (And.intro rfl (h4.2 c7)))))))))))) (fun c2 => And.intro rfl ((h.2 c1).2 c2)))))))
/-- X0_takeNumber (I)I, 0 -/
theorem sg_4_0 {post : Int32 → tp_St → Prop} {σ : tp_St} (a1 : Int32)  (h : vp_in (((σ.1 6 5) * 3) + (σ.1 6 6)) 9 ∧
vp_in (((σ.1 6 5) * 3) + (σ.1 6 6)) 9 ∧
tp_E 91 0 [.int a1, .int (σ.1 92 ((((σ.1 6 5) * 3) + (σ.1 6 6))).toNatClampNeg), .int (σ.1 93 ((((σ.1 6 5) * 3) + (σ.1 6 6))).toNatClampNeg)] [] σ (fun r1 σ1 =>
(r1 = 0 →
((σ1.1 6 5) = 1 →
((σ1.1 6 6) = 1 →
((σ1.1 26 0) < a1 →
((σ1.1 6 5) = 0 →
(σ1.2.2 = 24 ∨ σ1.2.2 = 25) ∧ (σ1.2.2 = 24 →
tp_E 10 0 [.ref 24, .int (σ1.1 6 6)] [] σ1 (fun r2 σ2 =>
(r2 < a1 →
vp_in (σ2.1 6 6) 3 ∧
post 0 (tp_set (tp_set σ2 26 ((σ2.1 6 6)).toNatClampNeg a1) 6 6 ((σ2.1 6 6) + 1))) ∧ (¬ r2 < a1 →
post 4 σ2))) ∧ (σ1.2.2 = 25 →
tp_E 10 0 [.ref 25, .int (σ1.1 6 6)] [] σ1 (fun r3 σ3 =>
(r3 < a1 →
vp_in (σ3.1 6 6) 3 ∧
post 0 (tp_set (tp_set σ3 26 ((σ3.1 6 6)).toNatClampNeg a1) 6 6 ((σ3.1 6 6) + 1))) ∧ (¬ r3 < a1 →
post 4 σ3)))) ∧ (¬ (σ1.1 6 5) = 0 →
vp_in (σ1.1 6 6) 3 ∧
post 0 (tp_set (tp_set σ1 26 ((σ1.1 6 6)).toNatClampNeg a1) 6 6 ((σ1.1 6 6) + 1)))) ∧ (¬ (σ1.1 26 0) < a1 →
post 3 σ1)) ∧ (¬ (σ1.1 6 6) = 1 →
((σ1.1 6 5) = 0 →
(σ1.2.2 = 24 ∨ σ1.2.2 = 25) ∧ (σ1.2.2 = 24 →
tp_E 10 0 [.ref 24, .int (σ1.1 6 6)] [] σ1 (fun r4 σ4 =>
(r4 < a1 →
vp_in (σ4.1 6 6) 3 ∧
post 0 (tp_set (tp_set σ4 26 ((σ4.1 6 6)).toNatClampNeg a1) 6 6 ((σ4.1 6 6) + 1))) ∧ (¬ r4 < a1 →
post 4 σ4))) ∧ (σ1.2.2 = 25 →
tp_E 10 0 [.ref 25, .int (σ1.1 6 6)] [] σ1 (fun r5 σ5 =>
(r5 < a1 →
vp_in (σ5.1 6 6) 3 ∧
post 0 (tp_set (tp_set σ5 26 ((σ5.1 6 6)).toNatClampNeg a1) 6 6 ((σ5.1 6 6) + 1))) ∧ (¬ r5 < a1 →
post 4 σ5)))) ∧ (¬ (σ1.1 6 5) = 0 →
vp_in (σ1.1 6 6) 3 ∧
post 0 (tp_set (tp_set σ1 26 ((σ1.1 6 6)).toNatClampNeg a1) 6 6 ((σ1.1 6 6) + 1))))) ∧ (¬ (σ1.1 6 5) = 1 →
((σ1.1 6 5) = 0 →
(σ1.2.2 = 24 ∨ σ1.2.2 = 25) ∧ (σ1.2.2 = 24 →
tp_E 10 0 [.ref 24, .int (σ1.1 6 6)] [] σ1 (fun r6 σ6 =>
(r6 < a1 →
vp_in (σ6.1 6 6) 3 ∧
post 0 (tp_set (tp_set σ6 26 ((σ6.1 6 6)).toNatClampNeg a1) 6 6 ((σ6.1 6 6) + 1))) ∧ (¬ r6 < a1 →
post 4 σ6))) ∧ (σ1.2.2 = 25 →
tp_E 10 0 [.ref 25, .int (σ1.1 6 6)] [] σ1 (fun r7 σ7 =>
(r7 < a1 →
vp_in (σ7.1 6 6) 3 ∧
post 0 (tp_set (tp_set σ7 26 ((σ7.1 6 6)).toNatClampNeg a1) 6 6 ((σ7.1 6 6) + 1))) ∧ (¬ r7 < a1 →
post 4 σ7)))) ∧ (¬ (σ1.1 6 5) = 0 →
vp_in (σ1.1 6 6) 3 ∧
post 0 (tp_set (tp_set σ1 26 ((σ1.1 6 6)).toNatClampNeg a1) 6 6 ((σ1.1 6 6) + 1))))) ∧ (¬ r1 = 0 →
post 3 σ1))) : tp_E 4 0 [.ref 6, .int a1, .null] [] σ post := tp_E_step (And.intro h.1 (And.intro h.2.1 (tp_Em h.2.2 (fun r1 σ1 h1 => And.intro (fun c2 => Exists.intro _ (And.intro (tp_wk_rf _) (tp_E_step (And.intro (fun c3 => And.intro (fun c4 => And.intro (show ¬ ((0 : Int32) < 0 ∨ 3 ≤ (0 : Int32).toNatClampNeg) from by decide) (And.intro (fun c5 => Exists.intro _ (And.intro (tp_wk_rf _) (tp_E_step (And.intro (fun c8 => And.intro (((((h1.1 c2).1 c3).1 c4).1 c5).1 c8).1 (And.intro (fun c9 => tp_Em ((((((h1.1 c2).1 c3).1 c4).1 c5).1 c8).2.1 c9) (fun r6 σ6 h6 => And.intro (fun c10 => Exists.intro _ (And.intro (tp_wk_rf _) (tp_E_step (And.intro (h6.1 c10).1 (And.intro rfl (h6.1 c10).2))))) (fun c10 => And.intro rfl (h6.2 c10)))) (fun c9 => tp_Em ((((((h1.1 c2).1 c3).1 c4).1 c5).1 c8).2.2 c9) (fun r7 σ7 h7 => And.intro (fun c11 => Exists.intro _ (And.intro (tp_wk_rf _) (tp_E_step (And.intro (h7.1 c11).1 (And.intro rfl (h7.1 c11).2))))) (fun c11 => And.intro rfl (h7.2 c11)))))) (fun c8 => Exists.intro _ (And.intro (tp_wk_rf _) (tp_E_step (And.intro (((((h1.1 c2).1 c3).1 c4).1 c5).2 c8).1 (And.intro rfl (((((h1.1 c2).1 c3).1 c4).1 c5).2 c8).2))))))))) (fun c5 => And.intro rfl ((((h1.1 c2).1 c3).1 c4).2 c5)))) (fun c4 => Exists.intro _ (And.intro (tp_wk_rf _) (tp_E_step (And.intro (fun c14 => And.intro ((((h1.1 c2).1 c3).2 c4).1 c14).1 (And.intro (fun c15 => tp_Em (((((h1.1 c2).1 c3).2 c4).1 c14).2.1 c15) (fun r12 σ12 h12 => And.intro (fun c16 => Exists.intro _ (And.intro (tp_wk_rf _) (tp_E_step (And.intro (h12.1 c16).1 (And.intro rfl (h12.1 c16).2))))) (fun c16 => And.intro rfl (h12.2 c16)))) (fun c15 => tp_Em (((((h1.1 c2).1 c3).2 c4).1 c14).2.2 c15) (fun r13 σ13 h13 => And.intro (fun c17 => Exists.intro _ (And.intro (tp_wk_rf _) (tp_E_step (And.intro (h13.1 c17).1 (And.intro rfl (h13.1 c17).2))))) (fun c17 => And.intro rfl (h13.2 c17)))))) (fun c14 => Exists.intro _ (And.intro (tp_wk_rf _) (tp_E_step (And.intro ((((h1.1 c2).1 c3).2 c4).2 c14).1 (And.intro rfl ((((h1.1 c2).1 c3).2 c4).2 c14).2)))))))))) (fun c3 => Exists.intro _ (And.intro (tp_wk_rf _) (tp_E_step (And.intro (fun c20 => And.intro (((h1.1 c2).2 c3).1 c20).1 (And.intro (fun c21 => tp_Em ((((h1.1 c2).2 c3).1 c20).2.1 c21) (fun r18 σ18 h18 => And.intro (fun c22 => Exists.intro _ (And.intro (tp_wk_rf _) (tp_E_step (And.intro (h18.1 c22).1 (And.intro rfl (h18.1 c22).2))))) (fun c22 => And.intro rfl (h18.2 c22)))) (fun c21 => tp_Em ((((h1.1 c2).2 c3).1 c20).2.2 c21) (fun r19 σ19 h19 => And.intro (fun c23 => Exists.intro _ (And.intro (tp_wk_rf _) (tp_E_step (And.intro (h19.1 c23).1 (And.intro rfl (h19.1 c23).2))))) (fun c23 => And.intro rfl (h19.2 c23)))))) (fun c20 => Exists.intro _ (And.intro (tp_wk_rf _) (tp_E_step (And.intro (((h1.1 c2).2 c3).2 c20).1 (And.intro rfl (((h1.1 c2).2 c3).2 c20).2))))))))))))) (fun c2 => And.intro rfl (h1.2 c2))))))
/-- X0_endLaw (I)I, 0 -/
theorem sg_5_0 {post : Int32 → tp_St → Prop} {σ : tp_St} (a1 : Int32)  (h : (a1 = 4 →
(σ.2.2 = 24 ∨ σ.2.2 = 25) ∧ (σ.2.2 = 24 →
tp_E 9 0 [.ref 24, .int (σ.1 6 5), .int (σ.1 26 0), .int (σ.1 26 1), .int (σ.1 26 2)] [] σ (fun r1 σ1 =>
post 0 (tp_set σ1 6 5 (-1)))) ∧ (σ.2.2 = 25 →
tp_E 9 0 [.ref 25, .int (σ.1 6 5), .int (σ.1 26 0), .int (σ.1 26 1), .int (σ.1 26 2)] [] σ (fun r2 σ2 =>
post 0 (tp_set σ2 6 5 (-1))))) ∧ (¬ a1 = 4 →
post 2 σ)) : tp_E 5 0 [.ref 6, .int a1] [] σ post := tp_E_step (And.intro (fun c1 => Exists.intro _ (And.intro (tp_wk_rf _) (tp_E_step (And.intro (h.1 c1).1 (And.intro (fun c4 => And.intro (show ¬ ((0 : Int32) < 0 ∨ 3 ≤ (0 : Int32).toNatClampNeg) from by decide) (And.intro (show ¬ ((1 : Int32) < 0 ∨ 3 ≤ (1 : Int32).toNatClampNeg) from by decide) (And.intro (show ¬ ((2 : Int32) < 0 ∨ 3 ≤ (2 : Int32).toNatClampNeg) from by decide) (tp_Em ((h.1 c1).2.1 c4) (fun r2 σ2 h2 => And.intro rfl h2))))) (fun c4 => And.intro (show ¬ ((0 : Int32) < 0 ∨ 3 ≤ (0 : Int32).toNatClampNeg) from by decide) (And.intro (show ¬ ((1 : Int32) < 0 ∨ 3 ≤ (1 : Int32).toNatClampNeg) from by decide) (And.intro (show ¬ ((2 : Int32) < 0 ∨ 3 ≤ (2 : Int32).toNatClampNeg) from by decide) (tp_Em ((h.1 c1).2.2 c4) (fun r3 σ3 h3 => And.intro rfl h3)))))))))) (fun c1 => And.intro rfl (h.2 c1)))
/-- X1_clear ()V, 0 -/
theorem sg_6_0 {post : Int32 → tp_St → Prop} {σ : tp_St} (q0 : Nat) (hq0 : q0 = 24 ∨ q0 = 25) (h : post 0 (tp_set (tp_set (tp_set σ q0 5 0) q0 6 0) q0 7 (-1))) : tp_E 6 0 [.ref q0] [] σ post := by
  rcases hq0 with rfl | rfl
  · exact tp_E_step (h)
  · exact tp_E_step (h)
/-- X1_howMany ()I, 0 -/
theorem sg_7_0 {post : Int32 → tp_St → Prop} {σ : tp_St} (q0 : Nat) (hq0 : q0 = 24 ∨ q0 = 25) (h : ((σ.1 q0 7) = (-1) →
post (((σ.1 q0 5) + (σ.1 q0 6)) + 0) σ) ∧ (¬ (σ.1 q0 7) = (-1) →
post (((σ.1 q0 5) + (σ.1 q0 6)) + 1) σ)) : tp_E 7 0 [.ref q0] [] σ post := by
  rcases hq0 with rfl | rfl
  · exact tp_E_step (And.intro (fun c1 => Exists.intro _ (And.intro (tp_wk_rf _) (tp_E_step (And.intro rfl (h.1 c1))))) (fun c1 => Exists.intro _ (And.intro (tp_wk_rf _) (tp_E_step (Exists.intro _ (And.intro (tp_wk_rf _) (tp_E_step (And.intro rfl (h.2 c1)))))))))
  · exact tp_E_step (And.intro (fun c1 => Exists.intro _ (And.intro (tp_wk_rf _) (tp_E_step (And.intro rfl (h.1 c1))))) (fun c1 => Exists.intro _ (And.intro (tp_wk_rf _) (tp_E_step (Exists.intro _ (And.intro (tp_wk_rf _) (tp_E_step (And.intro rfl (h.2 c1)))))))))
/-- X1_hasRoomFor (I)Z, 0 -/
theorem sg_8_0 {post : Int32 → tp_St → Prop} {σ : tp_St} (q0 : Nat) (a1 : Int32) (hq0 : q0 = 24 ∨ q0 = 25) (h : (a1.toInt = 0 →
(9 ≤ (σ.1 q0 5) →
post 0 σ) ∧ (¬ 9 ≤ (σ.1 q0 5) →
post 1 σ)) ∧ (¬ a1.toInt = 0 →
(a1.toInt = 1 →
(4 ≤ (σ.1 q0 6) →
post 0 σ) ∧ (¬ 4 ≤ (σ.1 q0 6) →
post 1 σ)) ∧ (¬ a1.toInt = 1 →
((σ.1 q0 7) = (-1) →
post 1 σ) ∧ (¬ (σ.1 q0 7) = (-1) →
post 0 σ)))) : tp_E 8 0 [.ref q0, .int a1] [] σ post := by
  rcases hq0 with rfl | rfl
  · exact tp_E_step (And.intro (fun c1 => Exists.intro _ (And.intro (tp_wk_rf _) (tp_E_step (And.intro (fun c2 => Exists.intro _ (And.intro (tp_wk_rf _) (tp_E_step (Exists.intro _ (And.intro (tp_wk_rf _) (tp_E_step (And.intro rfl ((h.1 c1).1 c2)))))))) (fun c2 => Exists.intro _ (And.intro (tp_wk_rf _) (tp_E_step (And.intro rfl ((h.1 c1).2 c2))))))))) (fun c1 => And.intro (fun c3 => Exists.intro _ (And.intro (tp_wk_rf _) (tp_E_step (And.intro (fun c4 => Exists.intro _ (And.intro (tp_wk_rf _) (tp_E_step (Exists.intro _ (And.intro (tp_wk_rf _) (tp_E_step (And.intro rfl (((h.2 c1).1 c3).1 c4)))))))) (fun c4 => Exists.intro _ (And.intro (tp_wk_rf _) (tp_E_step (And.intro rfl (((h.2 c1).1 c3).2 c4))))))))) (fun c3 => Exists.intro _ (And.intro (tp_wk_rf _) (tp_E_step (And.intro (fun c5 => Exists.intro _ (And.intro (tp_wk_rf _) (tp_E_step (And.intro rfl (((h.2 c1).2 c3).1 c5))))) (fun c5 => Exists.intro _ (And.intro (tp_wk_rf _) (tp_E_step (Exists.intro _ (And.intro (tp_wk_rf _) (tp_E_step (And.intro rfl (((h.2 c1).2 c3).2 c5))))))))))))))
  · exact tp_E_step (And.intro (fun c1 => Exists.intro _ (And.intro (tp_wk_rf _) (tp_E_step (And.intro (fun c2 => Exists.intro _ (And.intro (tp_wk_rf _) (tp_E_step (Exists.intro _ (And.intro (tp_wk_rf _) (tp_E_step (And.intro rfl ((h.1 c1).1 c2)))))))) (fun c2 => Exists.intro _ (And.intro (tp_wk_rf _) (tp_E_step (And.intro rfl ((h.1 c1).2 c2))))))))) (fun c1 => And.intro (fun c3 => Exists.intro _ (And.intro (tp_wk_rf _) (tp_E_step (And.intro (fun c4 => Exists.intro _ (And.intro (tp_wk_rf _) (tp_E_step (Exists.intro _ (And.intro (tp_wk_rf _) (tp_E_step (And.intro rfl (((h.2 c1).1 c3).1 c4)))))))) (fun c4 => Exists.intro _ (And.intro (tp_wk_rf _) (tp_E_step (And.intro rfl (((h.2 c1).1 c3).2 c4))))))))) (fun c3 => Exists.intro _ (And.intro (tp_wk_rf _) (tp_E_step (And.intro (fun c5 => Exists.intro _ (And.intro (tp_wk_rf _) (tp_E_step (And.intro rfl (((h.2 c1).2 c3).1 c5))))) (fun c5 => Exists.intro _ (And.intro (tp_wk_rf _) (tp_E_step (Exists.intro _ (And.intro (tp_wk_rf _) (tp_E_step (And.intro rfl (((h.2 c1).2 c3).2 c5))))))))))))))
/-- X1_add (IIII)V, 0 -/
theorem sg_9_0 {post : Int32 → tp_St → Prop} {σ : tp_St} (q0 : Nat) (a1 : Int32) (a2 : Int32) (a3 : Int32) (a4 : Int32) (hq0 : q0 = 24 ∨ q0 = 25) (h : tp_E 8 0 [.ref q0, .int a1] [] σ (fun r1 σ1 =>
(r1 = 0 →
post 0 σ1) ∧ (¬ r1 = 0 →
(a1.toInt = 0 →
vp_in (σ1.1 q0 5) 9 ∧
vp_in ((tp_set σ1 (tp_rr σ1 q0 0) ((σ1.1 q0 5)).toNatClampNeg a2).1 q0 5) 9 ∧
post 0 (tp_set (tp_set (tp_set σ1 (tp_rr σ1 q0 0) ((σ1.1 q0 5)).toNatClampNeg a2) (tp_rr (tp_set σ1 (tp_rr σ1 q0 0) ((σ1.1 q0 5)).toNatClampNeg a2) q0 1) (((tp_set σ1 (tp_rr σ1 q0 0) ((σ1.1 q0 5)).toNatClampNeg a2).1 q0 5)).toNatClampNeg a3) q0 5 (((tp_set (tp_set σ1 (tp_rr σ1 q0 0) ((σ1.1 q0 5)).toNatClampNeg a2) (tp_rr (tp_set σ1 (tp_rr σ1 q0 0) ((σ1.1 q0 5)).toNatClampNeg a2) q0 1) (((tp_set σ1 (tp_rr σ1 q0 0) ((σ1.1 q0 5)).toNatClampNeg a2).1 q0 5)).toNatClampNeg a3).1 q0 5) + 1))) ∧ (¬ a1.toInt = 0 →
(a1.toInt = 1 →
vp_in (σ1.1 q0 6) 4 ∧
vp_in ((tp_set σ1 (tp_rr σ1 q0 2) ((σ1.1 q0 6)).toNatClampNeg a2).1 q0 6) 4 ∧
vp_in ((tp_set (tp_set σ1 (tp_rr σ1 q0 2) ((σ1.1 q0 6)).toNatClampNeg a2) (tp_rr (tp_set σ1 (tp_rr σ1 q0 2) ((σ1.1 q0 6)).toNatClampNeg a2) q0 3) (((tp_set σ1 (tp_rr σ1 q0 2) ((σ1.1 q0 6)).toNatClampNeg a2).1 q0 6)).toNatClampNeg a3).1 q0 6) 4 ∧
post 0 (tp_set (tp_set (tp_set (tp_set σ1 (tp_rr σ1 q0 2) ((σ1.1 q0 6)).toNatClampNeg a2) (tp_rr (tp_set σ1 (tp_rr σ1 q0 2) ((σ1.1 q0 6)).toNatClampNeg a2) q0 3) (((tp_set σ1 (tp_rr σ1 q0 2) ((σ1.1 q0 6)).toNatClampNeg a2).1 q0 6)).toNatClampNeg a3) (tp_rr (tp_set (tp_set σ1 (tp_rr σ1 q0 2) ((σ1.1 q0 6)).toNatClampNeg a2) (tp_rr (tp_set σ1 (tp_rr σ1 q0 2) ((σ1.1 q0 6)).toNatClampNeg a2) q0 3) (((tp_set σ1 (tp_rr σ1 q0 2) ((σ1.1 q0 6)).toNatClampNeg a2).1 q0 6)).toNatClampNeg a3) q0 4) (((tp_set (tp_set σ1 (tp_rr σ1 q0 2) ((σ1.1 q0 6)).toNatClampNeg a2) (tp_rr (tp_set σ1 (tp_rr σ1 q0 2) ((σ1.1 q0 6)).toNatClampNeg a2) q0 3) (((tp_set σ1 (tp_rr σ1 q0 2) ((σ1.1 q0 6)).toNatClampNeg a2).1 q0 6)).toNatClampNeg a3).1 q0 6)).toNatClampNeg a4) q0 6 (((tp_set (tp_set (tp_set σ1 (tp_rr σ1 q0 2) ((σ1.1 q0 6)).toNatClampNeg a2) (tp_rr (tp_set σ1 (tp_rr σ1 q0 2) ((σ1.1 q0 6)).toNatClampNeg a2) q0 3) (((tp_set σ1 (tp_rr σ1 q0 2) ((σ1.1 q0 6)).toNatClampNeg a2).1 q0 6)).toNatClampNeg a3) (tp_rr (tp_set (tp_set σ1 (tp_rr σ1 q0 2) ((σ1.1 q0 6)).toNatClampNeg a2) (tp_rr (tp_set σ1 (tp_rr σ1 q0 2) ((σ1.1 q0 6)).toNatClampNeg a2) q0 3) (((tp_set σ1 (tp_rr σ1 q0 2) ((σ1.1 q0 6)).toNatClampNeg a2).1 q0 6)).toNatClampNeg a3) q0 4) (((tp_set (tp_set σ1 (tp_rr σ1 q0 2) ((σ1.1 q0 6)).toNatClampNeg a2) (tp_rr (tp_set σ1 (tp_rr σ1 q0 2) ((σ1.1 q0 6)).toNatClampNeg a2) q0 3) (((tp_set σ1 (tp_rr σ1 q0 2) ((σ1.1 q0 6)).toNatClampNeg a2).1 q0 6)).toNatClampNeg a3).1 q0 6)).toNatClampNeg a4).1 q0 6) + 1))) ∧ (¬ a1.toInt = 1 →
post 0 (tp_set σ1 q0 7 a2)))))) : tp_E 9 0 [.ref q0, .int a1, .int a2, .int a3, .int a4] [] σ post := by
  rcases hq0 with rfl | rfl
  · exact tp_E_step (tp_Em h (fun r1 σ1 h1 => And.intro (fun c2 => (h1.1 c2)) (fun c2 => Exists.intro _ (And.intro (tp_wk_rf _) (tp_E_step (And.intro (fun c3 => Exists.intro _ (And.intro (tp_wk_rf _) (tp_E_step (And.intro ((h1.2 c2).1 c3).1 (And.intro ((h1.2 c2).1 c3).2.1 (Exists.intro _ (And.intro (tp_wk_rf _) (tp_E_step (((h1.2 c2).1 c3).2.2))))))))) (fun c3 => And.intro (fun c4 => Exists.intro _ (And.intro (tp_wk_rf _) (tp_E_step (And.intro (((h1.2 c2).2 c3).1 c4).1 (And.intro (((h1.2 c2).2 c3).1 c4).2.1 (And.intro (((h1.2 c2).2 c3).1 c4).2.2.1 (Exists.intro _ (And.intro (tp_wk_rf _) (tp_E_step ((((h1.2 c2).2 c3).1 c4).2.2.2)))))))))) (fun c4 => Exists.intro _ (And.intro (tp_wk_rf _) (tp_E_step (Exists.intro _ (And.intro (tp_wk_rf _) (tp_E_step ((((h1.2 c2).2 c3).2 c4)))))))))))))))
  · exact tp_E_step (tp_Em h (fun r1 σ1 h1 => And.intro (fun c2 => (h1.1 c2)) (fun c2 => Exists.intro _ (And.intro (tp_wk_rf _) (tp_E_step (And.intro (fun c3 => Exists.intro _ (And.intro (tp_wk_rf _) (tp_E_step (And.intro ((h1.2 c2).1 c3).1 (And.intro ((h1.2 c2).1 c3).2.1 (Exists.intro _ (And.intro (tp_wk_rf _) (tp_E_step (((h1.2 c2).1 c3).2.2))))))))) (fun c3 => And.intro (fun c4 => Exists.intro _ (And.intro (tp_wk_rf _) (tp_E_step (And.intro (((h1.2 c2).2 c3).1 c4).1 (And.intro (((h1.2 c2).2 c3).1 c4).2.1 (And.intro (((h1.2 c2).2 c3).1 c4).2.2.1 (Exists.intro _ (And.intro (tp_wk_rf _) (tp_E_step ((((h1.2 c2).2 c3).1 c4).2.2.2)))))))))) (fun c4 => Exists.intro _ (And.intro (tp_wk_rf _) (tp_E_step (Exists.intro _ (And.intro (tp_wk_rf _) (tp_E_step ((((h1.2 c2).2 c3).2 c4)))))))))))))))
/-- X1_latestFare (I)I, 0 -/
theorem sg_10_0 {post : Int32 → tp_St → Prop} {σ : tp_St} (q0 : Nat) (a1 : Int32) (hq0 : q0 = 24 ∨ q0 = 25) (h : ((σ.1 q0 5) = 0 →
post 0 σ) ∧ (¬ (σ.1 q0 5) = 0 →
(a1 = 0 →
vp_in ((σ.1 q0 5) - 1) 9 ∧
post (σ.1 (tp_rr σ q0 0) (((σ.1 q0 5) - 1)).toNatClampNeg) σ) ∧ (¬ a1 = 0 →
vp_in ((σ.1 q0 5) - 1) 9 ∧
post (σ.1 (tp_rr σ q0 1) (((σ.1 q0 5) - 1)).toNatClampNeg) σ))) : tp_E 10 0 [.ref q0, .int a1] [] σ post := by
  rcases hq0 with rfl | rfl
  · exact tp_E_step (And.intro (fun c1 => And.intro rfl (h.1 c1)) (fun c1 => Exists.intro _ (And.intro (tp_wk_rf _) (tp_E_step (And.intro (fun c2 => And.intro ((h.2 c1).1 c2).1 (Exists.intro _ (And.intro (tp_wk_rf _) (tp_E_step (And.intro rfl ((h.2 c1).1 c2).2))))) (fun c2 => Exists.intro _ (And.intro (tp_wk_rf _) (tp_E_step (And.intro ((h.2 c1).2 c2).1 (Exists.intro _ (And.intro (tp_wk_rf _) (tp_E_step (And.intro rfl ((h.2 c1).2 c2).2)))))))))))))
  · exact tp_E_step (And.intro (fun c1 => And.intro rfl (h.1 c1)) (fun c1 => Exists.intro _ (And.intro (tp_wk_rf _) (tp_E_step (And.intro (fun c2 => And.intro ((h.2 c1).1 c2).1 (Exists.intro _ (And.intro (tp_wk_rf _) (tp_E_step (And.intro rfl ((h.2 c1).1 c2).2))))) (fun c2 => Exists.intro _ (And.intro (tp_wk_rf _) (tp_E_step (And.intro ((h.2 c1).2 c2).1 (Exists.intro _ (And.intro (tp_wk_rf _) (tp_E_step (And.intro rfl ((h.2 c1).2 c2).2)))))))))))))
/-- X1_priceFor (II)I, 0 -/
theorem sg_11_0 {post : Int32 → tp_St → Prop} {σ : tp_St} (q0 : Nat) (a1 : Int32) (a2 : Int32) (hq0 : q0 = 24 ∨ q0 = 25) (h : tp_E 11 2 [.ref q0, .int a1, .int a2, .int 0] [] σ post) : tp_E 11 0 [.ref q0, .int a1, .int a2, .null] [] σ post := by
  rcases hq0 with rfl | rfl
  · exact tp_E_step (Exists.intro [.ref 24, .int a1, .int a2, .int 0] (And.intro (And.intro (Or.inr rfl) (And.intro (Or.inr rfl) (And.intro (Or.inr rfl) (And.intro (Or.inr rfl) (trivial))))) h))
  · exact tp_E_step (Exists.intro [.ref 25, .int a1, .int a2, .int 0] (And.intro (And.intro (Or.inr rfl) (And.intro (Or.inr rfl) (And.intro (Or.inr rfl) (And.intro (Or.inr rfl) (trivial))))) h))
/-- X1_priceFor (II)I, 2 -/
theorem sg_11_2 {post : Int32 → tp_St → Prop} {σ : tp_St} (q0 : Nat) (a1 : Int32) (a2 : Int32) (a3 : Int32) (hq0 : q0 = 24 ∨ q0 = 25) (h : ((σ.1 q0 5) ≤ a3 →
post (-4) σ) ∧ (¬ (σ.1 q0 5) ≤ a3 →
vp_in a3 9 ∧
((σ.1 (tp_rr σ q0 0) (a3).toNatClampNeg) < a1 →
tp_E 11 2 [.ref q0, .int a1, .int a2, .int (a3 + 1)] [] σ post) ∧ (¬ (σ.1 (tp_rr σ q0 0) (a3).toNatClampNeg) < a1 →
vp_in a3 9 ∧
tp_E 12 0 [.ref q0, .int a2, .null] [] σ (fun r1 σ1 =>
post ((((σ.1 (tp_rr σ q0 1) (a3).toNatClampNeg) * r1) + 99) / 100) σ1)))) : tp_E 11 2 [.ref q0, .int a1, .int a2, .int a3] [] σ post := by
  rcases hq0 with rfl | rfl
  · exact tp_E_step (And.intro (fun c2 => Exists.intro _ (And.intro (tp_wk_rf _) (tp_E_step (And.intro rfl (h.1 c2))))) (fun c2 => And.intro (h.2 c2).1 (And.intro (fun c3 => Exists.intro _ (And.intro (tp_wk_rf _) (tp_E_step (Exists.intro [.ref 24, .int a1, .int a2, .int (a3 + 1)] (And.intro (And.intro (Or.inr rfl) (And.intro (Or.inr rfl) (And.intro (Or.inr rfl) (And.intro (Or.inr rfl) (trivial))))) ((h.2 c2).2.1 c3)))))) (fun c3 => And.intro ((h.2 c2).2.2 c3).1 (tp_Em ((h.2 c2).2.2 c3).2 (fun r1 σ1 h1 => And.intro (by decide) (And.intro rfl h1)))))))
  · exact tp_E_step (And.intro (fun c2 => Exists.intro _ (And.intro (tp_wk_rf _) (tp_E_step (And.intro rfl (h.1 c2))))) (fun c2 => And.intro (h.2 c2).1 (And.intro (fun c3 => Exists.intro _ (And.intro (tp_wk_rf _) (tp_E_step (Exists.intro [.ref 25, .int a1, .int a2, .int (a3 + 1)] (And.intro (And.intro (Or.inr rfl) (And.intro (Or.inr rfl) (And.intro (Or.inr rfl) (And.intro (Or.inr rfl) (trivial))))) ((h.2 c2).2.1 c3)))))) (fun c3 => And.intro ((h.2 c2).2.2 c3).1 (tp_Em ((h.2 c2).2.2 c3).2 (fun r1 σ1 h1 => And.intro (by decide) (And.intro rfl h1)))))))
/-- X1_shareAt (I)I, 0 -/
theorem sg_12_0 {post : Int32 → tp_St → Prop} {σ : tp_St} (q0 : Nat) (a1 : Int32) (hq0 : q0 = 24 ∨ q0 = 25) (h : tp_E 12 2 [.ref q0, .int a1, .int 0] [] σ post) : tp_E 12 0 [.ref q0, .int a1, .null] [] σ post := by
  rcases hq0 with rfl | rfl
  · exact tp_E_step (Exists.intro [.ref 24, .int a1, .int 0] (And.intro (And.intro (Or.inr rfl) (And.intro (Or.inr rfl) (And.intro (Or.inr rfl) (trivial)))) h))
  · exact tp_E_step (Exists.intro [.ref 25, .int a1, .int 0] (And.intro (And.intro (Or.inr rfl) (And.intro (Or.inr rfl) (And.intro (Or.inr rfl) (trivial)))) h))
/-- X1_shareAt (I)I, 2 -/
theorem sg_12_2 {post : Int32 → tp_St → Prop} {σ : tp_St} (q0 : Nat) (a1 : Int32) (a2 : Int32) (hq0 : q0 = 24 ∨ q0 = 25) (h : ((σ.1 q0 6) ≤ a2 →
post 100 σ) ∧ (¬ (σ.1 q0 6) ≤ a2 →
vp_in a2 4 ∧
(a1 < (σ.1 (tp_rr σ q0 2) (a2).toNatClampNeg) →
tp_E 12 2 [.ref q0, .int a1, .int (a2 + 1)] [] σ post) ∧ (¬ a1 < (σ.1 (tp_rr σ q0 2) (a2).toNatClampNeg) →
vp_in a2 4 ∧
((σ.1 (tp_rr σ q0 3) (a2).toNatClampNeg) ≤ a1 →
tp_E 12 2 [.ref q0, .int a1, .int (a2 + 1)] [] σ post) ∧ (¬ (σ.1 (tp_rr σ q0 3) (a2).toNatClampNeg) ≤ a1 →
vp_in a2 4 ∧
post (σ.1 (tp_rr σ q0 4) (a2).toNatClampNeg) σ)))) : tp_E 12 2 [.ref q0, .int a1, .int a2] [] σ post := by
  rcases hq0 with rfl | rfl
  · exact tp_E_step (And.intro (fun c1 => Exists.intro _ (And.intro (tp_wk_rf _) (tp_E_step (And.intro rfl (h.1 c1))))) (fun c1 => And.intro (h.2 c1).1 (And.intro (fun c2 => Exists.intro _ (And.intro (tp_wk_rf _) (tp_E_step (Exists.intro [.ref 24, .int a1, .int (a2 + 1)] (And.intro (And.intro (Or.inr rfl) (And.intro (Or.inr rfl) (And.intro (Or.inr rfl) (trivial)))) ((h.2 c1).2.1 c2)))))) (fun c2 => And.intro ((h.2 c1).2.2 c2).1 (And.intro (fun c3 => Exists.intro _ (And.intro (tp_wk_rf _) (tp_E_step (Exists.intro [.ref 24, .int a1, .int (a2 + 1)] (And.intro (And.intro (Or.inr rfl) (And.intro (Or.inr rfl) (And.intro (Or.inr rfl) (trivial)))) (((h.2 c1).2.2 c2).2.1 c3)))))) (fun c3 => And.intro (((h.2 c1).2.2 c2).2.2 c3).1 (And.intro rfl (((h.2 c1).2.2 c2).2.2 c3).2)))))))
  · exact tp_E_step (And.intro (fun c1 => Exists.intro _ (And.intro (tp_wk_rf _) (tp_E_step (And.intro rfl (h.1 c1))))) (fun c1 => And.intro (h.2 c1).1 (And.intro (fun c2 => Exists.intro _ (And.intro (tp_wk_rf _) (tp_E_step (Exists.intro [.ref 25, .int a1, .int (a2 + 1)] (And.intro (And.intro (Or.inr rfl) (And.intro (Or.inr rfl) (And.intro (Or.inr rfl) (trivial)))) ((h.2 c1).2.1 c2)))))) (fun c2 => And.intro ((h.2 c1).2.2 c2).1 (And.intro (fun c3 => Exists.intro _ (And.intro (tp_wk_rf _) (tp_E_step (Exists.intro [.ref 25, .int a1, .int (a2 + 1)] (And.intro (And.intro (Or.inr rfl) (And.intro (Or.inr rfl) (And.intro (Or.inr rfl) (trivial)))) (((h.2 c1).2.2 c2).2.1 c3)))))) (fun c3 => And.intro (((h.2 c1).2.2 c2).2.2 c3).1 (And.intro rfl (((h.2 c1).2.2 c2).2.2 c3).2)))))))
/-- X1_isChangeGood (I)Z, 0 -/
theorem sg_13_0 {post : Int32 → tp_St → Prop} {σ : tp_St} (q0 : Nat) (a1 : Int32) (hq0 : q0 = 24 ∨ q0 = 25) (h : ((σ.1 q0 7) = (-1) →
post 0 σ) ∧ (¬ (σ.1 q0 7) = (-1) →
((σ.1 q0 7) < a1 →
post 0 σ) ∧ (¬ (σ.1 q0 7) < a1 →
post 1 σ))) : tp_E 13 0 [.ref q0, .int a1] [] σ post := by
  rcases hq0 with rfl | rfl
  · exact tp_E_step (And.intro (fun c1 => Exists.intro _ (And.intro (tp_wk_rf _) (tp_E_step (Exists.intro _ (And.intro (tp_wk_rf _) (tp_E_step (And.intro rfl (h.1 c1)))))))) (fun c1 => And.intro (fun c2 => Exists.intro _ (And.intro (tp_wk_rf _) (tp_E_step (Exists.intro _ (And.intro (tp_wk_rf _) (tp_E_step (And.intro rfl ((h.2 c1).1 c2)))))))) (fun c2 => Exists.intro _ (And.intro (tp_wk_rf _) (tp_E_step (And.intro rfl ((h.2 c1).2 c2)))))))
  · exact tp_E_step (And.intro (fun c1 => Exists.intro _ (And.intro (tp_wk_rf _) (tp_E_step (Exists.intro _ (And.intro (tp_wk_rf _) (tp_E_step (And.intro rfl (h.1 c1)))))))) (fun c1 => And.intro (fun c2 => Exists.intro _ (And.intro (tp_wk_rf _) (tp_E_step (Exists.intro _ (And.intro (tp_wk_rf _) (tp_E_step (And.intro rfl ((h.2 c1).1 c2)))))))) (fun c2 => Exists.intro _ (And.intro (tp_wk_rf _) (tp_E_step (And.intro rfl ((h.2 c1).2 c2)))))))
/-- X2_size (II)I, 0 -/
theorem sg_14_0 {post : Int32 → tp_St → Prop} {σ : tp_St} (a1 : Int32) (a2 : Int32)  (h : vp_in a1 6 ∧
vp_in a2 5 ∧
vp_in a1 6 ∧
vp_in a2 5 ∧
post ((σ.1 (52 + (a1).toNatClampNeg) (a2).toNatClampNeg) - (σ.1 (46 + (a1).toNatClampNeg) (a2).toNatClampNeg)) σ) : tp_E 14 0 [.ref 2, .int a1, .int a2] [] σ post := tp_E_step (And.intro h.1 (tp_rw (tp_rk52 h.1) (And.intro h.2.1 (And.intro h.2.2.1 (tp_rw (tp_rk46 h.2.2.1) (And.intro h.2.2.2.1 (And.intro rfl h.2.2.2.2)))))))
/-- X2_replace (IIII)V, 0 -/
theorem sg_15_0 {post : Int32 → tp_St → Prop} {σ : tp_St} (a1 : Int32) (a2 : Int32) (a3 : Int32) (a4 : Int32)  (h : vp_in a1 6 ∧
vp_in a2 5 ∧
vp_in a1 6 ∧
vp_in a2 5 ∧
post 0 (tp_set (tp_set σ (46 + (a1).toNatClampNeg) (a2).toNatClampNeg a3) (52 + (a1).toNatClampNeg) (a2).toNatClampNeg a4)) : tp_E 15 0 [.ref 2, .int a1, .int a2, .int a3, .int a4] [] σ post := tp_E_step (And.intro h.1 (tp_rs (tp_rk46 h.1) (And.intro h.2.1 (And.intro h.2.2.1 (tp_rs (tp_rk52 h.2.2.1) (And.intro h.2.2.2.1 (h.2.2.2.2)))))))
/-- X2_takeNext (II)I, 0 -/
theorem sg_16_0 {post : Int32 → tp_St → Prop} {σ : tp_St} (a1 : Int32) (a2 : Int32)  (h : vp_in a1 6 ∧
vp_in a2 5 ∧
vp_in a2 5 ∧
post (σ.1 (46 + (a1).toNatClampNeg) (a2).toNatClampNeg) (tp_set σ (46 + (a1).toNatClampNeg) (a2).toNatClampNeg ((σ.1 (46 + (a1).toNatClampNeg) (a2).toNatClampNeg) + 1))) : tp_E 16 0 [.ref 2, .int a1, .int a2] [] σ post := tp_E_step (And.intro h.1 (tp_rw (tp_rk46 h.1) (And.intro h.2.1 (tp_rs (tp_rk46 h.1) (And.intro h.2.2.1 (And.intro rfl h.2.2.2))))))
/-- X2_anyWithOthers (IIII)Z, 0 -/
theorem sg_17_0 {post : Int32 → tp_St → Prop} {σ : tp_St} (a1 : Int32) (a2 : Int32) (a3 : Int32) (a4 : Int32)  (h : tp_E 17 3 [.ref 2, .int a1, .int a2, .int a3, .int a4, .int 0, .null] [] σ post) : tp_E 17 0 [.ref 2, .int a1, .int a2, .int a3, .int a4, .null, .null] [] σ post := tp_E_step (Exists.intro [.ref 2, .int a1, .int a2, .int a3, .int a4, .int 0, .null] (And.intro (And.intro (Or.inr rfl) (And.intro (Or.inr rfl) (And.intro (Or.inr rfl) (And.intro (Or.inr rfl) (And.intro (Or.inr rfl) (And.intro (Or.inr rfl) (And.intro (Or.inr rfl) (trivial)))))))) h))
/-- X2_anyWithOthers (IIII)Z, 3 -/
theorem sg_17_3 {post : Int32 → tp_St → Prop} {σ : tp_St} (a1 : Int32) (a2 : Int32) (a3 : Int32) (a4 : Int32) (a5 : Int32)  (h : (6 ≤ a5 →
post 0 σ) ∧ (¬ 6 ≤ a5 →
vp_in a5 6 ∧
vp_in a2 5 ∧
(a5 = a1 →
tp_E 17 3 [.ref 2, .int a1, .int a2, .int a3, .int a4, .int (a5 + 1), .null] [] σ post) ∧ (¬ a5 = a1 →
vp_in a5 6 ∧
vp_in a2 5 ∧
((if (σ.1 (52 + (a5).toNatClampNeg) (a2).toNatClampNeg) < a4 then (σ.1 (52 + (a5).toNatClampNeg) (a2).toNatClampNeg) else a4) ≤ (if a3 < (σ.1 (46 + (a5).toNatClampNeg) (a2).toNatClampNeg) then (σ.1 (46 + (a5).toNatClampNeg) (a2).toNatClampNeg) else a3) →
tp_E 17 3 [.ref 2, .int a1, .int a2, .int a3, .int a4, .int (a5 + 1), .null] [] σ post) ∧ (¬ (if (σ.1 (52 + (a5).toNatClampNeg) (a2).toNatClampNeg) < a4 then (σ.1 (52 + (a5).toNatClampNeg) (a2).toNatClampNeg) else a4) ≤ (if a3 < (σ.1 (46 + (a5).toNatClampNeg) (a2).toNatClampNeg) then (σ.1 (46 + (a5).toNatClampNeg) (a2).toNatClampNeg) else a3) →
post 1 σ)))) : tp_E 17 3 [.ref 2, .int a1, .int a2, .int a3, .int a4, .int a5, .null] [] σ post := tp_E_step (And.intro (fun c1 => Exists.intro _ (And.intro (tp_wk_rf _) (tp_E_step (And.intro rfl (h.1 c1))))) (fun c1 => And.intro (h.2 c1).1 (tp_rw (tp_rk46 (h.2 c1).1) (And.intro (h.2 c1).2.1 (And.intro (fun c2 => Exists.intro _ (And.intro (tp_wk_rf _) (tp_E_step (Exists.intro [.ref 2, .int a1, .int a2, .int a3, .int a4, .int (a5 + 1), .null] (And.intro (And.intro (Or.inr rfl) (And.intro (Or.inr rfl) (And.intro (Or.inr rfl) (And.intro (Or.inr rfl) (And.intro (Or.inr rfl) (And.intro (Or.inr rfl) (And.intro (Or.inl rfl) (trivial)))))))) ((h.2 c1).2.2.1 c2)))))) (fun c2 => And.intro ((h.2 c1).2.2.2 c2).1 (tp_rw (tp_rk52 ((h.2 c1).2.2.2 c2).1) (And.intro ((h.2 c1).2.2.2 c2).2.1 (And.intro (fun c3 => Exists.intro _ (And.intro (tp_wk_rf _) (tp_E_step (Exists.intro [.ref 2, .int a1, .int a2, .int a3, .int a4, .int (a5 + 1), .null] (And.intro (And.intro (Or.inr rfl) (And.intro (Or.inr rfl) (And.intro (Or.inr rfl) (And.intro (Or.inr rfl) (And.intro (Or.inr rfl) (And.intro (Or.inr rfl) (And.intro (Or.inl rfl) (trivial)))))))) (((h.2 c1).2.2.2 c2).2.2.1 c3)))))) (fun c3 => And.intro rfl (((h.2 c1).2.2.2 c2).2.2.2 c3)))))))))))
/-- X2_beyond (II)I, 0 -/
theorem sg_18_0 {post : Int32 → tp_St → Prop} {σ : tp_St} (a1 : Int32) (a2 : Int32)  (h : tp_E 18 5 [.ref 2, .int a1, .null, .int a2, .int 0] [] σ post) : tp_E 18 0 [.ref 2, .int a1, .int a2, .null, .null] [] σ post := tp_E_step (Exists.intro [.ref 2, .int a1, .null, .int a2, .int 0] (And.intro (And.intro (Or.inr rfl) (And.intro (Or.inr rfl) (And.intro (Or.inl rfl) (And.intro (Or.inr rfl) (And.intro (Or.inr rfl) (trivial)))))) h))
/-- X2_beyond (II)I, 5 -/
theorem sg_18_5 {post : Int32 → tp_St → Prop} {σ : tp_St} (a1 : Int32) (a3 : Int32) (a4 : Int32)  (h : (6 ≤ a4 →
post a3 σ) ∧ (¬ 6 ≤ a4 →
vp_in a4 6 ∧
vp_in a1 5 ∧
(a3 < (σ.1 (46 + (a4).toNatClampNeg) (a1).toNatClampNeg) →
tp_E 18 5 [.ref 2, .int a1, .null, .int a3, .int (a4 + 1)] [] σ post) ∧ (¬ a3 < (σ.1 (46 + (a4).toNatClampNeg) (a1).toNatClampNeg) →
vp_in a4 6 ∧
vp_in a1 5 ∧
((σ.1 (52 + (a4).toNatClampNeg) (a1).toNatClampNeg) ≤ a3 →
tp_E 18 5 [.ref 2, .int a1, .null, .int a3, .int (a4 + 1)] [] σ post) ∧ (¬ (σ.1 (52 + (a4).toNatClampNeg) (a1).toNatClampNeg) ≤ a3 →
vp_in a4 6 ∧
vp_in a1 5 ∧
tp_E 18 5 [.ref 2, .int a1, .null, .int (σ.1 (52 + (a4).toNatClampNeg) (a1).toNatClampNeg), .int (a4 + 1)] [] σ post)))) : tp_E 18 5 [.ref 2, .int a1, .null, .int a3, .int a4] [] σ post := tp_E_step (And.intro (fun c1 => Exists.intro _ (And.intro (tp_wk_rf _) (tp_E_step (And.intro rfl (h.1 c1))))) (fun c1 => And.intro (h.2 c1).1 (tp_rw (tp_rk46 (h.2 c1).1) (And.intro (h.2 c1).2.1 (And.intro (fun c2 => Exists.intro _ (And.intro (tp_wk_rf _) (tp_E_step (Exists.intro [.ref 2, .int a1, .null, .int a3, .int (a4 + 1)] (And.intro (And.intro (Or.inr rfl) (And.intro (Or.inr rfl) (And.intro (Or.inr rfl) (And.intro (Or.inr rfl) (And.intro (Or.inr rfl) (trivial)))))) ((h.2 c1).2.2.1 c2)))))) (fun c2 => And.intro ((h.2 c1).2.2.2 c2).1 (tp_rw (tp_rk52 ((h.2 c1).2.2.2 c2).1) (And.intro ((h.2 c1).2.2.2 c2).2.1 (And.intro (fun c3 => Exists.intro _ (And.intro (tp_wk_rf _) (tp_E_step (Exists.intro [.ref 2, .int a1, .null, .int a3, .int (a4 + 1)] (And.intro (And.intro (Or.inr rfl) (And.intro (Or.inr rfl) (And.intro (Or.inr rfl) (And.intro (Or.inr rfl) (And.intro (Or.inr rfl) (trivial)))))) (((h.2 c1).2.2.2 c2).2.2.1 c3)))))) (fun c3 => And.intro (((h.2 c1).2.2.2 c2).2.2.2 c3).1 (tp_rw (tp_rk52 (((h.2 c1).2.2.2 c2).2.2.2 c3).1) (And.intro (((h.2 c1).2.2.2 c2).2.2.2 c3).2.1 (Exists.intro _ (And.intro (tp_wk_rf _) (tp_E_step (Exists.intro [.ref 2, .int a1, .null, .int (σ.1 (52 + (a4).toNatClampNeg) (a1).toNatClampNeg), .int (a4 + 1)] (And.intro (And.intro (Or.inr rfl) (And.intro (Or.inr rfl) (And.intro (Or.inr rfl) (And.intro (Or.inr rfl) (And.intro (Or.inr rfl) (trivial)))))) (((h.2 c1).2.2.2 c2).2.2.2 c3).2.2)))))))))))))))))
/-- X3_add (II)I, 0 -/
theorem sg_19_0 {post : Int32 → tp_St → Prop} {σ : tp_St} (a1 : Int32) (a2 : Int32)  (h : ((σ.1 7 4) < 10 →
vp_in (σ.1 7 4) 10 ∧
vp_in (σ.1 7 4) 10 ∧
tp_E 21 0 [.ref 7, .null, .null] [] (tp_set (tp_set (tp_set σ 28 ((σ.1 7 4)).toNatClampNeg a1) 29 ((σ.1 7 4)).toNatClampNeg a2) 7 4 ((σ.1 7 4) + 1)) (fun r1 σ1 =>
post (σ.1 7 4) σ1)) ∧ (¬ (σ.1 7 4) < 10 →
post (-3) σ)) : tp_E 19 0 [.ref 7, .int a1, .int a2, .null] [] σ post := tp_E_step (And.intro (fun c1 => Exists.intro _ (And.intro (tp_wk_rf _) (tp_E_step (And.intro (h.1 c1).1 (And.intro (h.1 c1).2.1 (tp_Em (h.1 c1).2.2 (fun r2 σ2 h2 => And.intro rfl h2))))))) (fun c1 => And.intro rfl (h.2 c1)))
/-- X3_replaceRest (I)I, 0 -/
theorem sg_20_0 {post : Int32 → tp_St → Prop} {σ : tp_St} (a1 : Int32)  (h : tp_E 21 0 [.ref 7, .null, .null] [] (tp_set σ 7 6 a1) (fun r1 σ1 =>
post (σ.1 7 6) σ1)) : tp_E 20 0 [.ref 7, .int a1, .null] [] σ post := tp_E_step (tp_Em h (fun r1 σ1 h1 => And.intro rfl h1))
/-- X3_tellCrews ()V, 0 -/
theorem sg_21_0 {post : Int32 → tp_St → Prop} {σ : tp_St}   (h : tp_E 21 7 [.ref 7, .int 0, .null] [] (tp_set σ 7 5 0) post) : tp_E 21 0 [.ref 7, .null, .null] [] σ post := tp_E_step (Exists.intro [.ref 7, .int 0, .null] (And.intro (And.intro (Or.inr rfl) (And.intro (Or.inr rfl) (And.intro (Or.inr rfl) (trivial)))) h))
/-- X3_tellCrews ()V, 7 -/
theorem sg_21_7 {post : Int32 → tp_St → Prop} {σ : tp_St} (a1 : Int32)  (h : ((σ.1 7 4) ≤ a1 →
tp_E 21 30 [.ref 7, .int 0, .null] [] σ post) ∧ (¬ (σ.1 7 4) ≤ a1 →
vp_in a1 10 ∧
tp_E 21 7 [.ref 7, .int (a1 + 1), .null] [] (tp_set σ 31 (a1).toNatClampNeg (-1)) post)) : tp_E 21 7 [.ref 7, .int a1, .null] [] σ post := tp_E_step (And.intro (fun c1 => Exists.intro _ (And.intro (tp_wk_rf _) (tp_E_step (Exists.intro [.ref 7, .int 0, .null] (And.intro (And.intro (Or.inr rfl) (And.intro (Or.inr rfl) (And.intro (Or.inr rfl) (trivial)))) (h.1 c1)))))) (fun c1 => And.intro (h.2 c1).1 (Exists.intro [.ref 7, .int (a1 + 1), .null] (And.intro (And.intro (Or.inr rfl) (And.intro (Or.inr rfl) (And.intro (Or.inr rfl) (trivial)))) (h.2 c1).2))))
/-- X3_tellCrews ()V, 30 -/
theorem sg_21_30 {post : Int32 → tp_St → Prop} {σ : tp_St} (a1 : Int32)  (h : ((σ.1 7 4) ≤ a1 →
post 0 σ) ∧ (¬ (σ.1 7 4) ≤ a1 →
tp_E 22 0 [.ref 7, .null, .null] [] σ (fun r1 σ1 =>
(r1 < 0 →
tp_E 21 30 [.ref 7, .int (a1 + 1), .null] [] σ1 post) ∧ (¬ r1 < 0 →
tp_E 23 0 [.ref 7, .int r1, .null] [] σ1 (fun r2 σ2 =>
tp_E 21 30 [.ref 7, .int (a1 + 1), .null] [] σ2 post))))) : tp_E 21 30 [.ref 7, .int a1, .null] [] σ post := tp_E_step (And.intro (fun c3 => Exists.intro _ (And.intro (tp_wk_rf _) (tp_E_step ((h.1 c3))))) (fun c3 => tp_Em (h.2 c3) (fun r1 σ1 h1 => And.intro (fun c4 => Exists.intro _ (And.intro (tp_wk_rf _) (tp_E_step (Exists.intro [.ref 7, .int (a1 + 1), .null] (And.intro (And.intro (Or.inr rfl) (And.intro (Or.inr rfl) (And.intro (Or.inl rfl) (trivial)))) (h1.1 c4)))))) (fun c4 => tp_Em (h1.2 c4) (fun r2 σ2 h2 => Exists.intro _ (And.intro (tp_wk_rf _) (tp_E_step (Exists.intro [.ref 7, .int (a1 + 1), .null] (And.intro (And.intro (Or.inr rfl) (And.intro (Or.inr rfl) (And.intro (Or.inl rfl) (trivial)))) h2)))))))))
/-- X3_firstWithoutCrew ()I, 0 -/
theorem sg_22_0 {post : Int32 → tp_St → Prop} {σ : tp_St}   (h : tp_E 22 4 [.ref 7, .int (-1), .int 0] [] σ post) : tp_E 22 0 [.ref 7, .null, .null] [] σ post := tp_E_step (Exists.intro [.ref 7, .int (-1), .int 0] (And.intro (And.intro (Or.inr rfl) (And.intro (Or.inr rfl) (And.intro (Or.inr rfl) (trivial)))) h))
/-- X3_firstWithoutCrew ()I, 4 -/
theorem sg_22_4 {post : Int32 → tp_St → Prop} {σ : tp_St} (a1 : Int32) (a2 : Int32)  (h : ((σ.1 7 4) ≤ a2 →
post a1 σ) ∧ (¬ (σ.1 7 4) ≤ a2 →
vp_in a2 10 ∧
((σ.1 31 (a2).toNatClampNeg) = (-1) →
(a1 < 0 →
tp_E 22 4 [.ref 7, .int a2, .int (a2 + 1)] [] σ post) ∧ (¬ a1 < 0 →
vp_in a2 10 ∧
vp_in a1 10 ∧
((σ.1 28 (a1).toNatClampNeg) ≤ (σ.1 28 (a2).toNatClampNeg) →
tp_E 22 4 [.ref 7, .int a1, .int (a2 + 1)] [] σ post) ∧ (¬ (σ.1 28 (a1).toNatClampNeg) ≤ (σ.1 28 (a2).toNatClampNeg) →
tp_E 22 4 [.ref 7, .int a2, .int (a2 + 1)] [] σ post))) ∧ (¬ (σ.1 31 (a2).toNatClampNeg) = (-1) →
tp_E 22 4 [.ref 7, .int a1, .int (a2 + 1)] [] σ post))) : tp_E 22 4 [.ref 7, .int a1, .int a2] [] σ post := tp_E_step (And.intro (fun c1 => Exists.intro _ (And.intro (tp_wk_rf _) (tp_E_step (And.intro rfl (h.1 c1))))) (fun c1 => And.intro (h.2 c1).1 (And.intro (fun c2 => And.intro (fun c3 => Exists.intro _ (And.intro (tp_wk_rf _) (tp_E_step (Exists.intro _ (And.intro (tp_wk_rf _) (tp_E_step (Exists.intro [.ref 7, .int a2, .int (a2 + 1)] (And.intro (And.intro (Or.inr rfl) (And.intro (Or.inr rfl) (And.intro (Or.inr rfl) (trivial)))) (((h.2 c1).2.1 c2).1 c3))))))))) (fun c3 => And.intro (((h.2 c1).2.1 c2).2 c3).1 (And.intro (((h.2 c1).2.1 c2).2 c3).2.1 (And.intro (fun c4 => Exists.intro _ (And.intro (tp_wk_rf _) (tp_E_step (Exists.intro [.ref 7, .int a1, .int (a2 + 1)] (And.intro (And.intro (Or.inr rfl) (And.intro (Or.inr rfl) (And.intro (Or.inr rfl) (trivial)))) ((((h.2 c1).2.1 c2).2 c3).2.2.1 c4)))))) (fun c4 => Exists.intro _ (And.intro (tp_wk_rf _) (tp_E_step (Exists.intro _ (And.intro (tp_wk_rf _) (tp_E_step (Exists.intro [.ref 7, .int a2, .int (a2 + 1)] (And.intro (And.intro (Or.inr rfl) (And.intro (Or.inr rfl) (And.intro (Or.inr rfl) (trivial)))) ((((h.2 c1).2.1 c2).2 c3).2.2.2 c4))))))))))))) (fun c2 => Exists.intro _ (And.intro (tp_wk_rf _) (tp_E_step (Exists.intro [.ref 7, .int a1, .int (a2 + 1)] (And.intro (And.intro (Or.inr rfl) (And.intro (Or.inr rfl) (And.intro (Or.inr rfl) (trivial)))) ((h.2 c1).2.2 c2)))))))))
/-- X3_giveCrew (I)V, 0 -/
theorem sg_23_0 {post : Int32 → tp_St → Prop} {σ : tp_St} (a1 : Int32)  (h : tp_E 23 2 [.ref 7, .int a1, .int 0] [] σ post) : tp_E 23 0 [.ref 7, .int a1, .null] [] σ post := tp_E_step (Exists.intro [.ref 7, .int a1, .int 0] (And.intro (And.intro (Or.inr rfl) (And.intro (Or.inr rfl) (And.intro (Or.inr rfl) (trivial)))) h))
/-- X3_giveCrew (I)V, 2 -/
theorem sg_23_2 {post : Int32 → tp_St → Prop} {σ : tp_St} (a1 : Int32) (a2 : Int32)  (h : ((σ.1 7 5) ≤ a2 →
(a2 < 10 →
vp_in a1 10 ∧
vp_in a1 10 ∧
vp_in a2 10 ∧
post 0 (tp_set (tp_set (tp_set σ 31 (a1).toNatClampNeg a2) 30 (a2).toNatClampNeg ((σ.1 29 (a1).toNatClampNeg) + (σ.1 7 6))) 7 5 (if (σ.1 7 5) < (a2 + 1) then (a2 + 1) else (σ.1 7 5)))) ∧ (¬ a2 < 10 →
post 0 σ)) ∧ (¬ (σ.1 7 5) ≤ a2 →
vp_in a2 10 ∧
vp_in a1 10 ∧
((σ.1 30 (a2).toNatClampNeg) ≤ (σ.1 28 (a1).toNatClampNeg) →
(a2 < 10 →
vp_in a1 10 ∧
vp_in a1 10 ∧
vp_in a2 10 ∧
post 0 (tp_set (tp_set (tp_set σ 31 (a1).toNatClampNeg a2) 30 (a2).toNatClampNeg ((σ.1 29 (a1).toNatClampNeg) + (σ.1 7 6))) 7 5 (if (σ.1 7 5) < (a2 + 1) then (a2 + 1) else (σ.1 7 5)))) ∧ (¬ a2 < 10 →
post 0 σ)) ∧ (¬ (σ.1 30 (a2).toNatClampNeg) ≤ (σ.1 28 (a1).toNatClampNeg) →
tp_E 23 2 [.ref 7, .int a1, .int (a2 + 1)] [] σ post))) : tp_E 23 2 [.ref 7, .int a1, .int a2] [] σ post := tp_E_step (And.intro (fun c1 => Exists.intro _ (And.intro (tp_wk_rf _) (tp_E_step (And.intro (fun c2 => Exists.intro _ (And.intro (tp_wk_rf _) (tp_E_step (And.intro ((h.1 c1).1 c2).1 (And.intro ((h.1 c1).1 c2).2.1 (And.intro ((h.1 c1).1 c2).2.2.1 (((h.1 c1).1 c2).2.2.2))))))) (fun c2 => ((h.1 c1).2 c2)))))) (fun c1 => And.intro (h.2 c1).1 (And.intro (h.2 c1).2.1 (And.intro (fun c3 => Exists.intro _ (And.intro (tp_wk_rf _) (tp_E_step (And.intro (fun c4 => Exists.intro _ (And.intro (tp_wk_rf _) (tp_E_step (And.intro (((h.2 c1).2.2.1 c3).1 c4).1 (And.intro (((h.2 c1).2.2.1 c3).1 c4).2.1 (And.intro (((h.2 c1).2.2.1 c3).1 c4).2.2.1 ((((h.2 c1).2.2.1 c3).1 c4).2.2.2))))))) (fun c4 => (((h.2 c1).2.2.1 c3).2 c4)))))) (fun c3 => Exists.intro [.ref 7, .int a1, .int (a2 + 1)] (And.intro (And.intro (Or.inr rfl) (And.intro (Or.inr rfl) (And.intro (Or.inr rfl) (trivial)))) ((h.2 c1).2.2.2 c3)))))))
/-- X3_minutesOf (I)I, 0 -/
theorem sg_24_0 {post : Int32 → tp_St → Prop} {σ : tp_St} (a1 : Int32)  (h : tp_E 24 4 [.ref 7, .int a1, .int 0, .int 0] [] σ post) : tp_E 24 0 [.ref 7, .int a1, .null, .null] [] σ post := tp_E_step (Exists.intro [.ref 7, .int a1, .int 0, .int 0] (And.intro (And.intro (Or.inr rfl) (And.intro (Or.inr rfl) (And.intro (Or.inr rfl) (And.intro (Or.inr rfl) (trivial))))) h))
/-- X3_minutesOf (I)I, 4 -/
theorem sg_24_4 {post : Int32 → tp_St → Prop} {σ : tp_St} (a1 : Int32) (a2 : Int32) (a3 : Int32)  (h : ((σ.1 7 4) ≤ a3 →
post a2 σ) ∧ (¬ (σ.1 7 4) ≤ a3 →
vp_in a3 10 ∧
((σ.1 31 (a3).toNatClampNeg) = a1 →
vp_in a3 10 ∧
vp_in a3 10 ∧
tp_E 24 4 [.ref 7, .int a1, .int (a2 + ((σ.1 29 (a3).toNatClampNeg) - (σ.1 28 (a3).toNatClampNeg))), .int (a3 + 1)] [] σ post) ∧ (¬ (σ.1 31 (a3).toNatClampNeg) = a1 →
tp_E 24 4 [.ref 7, .int a1, .int a2, .int (a3 + 1)] [] σ post))) : tp_E 24 4 [.ref 7, .int a1, .int a2, .int a3] [] σ post := tp_E_step (And.intro (fun c1 => Exists.intro _ (And.intro (tp_wk_rf _) (tp_E_step (And.intro rfl (h.1 c1))))) (fun c1 => And.intro (h.2 c1).1 (And.intro (fun c2 => And.intro ((h.2 c1).2.1 c2).1 (And.intro ((h.2 c1).2.1 c2).2.1 (Exists.intro _ (And.intro (tp_wk_rf _) (tp_E_step (Exists.intro [.ref 7, .int a1, .int (a2 + ((σ.1 29 (a3).toNatClampNeg) - (σ.1 28 (a3).toNatClampNeg))), .int (a3 + 1)] (And.intro (And.intro (Or.inr rfl) (And.intro (Or.inr rfl) (And.intro (Or.inr rfl) (And.intro (Or.inr rfl) (trivial))))) ((h.2 c1).2.1 c2).2.2))))))) (fun c2 => Exists.intro _ (And.intro (tp_wk_rf _) (tp_E_step (Exists.intro [.ref 7, .int a1, .int a2, .int (a3 + 1)] (And.intro (And.intro (Or.inr rfl) (And.intro (Or.inr rfl) (And.intro (Or.inr rfl) (And.intro (Or.inr rfl) (trivial))))) ((h.2 c1).2.2 c2)))))))))
/-- X3_busiest ()I, 0 -/
theorem sg_25_0 {post : Int32 → tp_St → Prop} {σ : tp_St}   (h : tp_E 25 6 [.ref 7, .int (-1), .int 0, .int 0, .null] [] σ post) : tp_E 25 0 [.ref 7, .null, .null, .null, .null] [] σ post := tp_E_step (Exists.intro [.ref 7, .int (-1), .int 0, .int 0, .null] (And.intro (And.intro (Or.inr rfl) (And.intro (Or.inr rfl) (And.intro (Or.inr rfl) (And.intro (Or.inr rfl) (And.intro (Or.inr rfl) (trivial)))))) h))
/-- X3_busiest ()I, 6 -/
theorem sg_25_6 {post : Int32 → tp_St → Prop} {σ : tp_St} (a1 : Int32) (a2 : Int32) (a3 : Int32)  (h : ((σ.1 7 5) ≤ a3 →
post a1 σ) ∧ (¬ (σ.1 7 5) ≤ a3 →
tp_E 24 0 [.ref 7, .int a3, .null, .null] [] σ (fun r1 σ1 =>
(r1 ≤ a2 →
tp_E 25 6 [.ref 7, .int a1, .int a2, .int (a3 + 1), .null] [] σ1 post) ∧ (¬ r1 ≤ a2 →
tp_E 25 6 [.ref 7, .int a3, .int r1, .int (a3 + 1), .null] [] σ1 post)))) : tp_E 25 6 [.ref 7, .int a1, .int a2, .int a3, .null] [] σ post := tp_E_step (And.intro (fun c2 => Exists.intro _ (And.intro (tp_wk_rf _) (tp_E_step (And.intro rfl (h.1 c2))))) (fun c2 => tp_Em (h.2 c2) (fun r1 σ1 h1 => And.intro (fun c3 => Exists.intro _ (And.intro (tp_wk_rf _) (tp_E_step (Exists.intro [.ref 7, .int a1, .int a2, .int (a3 + 1), .null] (And.intro (And.intro (Or.inr rfl) (And.intro (Or.inr rfl) (And.intro (Or.inr rfl) (And.intro (Or.inr rfl) (And.intro (Or.inl rfl) (trivial)))))) (h1.1 c3)))))) (fun c3 => Exists.intro _ (And.intro (tp_wk_rf _) (tp_E_step (Exists.intro [.ref 7, .int a3, .int r1, .int (a3 + 1), .null] (And.intro (And.intro (Or.inr rfl) (And.intro (Or.inr rfl) (And.intro (Or.inr rfl) (And.intro (Or.inr rfl) (And.intro (Or.inl rfl) (trivial)))))) (h1.2 c3)))))))))
/-- X3_lostWithout (I)I, 0 -/
theorem sg_26_0 {post : Int32 → tp_St → Prop} {σ : tp_St} (a1 : Int32)  (h : tp_E 26 4 [.ref 7, .int a1, .int 0, .int 0] [] σ post) : tp_E 26 0 [.ref 7, .int a1, .null, .null] [] σ post := tp_E_step (Exists.intro [.ref 7, .int a1, .int 0, .int 0] (And.intro (And.intro (Or.inr rfl) (And.intro (Or.inr rfl) (And.intro (Or.inr rfl) (And.intro (Or.inr rfl) (trivial))))) h))
/-- X3_lostWithout (I)I, 4 -/
theorem sg_26_4 {post : Int32 → tp_St → Prop} {σ : tp_St} (a1 : Int32) (a2 : Int32) (a3 : Int32)  (h : ((σ.1 7 4) ≤ a3 →
post a2 σ) ∧ (¬ (σ.1 7 4) ≤ a3 →
vp_in a3 10 ∧
((σ.1 31 (a3).toNatClampNeg) = a1 →
tp_E 27 0 [.ref 7, .int a3, .null] [] σ (fun r1 σ1 =>
(r1 = 0 →
tp_E 26 4 [.ref 7, .int a1, .int (a2 + 1), .int (a3 + 1)] [] σ1 post) ∧ (¬ r1 = 0 →
tp_E 26 4 [.ref 7, .int a1, .int a2, .int (a3 + 1)] [] σ1 post))) ∧ (¬ (σ.1 31 (a3).toNatClampNeg) = a1 →
tp_E 26 4 [.ref 7, .int a1, .int a2, .int (a3 + 1)] [] σ post))) : tp_E 26 4 [.ref 7, .int a1, .int a2, .int a3] [] σ post := tp_E_step (And.intro (fun c2 => Exists.intro _ (And.intro (tp_wk_rf _) (tp_E_step (And.intro rfl (h.1 c2))))) (fun c2 => And.intro (h.2 c2).1 (And.intro (fun c3 => tp_Em ((h.2 c2).2.1 c3) (fun r1 σ1 h1 => And.intro (fun c4 => Exists.intro _ (And.intro (tp_wk_rf _) (tp_E_step (Exists.intro [.ref 7, .int a1, .int (a2 + 1), .int (a3 + 1)] (And.intro (And.intro (Or.inr rfl) (And.intro (Or.inr rfl) (And.intro (Or.inr rfl) (And.intro (Or.inr rfl) (trivial))))) (h1.1 c4)))))) (fun c4 => Exists.intro _ (And.intro (tp_wk_rf _) (tp_E_step (Exists.intro [.ref 7, .int a1, .int a2, .int (a3 + 1)] (And.intro (And.intro (Or.inr rfl) (And.intro (Or.inr rfl) (And.intro (Or.inr rfl) (And.intro (Or.inr rfl) (trivial))))) (h1.2 c4)))))))) (fun c3 => Exists.intro _ (And.intro (tp_wk_rf _) (tp_E_step (Exists.intro [.ref 7, .int a1, .int a2, .int (a3 + 1)] (And.intro (And.intro (Or.inr rfl) (And.intro (Or.inr rfl) (And.intro (Or.inr rfl) (And.intro (Or.inr rfl) (trivial))))) ((h.2 c2).2.2 c3)))))))))
/-- X3_anotherCould (I)Z, 0 -/
theorem sg_27_0 {post : Int32 → tp_St → Prop} {σ : tp_St} (a1 : Int32)  (h : tp_E 27 2 [.ref 7, .int a1, .int 0] [] σ post) : tp_E 27 0 [.ref 7, .int a1, .null] [] σ post := tp_E_step (Exists.intro [.ref 7, .int a1, .int 0] (And.intro (And.intro (Or.inr rfl) (And.intro (Or.inr rfl) (And.intro (Or.inr rfl) (trivial)))) h))
/-- X3_anotherCould (I)Z, 2 -/
theorem sg_27_2 {post : Int32 → tp_St → Prop} {σ : tp_St} (a1 : Int32) (a2 : Int32)  (h : ((σ.1 7 5) ≤ a2 →
post 0 σ) ∧ (¬ (σ.1 7 5) ≤ a2 →
vp_in a1 10 ∧
(a2 = (σ.1 31 (a1).toNatClampNeg) →
tp_E 27 2 [.ref 7, .int a1, .int (a2 + 1)] [] σ post) ∧ (¬ a2 = (σ.1 31 (a1).toNatClampNeg) →
tp_E 28 0 [.ref 7, .int a2, .int a1, .null] [] σ (fun r1 σ1 =>
(r1 = 0 →
tp_E 27 2 [.ref 7, .int a1, .int (a2 + 1)] [] σ1 post) ∧ (¬ r1 = 0 →
post 1 σ1))))) : tp_E 27 2 [.ref 7, .int a1, .int a2] [] σ post := tp_E_step (And.intro (fun c2 => Exists.intro _ (And.intro (tp_wk_rf _) (tp_E_step (And.intro rfl (h.1 c2))))) (fun c2 => And.intro (h.2 c2).1 (And.intro (fun c3 => Exists.intro _ (And.intro (tp_wk_rf _) (tp_E_step (Exists.intro [.ref 7, .int a1, .int (a2 + 1)] (And.intro (And.intro (Or.inr rfl) (And.intro (Or.inr rfl) (And.intro (Or.inr rfl) (trivial)))) ((h.2 c2).2.1 c3)))))) (fun c3 => tp_Em ((h.2 c2).2.2 c3) (fun r1 σ1 h1 => And.intro (fun c4 => Exists.intro _ (And.intro (tp_wk_rf _) (tp_E_step (Exists.intro [.ref 7, .int a1, .int (a2 + 1)] (And.intro (And.intro (Or.inr rfl) (And.intro (Or.inr rfl) (And.intro (Or.inr rfl) (trivial)))) (h1.1 c4)))))) (fun c4 => And.intro rfl (h1.2 c4)))))))
/-- X3_couldHave (II)Z, 0 -/
theorem sg_28_0 {post : Int32 → tp_St → Prop} {σ : tp_St} (a1 : Int32) (a2 : Int32)  (h : tp_E 28 2 [.ref 7, .int a1, .int a2, .int 0] [] σ post) : tp_E 28 0 [.ref 7, .int a1, .int a2, .null] [] σ post := tp_E_step (Exists.intro [.ref 7, .int a1, .int a2, .int 0] (And.intro (And.intro (Or.inr rfl) (And.intro (Or.inr rfl) (And.intro (Or.inr rfl) (And.intro (Or.inr rfl) (trivial))))) h))
/-- X3_couldHave (II)Z, 2 -/
theorem sg_28_2 {post : Int32 → tp_St → Prop} {σ : tp_St} (a1 : Int32) (a2 : Int32) (a3 : Int32)  (h : ((σ.1 7 4) ≤ a3 →
post 1 σ) ∧ (¬ (σ.1 7 4) ≤ a3 →
vp_in a3 10 ∧
((σ.1 31 (a3).toNatClampNeg) = a1 →
tp_E 29 0 [.ref 7, .int a3, .int a2] [] σ (fun r1 σ1 =>
(r1 = 0 →
post 0 σ1) ∧ (¬ r1 = 0 →
tp_E 28 2 [.ref 7, .int a1, .int a2, .int (a3 + 1)] [] σ1 post))) ∧ (¬ (σ.1 31 (a3).toNatClampNeg) = a1 →
tp_E 28 2 [.ref 7, .int a1, .int a2, .int (a3 + 1)] [] σ post))) : tp_E 28 2 [.ref 7, .int a1, .int a2, .int a3] [] σ post := tp_E_step (And.intro (fun c2 => Exists.intro _ (And.intro (tp_wk_rf _) (tp_E_step (And.intro rfl (h.1 c2))))) (fun c2 => And.intro (h.2 c2).1 (And.intro (fun c3 => tp_Em ((h.2 c2).2.1 c3) (fun r1 σ1 h1 => And.intro (fun c4 => And.intro rfl (h1.1 c4)) (fun c4 => Exists.intro _ (And.intro (tp_wk_rf _) (tp_E_step (Exists.intro [.ref 7, .int a1, .int a2, .int (a3 + 1)] (And.intro (And.intro (Or.inr rfl) (And.intro (Or.inr rfl) (And.intro (Or.inr rfl) (And.intro (Or.inr rfl) (trivial))))) (h1.2 c4)))))))) (fun c3 => Exists.intro _ (And.intro (tp_wk_rf _) (tp_E_step (Exists.intro [.ref 7, .int a1, .int a2, .int (a3 + 1)] (And.intro (And.intro (Or.inr rfl) (And.intro (Or.inr rfl) (And.intro (Or.inr rfl) (And.intro (Or.inr rfl) (trivial))))) ((h.2 c2).2.2 c3)))))))))
/-- X3_haveRestBetween (II)Z, 0 -/
theorem sg_29_0 {post : Int32 → tp_St → Prop} {σ : tp_St} (a1 : Int32) (a2 : Int32)  (h : vp_in a1 10 ∧
vp_in a2 10 ∧
(((σ.1 29 (a1).toNatClampNeg) + (σ.1 7 6)) ≤ (σ.1 28 (a2).toNatClampNeg) →
post 1 σ) ∧ (¬ ((σ.1 29 (a1).toNatClampNeg) + (σ.1 7 6)) ≤ (σ.1 28 (a2).toNatClampNeg) →
vp_in a2 10 ∧
vp_in a1 10 ∧
((σ.1 28 (a1).toNatClampNeg) < ((σ.1 29 (a2).toNatClampNeg) + (σ.1 7 6)) →
post 0 σ) ∧ (¬ (σ.1 28 (a1).toNatClampNeg) < ((σ.1 29 (a2).toNatClampNeg) + (σ.1 7 6)) →
post 1 σ))) : tp_E 29 0 [.ref 7, .int a1, .int a2] [] σ post := tp_E_step (And.intro h.1 (And.intro h.2.1 (And.intro (fun c1 => Exists.intro _ (And.intro (tp_wk_rf _) (tp_E_step (Exists.intro _ (And.intro (tp_wk_rf _) (tp_E_step (And.intro rfl (h.2.2.1 c1)))))))) (fun c1 => And.intro (h.2.2.2 c1).1 (And.intro (h.2.2.2 c1).2.1 (And.intro (fun c2 => Exists.intro _ (And.intro (tp_wk_rf _) (tp_E_step (Exists.intro _ (And.intro (tp_wk_rf _) (tp_E_step (And.intro rfl ((h.2.2.2 c1).2.2.1 c2)))))))) (fun c2 => Exists.intro _ (And.intro (tp_wk_rf _) (tp_E_step (Exists.intro _ (And.intro (tp_wk_rf _) (tp_E_step (And.intro rfl ((h.2.2.2 c1).2.2.2 c2))))))))))))))
/-- X4_isFull ()Z, 0 -/
theorem sg_30_0 {post : Int32 → tp_St → Prop} {σ : tp_St}   (h : ((σ.1 4 4) < 200 →
post 0 σ) ∧ (¬ (σ.1 4 4) < 200 →
post 1 σ)) : tp_E 30 0 [.ref 4] [] σ post := tp_E_step (And.intro (fun c1 => Exists.intro _ (And.intro (tp_wk_rf _) (tp_E_step (Exists.intro _ (And.intro (tp_wk_rf _) (tp_E_step (And.intro rfl (h.1 c1)))))))) (fun c1 => Exists.intro _ (And.intro (tp_wk_rf _) (tp_E_step (And.intro rfl (h.2 c1))))))
/-- X4_add (IIII)V, 0 -/
theorem sg_31_0 {post : Int32 → tp_St → Prop} {σ : tp_St} (a1 : Int32) (a2 : Int32) (a3 : Int32) (a4 : Int32)  (h : tp_E 30 0 [.ref 4] [] σ (fun r1 σ1 =>
(r1 = 0 →
vp_in (σ1.1 4 4) 200 ∧
vp_in (σ1.1 4 4) 200 ∧
vp_in (σ1.1 4 4) 200 ∧
vp_in (σ1.1 4 4) 200 ∧
post 0 (tp_set (tp_set (tp_set (tp_set (tp_set σ1 15 ((σ1.1 4 4)).toNatClampNeg a1) 16 ((σ1.1 4 4)).toNatClampNeg a2) 17 ((σ1.1 4 4)).toNatClampNeg a3) 18 ((σ1.1 4 4)).toNatClampNeg a4) 4 4 ((σ1.1 4 4) + 1))) ∧ (¬ r1 = 0 →
post 0 σ1))) : tp_E 31 0 [.ref 4, .int a1, .int a2, .int a3, .int a4] [] σ post := tp_E_step (tp_Em h (fun r1 σ1 h1 => And.intro (fun c2 => Exists.intro _ (And.intro (tp_wk_rf _) (tp_E_step (And.intro (h1.1 c2).1 (And.intro (h1.1 c2).2.1 (And.intro (h1.1 c2).2.2.1 (And.intro (h1.1 c2).2.2.2.1 ((h1.1 c2).2.2.2.2)))))))) (fun c2 => (h1.2 c2))))
/-- X4_latestStep (I)I, 0 -/
theorem sg_32_0 {post : Int32 → tp_St → Prop} {σ : tp_St} (a1 : Int32)  (h : tp_E 32 7 [.ref 4, .int a1, .int ((σ.1 4 4) - 1)] [] σ post) : tp_E 32 0 [.ref 4, .int a1, .null] [] σ post := tp_E_step (Exists.intro [.ref 4, .int a1, .int ((σ.1 4 4) - 1)] (And.intro (And.intro (Or.inr rfl) (And.intro (Or.inr rfl) (And.intro (Or.inr rfl) (trivial)))) h))
/-- X4_latestStep (I)I, 7 -/
theorem sg_32_7 {post : Int32 → tp_St → Prop} {σ : tp_St} (a1 : Int32) (a2 : Int32)  (h : (a2 < 0 →
post 0 σ) ∧ (¬ a2 < 0 →
vp_in a2 200 ∧
((σ.1 15 (a2).toNatClampNeg) = a1 →
vp_in a2 200 ∧
post (σ.1 17 (a2).toNatClampNeg) σ) ∧ (¬ (σ.1 15 (a2).toNatClampNeg) = a1 →
tp_E 32 7 [.ref 4, .int a1, .int (a2 + (-1))] [] σ post))) : tp_E 32 7 [.ref 4, .int a1, .int a2] [] σ post := tp_E_step (And.intro (fun c1 => Exists.intro _ (And.intro (tp_wk_rf _) (tp_E_step (And.intro rfl (h.1 c1))))) (fun c1 => And.intro (h.2 c1).1 (And.intro (fun c2 => And.intro ((h.2 c1).2.1 c2).1 (And.intro rfl ((h.2 c1).2.1 c2).2)) (fun c2 => Exists.intro _ (And.intro (tp_wk_rf _) (tp_E_step (Exists.intro [.ref 4, .int a1, .int (a2 + (-1))] (And.intro (And.intro (Or.inr rfl) (And.intro (Or.inr rfl) (And.intro (Or.inr rfl) (trivial)))) ((h.2 c1).2.2 c2)))))))))
/-- X4_find (II)I, 0 -/
theorem sg_33_0 {post : Int32 → tp_St → Prop} {σ : tp_St} (a1 : Int32) (a2 : Int32)  (h : tp_E 33 2 [.ref 4, .int a1, .int a2, .int 0] [] σ post) : tp_E 33 0 [.ref 4, .int a1, .int a2, .null] [] σ post := tp_E_step (Exists.intro [.ref 4, .int a1, .int a2, .int 0] (And.intro (And.intro (Or.inr rfl) (And.intro (Or.inr rfl) (And.intro (Or.inr rfl) (And.intro (Or.inr rfl) (trivial))))) h))
/-- X4_find (II)I, 2 -/
theorem sg_33_2 {post : Int32 → tp_St → Prop} {σ : tp_St} (a1 : Int32) (a2 : Int32) (a3 : Int32)  (h : ((σ.1 4 4) ≤ a3 →
post (-1) σ) ∧ (¬ (σ.1 4 4) ≤ a3 →
vp_in a3 200 ∧
((σ.1 16 (a3).toNatClampNeg) = a1 →
vp_in a3 200 ∧
((σ.1 18 (a3).toNatClampNeg) = a2 →
post a3 σ) ∧ (¬ (σ.1 18 (a3).toNatClampNeg) = a2 →
tp_E 33 2 [.ref 4, .int a1, .int a2, .int (a3 + 1)] [] σ post)) ∧ (¬ (σ.1 16 (a3).toNatClampNeg) = a1 →
tp_E 33 2 [.ref 4, .int a1, .int a2, .int (a3 + 1)] [] σ post))) : tp_E 33 2 [.ref 4, .int a1, .int a2, .int a3] [] σ post := tp_E_step (And.intro (fun c1 => Exists.intro _ (And.intro (tp_wk_rf _) (tp_E_step (And.intro rfl (h.1 c1))))) (fun c1 => And.intro (h.2 c1).1 (And.intro (fun c2 => And.intro ((h.2 c1).2.1 c2).1 (And.intro (fun c3 => And.intro rfl (((h.2 c1).2.1 c2).2.1 c3)) (fun c3 => Exists.intro _ (And.intro (tp_wk_rf _) (tp_E_step (Exists.intro [.ref 4, .int a1, .int a2, .int (a3 + 1)] (And.intro (And.intro (Or.inr rfl) (And.intro (Or.inr rfl) (And.intro (Or.inr rfl) (And.intro (Or.inr rfl) (trivial))))) (((h.2 c1).2.1 c2).2.2 c3)))))))) (fun c2 => Exists.intro _ (And.intro (tp_wk_rf _) (tp_E_step (Exists.intro [.ref 4, .int a1, .int a2, .int (a3 + 1)] (And.intro (And.intro (Or.inr rfl) (And.intro (Or.inr rfl) (And.intro (Or.inr rfl) (And.intro (Or.inr rfl) (trivial))))) ((h.2 c1).2.2 c2)))))))))
/-- X4_anySold (III)Z, 0 -/
theorem sg_34_0 {post : Int32 → tp_St → Prop} {σ : tp_St} (a1 : Int32) (a2 : Int32) (a3 : Int32)  (h : tp_E 34 3 [.ref 4, .int a1, .int a2, .int a3, .int 0] [] σ post) : tp_E 34 0 [.ref 4, .int a1, .int a2, .int a3, .null] [] σ post := tp_E_step (Exists.intro [.ref 4, .int a1, .int a2, .int a3, .int 0] (And.intro (And.intro (Or.inr rfl) (And.intro (Or.inr rfl) (And.intro (Or.inr rfl) (And.intro (Or.inr rfl) (And.intro (Or.inr rfl) (trivial)))))) h))
/-- X4_anySold (III)Z, 3 -/
theorem sg_34_3 {post : Int32 → tp_St → Prop} {σ : tp_St} (a1 : Int32) (a2 : Int32) (a3 : Int32) (a4 : Int32)  (h : ((σ.1 4 4) ≤ a4 →
post 0 σ) ∧ (¬ (σ.1 4 4) ≤ a4 →
vp_in a4 200 ∧
((σ.1 16 (a4).toNatClampNeg) = a1 →
vp_in a4 200 ∧
((σ.1 18 (a4).toNatClampNeg) < a2 →
tp_E 34 3 [.ref 4, .int a1, .int a2, .int a3, .int (a4 + 1)] [] σ post) ∧ (¬ (σ.1 18 (a4).toNatClampNeg) < a2 →
vp_in a4 200 ∧
(a3 ≤ (σ.1 18 (a4).toNatClampNeg) →
tp_E 34 3 [.ref 4, .int a1, .int a2, .int a3, .int (a4 + 1)] [] σ post) ∧ (¬ a3 ≤ (σ.1 18 (a4).toNatClampNeg) →
post 1 σ))) ∧ (¬ (σ.1 16 (a4).toNatClampNeg) = a1 →
tp_E 34 3 [.ref 4, .int a1, .int a2, .int a3, .int (a4 + 1)] [] σ post))) : tp_E 34 3 [.ref 4, .int a1, .int a2, .int a3, .int a4] [] σ post := tp_E_step (And.intro (fun c1 => Exists.intro _ (And.intro (tp_wk_rf _) (tp_E_step (And.intro rfl (h.1 c1))))) (fun c1 => And.intro (h.2 c1).1 (And.intro (fun c2 => And.intro ((h.2 c1).2.1 c2).1 (And.intro (fun c3 => Exists.intro _ (And.intro (tp_wk_rf _) (tp_E_step (Exists.intro [.ref 4, .int a1, .int a2, .int a3, .int (a4 + 1)] (And.intro (And.intro (Or.inr rfl) (And.intro (Or.inr rfl) (And.intro (Or.inr rfl) (And.intro (Or.inr rfl) (And.intro (Or.inr rfl) (trivial)))))) (((h.2 c1).2.1 c2).2.1 c3)))))) (fun c3 => And.intro (((h.2 c1).2.1 c2).2.2 c3).1 (And.intro (fun c4 => Exists.intro _ (And.intro (tp_wk_rf _) (tp_E_step (Exists.intro [.ref 4, .int a1, .int a2, .int a3, .int (a4 + 1)] (And.intro (And.intro (Or.inr rfl) (And.intro (Or.inr rfl) (And.intro (Or.inr rfl) (And.intro (Or.inr rfl) (And.intro (Or.inr rfl) (trivial)))))) ((((h.2 c1).2.1 c2).2.2 c3).2.1 c4)))))) (fun c4 => And.intro rfl ((((h.2 c1).2.1 c2).2.2 c3).2.2 c4)))))) (fun c2 => Exists.intro _ (And.intro (tp_wk_rf _) (tp_E_step (Exists.intro [.ref 4, .int a1, .int a2, .int a3, .int (a4 + 1)] (And.intro (And.intro (Or.inr rfl) (And.intro (Or.inr rfl) (And.intro (Or.inr rfl) (And.intro (Or.inr rfl) (And.intro (Or.inr rfl) (trivial)))))) ((h.2 c1).2.2 c2)))))))))
/-- X4_beyond (II)I, 0 -/
theorem sg_35_0 {post : Int32 → tp_St → Prop} {σ : tp_St} (a1 : Int32) (a2 : Int32)  (h : tp_E 35 5 [.ref 4, .int a1, .null, .int a2, .int 0] [] σ post) : tp_E 35 0 [.ref 4, .int a1, .int a2, .null, .null] [] σ post := tp_E_step (Exists.intro [.ref 4, .int a1, .null, .int a2, .int 0] (And.intro (And.intro (Or.inr rfl) (And.intro (Or.inr rfl) (And.intro (Or.inl rfl) (And.intro (Or.inr rfl) (And.intro (Or.inr rfl) (trivial)))))) h))
/-- X4_beyond (II)I, 5 -/
theorem sg_35_5 {post : Int32 → tp_St → Prop} {σ : tp_St} (a1 : Int32) (a3 : Int32) (a4 : Int32)  (h : ((σ.1 4 4) ≤ a4 →
post a3 σ) ∧ (¬ (σ.1 4 4) ≤ a4 →
vp_in a4 200 ∧
((σ.1 16 (a4).toNatClampNeg) = a1 →
vp_in a4 200 ∧
((σ.1 18 (a4).toNatClampNeg) = a3 →
tp_E 35 5 [.ref 4, .int a1, .null, .int (a3 + 1), .int (a4 + 1)] [] σ post) ∧ (¬ (σ.1 18 (a4).toNatClampNeg) = a3 →
tp_E 35 5 [.ref 4, .int a1, .null, .int a3, .int (a4 + 1)] [] σ post)) ∧ (¬ (σ.1 16 (a4).toNatClampNeg) = a1 →
tp_E 35 5 [.ref 4, .int a1, .null, .int a3, .int (a4 + 1)] [] σ post))) : tp_E 35 5 [.ref 4, .int a1, .null, .int a3, .int a4] [] σ post := tp_E_step (And.intro (fun c1 => Exists.intro _ (And.intro (tp_wk_rf _) (tp_E_step (And.intro rfl (h.1 c1))))) (fun c1 => And.intro (h.2 c1).1 (And.intro (fun c2 => And.intro ((h.2 c1).2.1 c2).1 (And.intro (fun c3 => Exists.intro _ (And.intro (tp_wk_rf _) (tp_E_step (Exists.intro [.ref 4, .int a1, .null, .int (a3 + 1), .int (a4 + 1)] (And.intro (And.intro (Or.inr rfl) (And.intro (Or.inr rfl) (And.intro (Or.inr rfl) (And.intro (Or.inr rfl) (And.intro (Or.inr rfl) (trivial)))))) (((h.2 c1).2.1 c2).2.1 c3)))))) (fun c3 => Exists.intro _ (And.intro (tp_wk_rf _) (tp_E_step (Exists.intro [.ref 4, .int a1, .null, .int a3, .int (a4 + 1)] (And.intro (And.intro (Or.inr rfl) (And.intro (Or.inr rfl) (And.intro (Or.inr rfl) (And.intro (Or.inr rfl) (And.intro (Or.inr rfl) (trivial)))))) (((h.2 c1).2.1 c2).2.2 c3)))))))) (fun c2 => Exists.intro _ (And.intro (tp_wk_rf _) (tp_E_step (Exists.intro [.ref 4, .int a1, .null, .int a3, .int (a4 + 1)] (And.intro (And.intro (Or.inr rfl) (And.intro (Or.inr rfl) (And.intro (Or.inr rfl) (And.intro (Or.inr rfl) (And.intro (Or.inr rfl) (trivial)))))) ((h.2 c1).2.2 c2)))))))))
/-- X4_greatestSold (I)I, 0 -/
theorem sg_36_0 {post : Int32 → tp_St → Prop} {σ : tp_St} (a1 : Int32)  (h : tp_E 36 4 [.ref 4, .int a1, .int (-1), .int 0] [] σ post) : tp_E 36 0 [.ref 4, .int a1, .null, .null] [] σ post := tp_E_step (Exists.intro [.ref 4, .int a1, .int (-1), .int 0] (And.intro (And.intro (Or.inr rfl) (And.intro (Or.inr rfl) (And.intro (Or.inr rfl) (And.intro (Or.inr rfl) (trivial))))) h))
/-- X4_greatestSold (I)I, 4 -/
theorem sg_36_4 {post : Int32 → tp_St → Prop} {σ : tp_St} (a1 : Int32) (a2 : Int32) (a3 : Int32)  (h : ((σ.1 4 4) ≤ a3 →
post a2 σ) ∧ (¬ (σ.1 4 4) ≤ a3 →
vp_in a3 200 ∧
((σ.1 16 (a3).toNatClampNeg) = a1 →
vp_in a3 200 ∧
tp_E 36 4 [.ref 4, .int a1, .int (if a2 < (σ.1 18 (a3).toNatClampNeg) then (σ.1 18 (a3).toNatClampNeg) else a2), .int (a3 + 1)] [] σ post) ∧ (¬ (σ.1 16 (a3).toNatClampNeg) = a1 →
tp_E 36 4 [.ref 4, .int a1, .int a2, .int (a3 + 1)] [] σ post))) : tp_E 36 4 [.ref 4, .int a1, .int a2, .int a3] [] σ post := tp_E_step (And.intro (fun c1 => Exists.intro _ (And.intro (tp_wk_rf _) (tp_E_step (And.intro rfl (h.1 c1))))) (fun c1 => And.intro (h.2 c1).1 (And.intro (fun c2 => And.intro ((h.2 c1).2.1 c2).1 (Exists.intro _ (And.intro (tp_wk_rf _) (tp_E_step (Exists.intro [.ref 4, .int a1, .int (if a2 < (σ.1 18 (a3).toNatClampNeg) then (σ.1 18 (a3).toNatClampNeg) else a2), .int (a3 + 1)] (And.intro (And.intro (Or.inr rfl) (And.intro (Or.inr rfl) (And.intro (Or.inr rfl) (And.intro (Or.inr rfl) (trivial))))) ((h.2 c1).2.1 c2).2)))))) (fun c2 => Exists.intro _ (And.intro (tp_wk_rf _) (tp_E_step (Exists.intro [.ref 4, .int a1, .int a2, .int (a3 + 1)] (And.intro (And.intro (Or.inr rfl) (And.intro (Or.inr rfl) (And.intro (Or.inr rfl) (And.intro (Or.inr rfl) (trivial))))) ((h.2 c1).2.2 c2)))))))))
/-- X4_howMany (II)I, 0 -/
theorem sg_37_0 {post : Int32 → tp_St → Prop} {σ : tp_St} (a1 : Int32) (a2 : Int32)  (h : tp_E 37 5 [.ref 4, .int a1, .int a2, .int 0, .int 0] [] σ post) : tp_E 37 0 [.ref 4, .int a1, .int a2, .null, .null] [] σ post := tp_E_step (Exists.intro [.ref 4, .int a1, .int a2, .int 0, .int 0] (And.intro (And.intro (Or.inr rfl) (And.intro (Or.inr rfl) (And.intro (Or.inr rfl) (And.intro (Or.inr rfl) (And.intro (Or.inr rfl) (trivial)))))) h))
/-- X4_howMany (II)I, 5 -/
theorem sg_37_5 {post : Int32 → tp_St → Prop} {σ : tp_St} (a1 : Int32) (a2 : Int32) (a3 : Int32) (a4 : Int32)  (h : ((σ.1 4 4) ≤ a4 →
post a3 σ) ∧ (¬ (σ.1 4 4) ≤ a4 →
tp_E 40 0 [.ref 4, .int a4, .int a1, .int a2] [] σ (fun r1 σ1 =>
(r1 = 0 →
tp_E 37 5 [.ref 4, .int a1, .int a2, .int a3, .int (a4 + 1)] [] σ1 post) ∧ (¬ r1 = 0 →
tp_E 37 5 [.ref 4, .int a1, .int a2, .int (a3 + 1), .int (a4 + 1)] [] σ1 post)))) : tp_E 37 5 [.ref 4, .int a1, .int a2, .int a3, .int a4] [] σ post := tp_E_step (And.intro (fun c2 => Exists.intro _ (And.intro (tp_wk_rf _) (tp_E_step (And.intro rfl (h.1 c2))))) (fun c2 => tp_Em (h.2 c2) (fun r1 σ1 h1 => And.intro (fun c3 => Exists.intro _ (And.intro (tp_wk_rf _) (tp_E_step (Exists.intro [.ref 4, .int a1, .int a2, .int a3, .int (a4 + 1)] (And.intro (And.intro (Or.inr rfl) (And.intro (Or.inr rfl) (And.intro (Or.inr rfl) (And.intro (Or.inr rfl) (And.intro (Or.inr rfl) (trivial)))))) (h1.1 c3)))))) (fun c3 => Exists.intro _ (And.intro (tp_wk_rf _) (tp_E_step (Exists.intro [.ref 4, .int a1, .int a2, .int (a3 + 1), .int (a4 + 1)] (And.intro (And.intro (Or.inr rfl) (And.intro (Or.inr rfl) (And.intro (Or.inr rfl) (And.intro (Or.inr rfl) (And.intro (Or.inr rfl) (trivial)))))) (h1.2 c3)))))))))
/-- X4_firstOf (II)I, 0 -/
theorem sg_38_0 {post : Int32 → tp_St → Prop} {σ : tp_St} (a1 : Int32) (a2 : Int32)  (h : tp_E 38 2 [.ref 4, .int a1, .int a2, .int 0] [] σ post) : tp_E 38 0 [.ref 4, .int a1, .int a2, .null] [] σ post := tp_E_step (Exists.intro [.ref 4, .int a1, .int a2, .int 0] (And.intro (And.intro (Or.inr rfl) (And.intro (Or.inr rfl) (And.intro (Or.inr rfl) (And.intro (Or.inr rfl) (trivial))))) h))
/-- X4_firstOf (II)I, 2 -/
theorem sg_38_2 {post : Int32 → tp_St → Prop} {σ : tp_St} (a1 : Int32) (a2 : Int32) (a3 : Int32)  (h : ((σ.1 4 4) ≤ a3 →
post (-1) σ) ∧ (¬ (σ.1 4 4) ≤ a3 →
tp_E 40 0 [.ref 4, .int a3, .int a1, .int a2] [] σ (fun r1 σ1 =>
(r1 = 0 →
tp_E 38 2 [.ref 4, .int a1, .int a2, .int (a3 + 1)] [] σ1 post) ∧ (¬ r1 = 0 →
post a3 σ1)))) : tp_E 38 2 [.ref 4, .int a1, .int a2, .int a3] [] σ post := tp_E_step (And.intro (fun c2 => Exists.intro _ (And.intro (tp_wk_rf _) (tp_E_step (And.intro rfl (h.1 c2))))) (fun c2 => tp_Em (h.2 c2) (fun r1 σ1 h1 => And.intro (fun c3 => Exists.intro _ (And.intro (tp_wk_rf _) (tp_E_step (Exists.intro [.ref 4, .int a1, .int a2, .int (a3 + 1)] (And.intro (And.intro (Or.inr rfl) (And.intro (Or.inr rfl) (And.intro (Or.inr rfl) (And.intro (Or.inr rfl) (trivial))))) (h1.1 c3)))))) (fun c3 => And.intro rfl (h1.2 c3)))))
/-- X4_lastOf (II)I, 0 -/
theorem sg_39_0 {post : Int32 → tp_St → Prop} {σ : tp_St} (a1 : Int32) (a2 : Int32)  (h : tp_E 39 7 [.ref 4, .int a1, .int a2, .int ((σ.1 4 4) - 1)] [] σ post) : tp_E 39 0 [.ref 4, .int a1, .int a2, .null] [] σ post := tp_E_step (Exists.intro [.ref 4, .int a1, .int a2, .int ((σ.1 4 4) - 1)] (And.intro (And.intro (Or.inr rfl) (And.intro (Or.inr rfl) (And.intro (Or.inr rfl) (And.intro (Or.inr rfl) (trivial))))) h))
/-- X4_lastOf (II)I, 7 -/
theorem sg_39_7 {post : Int32 → tp_St → Prop} {σ : tp_St} (a1 : Int32) (a2 : Int32) (a3 : Int32)  (h : (a3 < 0 →
post (-1) σ) ∧ (¬ a3 < 0 →
tp_E 40 0 [.ref 4, .int a3, .int a1, .int a2] [] σ (fun r1 σ1 =>
(r1 = 0 →
tp_E 39 7 [.ref 4, .int a1, .int a2, .int (a3 + (-1))] [] σ1 post) ∧ (¬ r1 = 0 →
post a3 σ1)))) : tp_E 39 7 [.ref 4, .int a1, .int a2, .int a3] [] σ post := tp_E_step (And.intro (fun c2 => Exists.intro _ (And.intro (tp_wk_rf _) (tp_E_step (And.intro rfl (h.1 c2))))) (fun c2 => tp_Em (h.2 c2) (fun r1 σ1 h1 => And.intro (fun c3 => Exists.intro _ (And.intro (tp_wk_rf _) (tp_E_step (Exists.intro [.ref 4, .int a1, .int a2, .int (a3 + (-1))] (And.intro (And.intro (Or.inr rfl) (And.intro (Or.inr rfl) (And.intro (Or.inr rfl) (And.intro (Or.inr rfl) (trivial))))) (h1.1 c3)))))) (fun c3 => And.intro rfl (h1.2 c3)))))
/-- X4_isOf (III)Z, 0 -/
theorem sg_40_0 {post : Int32 → tp_St → Prop} {σ : tp_St} (a1 : Int32) (a2 : Int32) (a3 : Int32)  (h : vp_in a1 200 ∧
((σ.1 15 (a1).toNatClampNeg) = a2 →
vp_in a1 200 ∧
((σ.1 16 (a1).toNatClampNeg) = a3 →
post 1 σ) ∧ (¬ (σ.1 16 (a1).toNatClampNeg) = a3 →
post 0 σ)) ∧ (¬ (σ.1 15 (a1).toNatClampNeg) = a2 →
post 0 σ)) : tp_E 40 0 [.ref 4, .int a1, .int a2, .int a3] [] σ post := tp_E_step (And.intro h.1 (And.intro (fun c1 => And.intro (h.2.1 c1).1 (And.intro (fun c2 => Exists.intro _ (And.intro (tp_wk_rf _) (tp_E_step (And.intro rfl ((h.2.1 c1).2.1 c2))))) (fun c2 => Exists.intro _ (And.intro (tp_wk_rf _) (tp_E_step (Exists.intro _ (And.intro (tp_wk_rf _) (tp_E_step (And.intro rfl ((h.2.1 c1).2.2 c2)))))))))) (fun c1 => Exists.intro _ (And.intro (tp_wk_rf _) (tp_E_step (Exists.intro _ (And.intro (tp_wk_rf _) (tp_E_step (And.intro rfl (h.2.2 c1))))))))))
/-- X5_isNothing ()Z, 0 -/
theorem sg_41_0 {post : Int32 → tp_St → Prop} {σ : tp_St} (q0 : Nat) (hq0 : q0 = 20 ∨ q0 = 21 ∨ q0 = 22 ∨ q0 = 23) (h : ((σ.1 q0 2) = (-1) →
post 1 σ) ∧ (¬ (σ.1 q0 2) = (-1) →
post 0 σ)) : tp_E 41 0 [.ref q0] [] σ post := by
  rcases hq0 with rfl | rfl | rfl | rfl
  · exact tp_E_step (And.intro (fun c1 => Exists.intro _ (And.intro (tp_wk_rf _) (tp_E_step (And.intro rfl (h.1 c1))))) (fun c1 => Exists.intro _ (And.intro (tp_wk_rf _) (tp_E_step (Exists.intro _ (And.intro (tp_wk_rf _) (tp_E_step (And.intro rfl (h.2 c1)))))))))
  · exact tp_E_step (And.intro (fun c1 => Exists.intro _ (And.intro (tp_wk_rf _) (tp_E_step (And.intro rfl (h.1 c1))))) (fun c1 => Exists.intro _ (And.intro (tp_wk_rf _) (tp_E_step (Exists.intro _ (And.intro (tp_wk_rf _) (tp_E_step (And.intro rfl (h.2 c1)))))))))
  · exact tp_E_step (And.intro (fun c1 => Exists.intro _ (And.intro (tp_wk_rf _) (tp_E_step (And.intro rfl (h.1 c1))))) (fun c1 => Exists.intro _ (And.intro (tp_wk_rf _) (tp_E_step (Exists.intro _ (And.intro (tp_wk_rf _) (tp_E_step (And.intro rfl (h.2 c1)))))))))
  · exact tp_E_step (And.intro (fun c1 => Exists.intro _ (And.intro (tp_wk_rf _) (tp_E_step (And.intro rfl (h.1 c1))))) (fun c1 => Exists.intro _ (And.intro (tp_wk_rf _) (tp_E_step (Exists.intro _ (And.intro (tp_wk_rf _) (tp_E_step (And.intro rfl (h.2 c1)))))))))
/-- X5_hasCell (I)Z, 0 -/
theorem sg_42_0 {post : Int32 → tp_St → Prop} {σ : tp_St} (q0 : Nat) (a1 : Int32) (hq0 : q0 = 20 ∨ q0 = 21 ∨ q0 = 22 ∨ q0 = 23) (h : (a1 < 0 →
post 0 σ) ∧ (¬ a1 < 0 →
((σ.1 q0 2) ≤ a1 →
post 0 σ) ∧ (¬ (σ.1 q0 2) ≤ a1 →
post 1 σ))) : tp_E 42 0 [.ref q0, .int a1] [] σ post := by
  rcases hq0 with rfl | rfl | rfl | rfl
  · exact tp_E_step (And.intro (fun c1 => Exists.intro _ (And.intro (tp_wk_rf _) (tp_E_step (Exists.intro _ (And.intro (tp_wk_rf _) (tp_E_step (And.intro rfl (h.1 c1)))))))) (fun c1 => And.intro (fun c2 => Exists.intro _ (And.intro (tp_wk_rf _) (tp_E_step (Exists.intro _ (And.intro (tp_wk_rf _) (tp_E_step (And.intro rfl ((h.2 c1).1 c2)))))))) (fun c2 => Exists.intro _ (And.intro (tp_wk_rf _) (tp_E_step (And.intro rfl ((h.2 c1).2 c2)))))))
  · exact tp_E_step (And.intro (fun c1 => Exists.intro _ (And.intro (tp_wk_rf _) (tp_E_step (Exists.intro _ (And.intro (tp_wk_rf _) (tp_E_step (And.intro rfl (h.1 c1)))))))) (fun c1 => And.intro (fun c2 => Exists.intro _ (And.intro (tp_wk_rf _) (tp_E_step (Exists.intro _ (And.intro (tp_wk_rf _) (tp_E_step (And.intro rfl ((h.2 c1).1 c2)))))))) (fun c2 => Exists.intro _ (And.intro (tp_wk_rf _) (tp_E_step (And.intro rfl ((h.2 c1).2 c2)))))))
  · exact tp_E_step (And.intro (fun c1 => Exists.intro _ (And.intro (tp_wk_rf _) (tp_E_step (Exists.intro _ (And.intro (tp_wk_rf _) (tp_E_step (And.intro rfl (h.1 c1)))))))) (fun c1 => And.intro (fun c2 => Exists.intro _ (And.intro (tp_wk_rf _) (tp_E_step (Exists.intro _ (And.intro (tp_wk_rf _) (tp_E_step (And.intro rfl ((h.2 c1).1 c2)))))))) (fun c2 => Exists.intro _ (And.intro (tp_wk_rf _) (tp_E_step (And.intro rfl ((h.2 c1).2 c2)))))))
  · exact tp_E_step (And.intro (fun c1 => Exists.intro _ (And.intro (tp_wk_rf _) (tp_E_step (Exists.intro _ (And.intro (tp_wk_rf _) (tp_E_step (And.intro rfl (h.1 c1)))))))) (fun c1 => And.intro (fun c2 => Exists.intro _ (And.intro (tp_wk_rf _) (tp_E_step (Exists.intro _ (And.intro (tp_wk_rf _) (tp_E_step (And.intro rfl ((h.2 c1).1 c2)))))))) (fun c2 => Exists.intro _ (And.intro (tp_wk_rf _) (tp_E_step (And.intro rfl ((h.2 c1).2 c2)))))))
/-- X5_renew (II)V, 0 -/
theorem sg_43_0 {post : Int32 → tp_St → Prop} {σ : tp_St} (q0 : Nat) (a1 : Int32) (a2 : Int32) (hq0 : q0 = 20 ∨ q0 = 21 ∨ q0 = 22 ∨ q0 = 23) (h : tp_E 43 12 [.ref q0, .null, .null, .int 0] [] (tp_set (tp_set σ q0 1 a1) q0 2 a2) post) : tp_E 43 0 [.ref q0, .int a1, .int a2, .null] [] σ post := by
  rcases hq0 with rfl | rfl | rfl | rfl
  · exact tp_E_step (Exists.intro [.ref 20, .null, .null, .int 0] (And.intro (And.intro (Or.inr rfl) (And.intro (Or.inl rfl) (And.intro (Or.inl rfl) (And.intro (Or.inr rfl) (trivial))))) h))
  · exact tp_E_step (Exists.intro [.ref 21, .null, .null, .int 0] (And.intro (And.intro (Or.inr rfl) (And.intro (Or.inl rfl) (And.intro (Or.inl rfl) (And.intro (Or.inr rfl) (trivial))))) h))
  · exact tp_E_step (Exists.intro [.ref 22, .null, .null, .int 0] (And.intro (And.intro (Or.inr rfl) (And.intro (Or.inl rfl) (And.intro (Or.inl rfl) (And.intro (Or.inr rfl) (trivial))))) h))
  · exact tp_E_step (Exists.intro [.ref 23, .null, .null, .int 0] (And.intro (And.intro (Or.inr rfl) (And.intro (Or.inl rfl) (And.intro (Or.inl rfl) (And.intro (Or.inr rfl) (trivial))))) h))
/-- X5_renew (II)V, 12 -/
theorem sg_43_12 {post : Int32 → tp_St → Prop} {σ : tp_St} (q0 : Nat) (a3 : Int32) (hq0 : q0 = 20 ∨ q0 = 21 ∨ q0 = 22 ∨ q0 = 23) (h : (64 ≤ a3 →
post 0 σ) ∧ (¬ 64 ≤ a3 →
vp_in a3 64 ∧
tp_E 43 12 [.ref q0, .null, .null, .int (a3 + 1)] [] (tp_set σ (tp_rr σ q0 0) (a3).toNatClampNeg 0) post)) : tp_E 43 12 [.ref q0, .null, .null, .int a3] [] σ post := by
  rcases hq0 with rfl | rfl | rfl | rfl
  · exact tp_E_step (And.intro (fun c1 => Exists.intro _ (And.intro (tp_wk_rf _) (tp_E_step ((h.1 c1))))) (fun c1 => And.intro (h.2 c1).1 (Exists.intro [.ref 20, .null, .null, .int (a3 + 1)] (And.intro (And.intro (Or.inr rfl) (And.intro (Or.inr rfl) (And.intro (Or.inr rfl) (And.intro (Or.inr rfl) (trivial))))) (h.2 c1).2))))
  · exact tp_E_step (And.intro (fun c1 => Exists.intro _ (And.intro (tp_wk_rf _) (tp_E_step ((h.1 c1))))) (fun c1 => And.intro (h.2 c1).1 (Exists.intro [.ref 21, .null, .null, .int (a3 + 1)] (And.intro (And.intro (Or.inr rfl) (And.intro (Or.inr rfl) (And.intro (Or.inr rfl) (And.intro (Or.inr rfl) (trivial))))) (h.2 c1).2))))
  · exact tp_E_step (And.intro (fun c1 => Exists.intro _ (And.intro (tp_wk_rf _) (tp_E_step ((h.1 c1))))) (fun c1 => And.intro (h.2 c1).1 (Exists.intro [.ref 22, .null, .null, .int (a3 + 1)] (And.intro (And.intro (Or.inr rfl) (And.intro (Or.inr rfl) (And.intro (Or.inr rfl) (And.intro (Or.inr rfl) (trivial))))) (h.2 c1).2))))
  · exact tp_E_step (And.intro (fun c1 => Exists.intro _ (And.intro (tp_wk_rf _) (tp_E_step ((h.1 c1))))) (fun c1 => And.intro (h.2 c1).1 (Exists.intro [.ref 23, .null, .null, .int (a3 + 1)] (And.intro (And.intro (Or.inr rfl) (And.intro (Or.inr rfl) (And.intro (Or.inr rfl) (And.intro (Or.inr rfl) (trivial))))) (h.2 c1).2))))
/-- X5_write (II)V, 0 -/
theorem sg_44_0 {post : Int32 → tp_St → Prop} {σ : tp_St} (q0 : Nat) (a1 : Int32) (a2 : Int32) (hq0 : q0 = 20 ∨ q0 = 21 ∨ q0 = 22 ∨ q0 = 23) (h : tp_E 42 0 [.ref q0, .int a1] [] σ (fun r1 σ1 =>
(r1 = 0 →
post 0 σ1) ∧ (¬ r1 = 0 →
((σ1.1 q0 1).toInt = 0 →
vp_in a1 64 ∧
post 0 (tp_set σ1 (tp_rr σ1 q0 0) (a1).toNatClampNeg (a2).toInt8.toInt32)) ∧ (¬ (σ1.1 q0 1).toInt = 0 →
((σ1.1 q0 1).toInt = 1 →
vp_in a1 64 ∧
post 0 (tp_set σ1 (tp_rr σ1 q0 0) (a1).toNatClampNeg (a2).toInt16.toInt32)) ∧ (¬ (σ1.1 q0 1).toInt = 1 →
vp_in a1 64 ∧
post 0 (tp_set σ1 (tp_rr σ1 q0 0) (a1).toNatClampNeg a2)))))) : tp_E 44 0 [.ref q0, .int a1, .int a2] [] σ post := by
  rcases hq0 with rfl | rfl | rfl | rfl
  · exact tp_E_step (tp_Em h (fun r1 σ1 h1 => And.intro (fun c2 => (h1.1 c2)) (fun c2 => Exists.intro _ (And.intro (tp_wk_rf _) (tp_E_step (And.intro (fun c3 => Exists.intro _ (And.intro (tp_wk_rf _) (tp_E_step (And.intro ((h1.2 c2).1 c3).1 (Exists.intro _ (And.intro (tp_wk_rf _) (tp_E_step (((h1.2 c2).1 c3).2)))))))) (fun c3 => And.intro (fun c4 => Exists.intro _ (And.intro (tp_wk_rf _) (tp_E_step (And.intro (((h1.2 c2).2 c3).1 c4).1 (Exists.intro _ (And.intro (tp_wk_rf _) (tp_E_step ((((h1.2 c2).2 c3).1 c4).2)))))))) (fun c4 => Exists.intro _ (And.intro (tp_wk_rf _) (tp_E_step (And.intro (((h1.2 c2).2 c3).2 c4).1 (Exists.intro _ (And.intro (tp_wk_rf _) (tp_E_step ((((h1.2 c2).2 c3).2 c4).2)))))))))))))))
  · exact tp_E_step (tp_Em h (fun r1 σ1 h1 => And.intro (fun c2 => (h1.1 c2)) (fun c2 => Exists.intro _ (And.intro (tp_wk_rf _) (tp_E_step (And.intro (fun c3 => Exists.intro _ (And.intro (tp_wk_rf _) (tp_E_step (And.intro ((h1.2 c2).1 c3).1 (Exists.intro _ (And.intro (tp_wk_rf _) (tp_E_step (((h1.2 c2).1 c3).2)))))))) (fun c3 => And.intro (fun c4 => Exists.intro _ (And.intro (tp_wk_rf _) (tp_E_step (And.intro (((h1.2 c2).2 c3).1 c4).1 (Exists.intro _ (And.intro (tp_wk_rf _) (tp_E_step ((((h1.2 c2).2 c3).1 c4).2)))))))) (fun c4 => Exists.intro _ (And.intro (tp_wk_rf _) (tp_E_step (And.intro (((h1.2 c2).2 c3).2 c4).1 (Exists.intro _ (And.intro (tp_wk_rf _) (tp_E_step ((((h1.2 c2).2 c3).2 c4).2)))))))))))))))
  · exact tp_E_step (tp_Em h (fun r1 σ1 h1 => And.intro (fun c2 => (h1.1 c2)) (fun c2 => Exists.intro _ (And.intro (tp_wk_rf _) (tp_E_step (And.intro (fun c3 => Exists.intro _ (And.intro (tp_wk_rf _) (tp_E_step (And.intro ((h1.2 c2).1 c3).1 (Exists.intro _ (And.intro (tp_wk_rf _) (tp_E_step (((h1.2 c2).1 c3).2)))))))) (fun c3 => And.intro (fun c4 => Exists.intro _ (And.intro (tp_wk_rf _) (tp_E_step (And.intro (((h1.2 c2).2 c3).1 c4).1 (Exists.intro _ (And.intro (tp_wk_rf _) (tp_E_step ((((h1.2 c2).2 c3).1 c4).2)))))))) (fun c4 => Exists.intro _ (And.intro (tp_wk_rf _) (tp_E_step (And.intro (((h1.2 c2).2 c3).2 c4).1 (Exists.intro _ (And.intro (tp_wk_rf _) (tp_E_step ((((h1.2 c2).2 c3).2 c4).2)))))))))))))))
  · exact tp_E_step (tp_Em h (fun r1 σ1 h1 => And.intro (fun c2 => (h1.1 c2)) (fun c2 => Exists.intro _ (And.intro (tp_wk_rf _) (tp_E_step (And.intro (fun c3 => Exists.intro _ (And.intro (tp_wk_rf _) (tp_E_step (And.intro ((h1.2 c2).1 c3).1 (Exists.intro _ (And.intro (tp_wk_rf _) (tp_E_step (((h1.2 c2).1 c3).2)))))))) (fun c3 => And.intro (fun c4 => Exists.intro _ (And.intro (tp_wk_rf _) (tp_E_step (And.intro (((h1.2 c2).2 c3).1 c4).1 (Exists.intro _ (And.intro (tp_wk_rf _) (tp_E_step ((((h1.2 c2).2 c3).1 c4).2)))))))) (fun c4 => Exists.intro _ (And.intro (tp_wk_rf _) (tp_E_step (And.intro (((h1.2 c2).2 c3).2 c4).1 (Exists.intro _ (And.intro (tp_wk_rf _) (tp_E_step ((((h1.2 c2).2 c3).2 c4).2)))))))))))))))
/-- X6_append (J)I, 0 -/
theorem sg_45_0 {post : Int32 → tp_St → Prop} {σ : tp_St} (a1 : Int64)  (h : (((σ.1 19 1) + 8) ≤ 200 →
tp_E 45 19 [.ref 19, .long a1, .null, .int 56] [] σ post) ∧ (¬ ((σ.1 19 1) + 8) ≤ 200 →
post (-3) σ)) : tp_E 45 0 [.ref 19, .long a1, .null, .null] [] σ post := tp_E_step (And.intro (fun c1 => Exists.intro _ (And.intro (tp_wk_rf _) (tp_E_step (Exists.intro [.ref 19, .long a1, .null, .int 56] (And.intro (And.intro (Or.inr rfl) (And.intro (Or.inr rfl) (And.intro (Or.inr rfl) (And.intro (Or.inr rfl) (trivial))))) (h.1 c1)))))) (fun c1 => And.intro rfl (h.2 c1)))
/-- X6_append (J)I, 19 -/
theorem sg_45_19 {post : Int32 → tp_St → Prop} {σ : tp_St} (a1 : Int64) (a3 : Int32)  (h : (a3 < 0 →
post (σ.1 19 1) σ) ∧ (¬ a3 < 0 →
vp_in (σ.1 19 1) 200 ∧
tp_E 45 19 [.ref 19, .long a1, .null, .int (a3 + (-8))] [] (tp_set (tp_set σ 27 ((σ.1 19 1)).toNatClampNeg (vp_nar .byte ((((a1).toUInt64 >>> ((a3).toInt64.toUInt64 &&& Int64.toUInt64 63)).toInt64).toInt32).toInt8.toInt32)) 19 1 ((σ.1 19 1) + 1)) post)) : tp_E 45 19 [.ref 19, .long a1, .null, .int a3] [] σ post := tp_E_step (And.intro (fun c1 => Exists.intro _ (And.intro (tp_wk_rf _) (tp_E_step (And.intro rfl (h.1 c1))))) (fun c1 => And.intro (h.2 c1).1 (Exists.intro [.ref 19, .long a1, .null, .int (a3 + (-8))] (And.intro (And.intro (Or.inr rfl) (And.intro (Or.inr rfl) (And.intro (Or.inr rfl) (And.intro (Or.inr rfl) (trivial))))) (h.2 c1).2))))
/-- X6_rewind ()V, 0 -/
theorem sg_46_0 {post : Int32 → tp_St → Prop} {σ : tp_St}   (h : post 0 (tp_set σ 19 4 0)) : tp_E 46 0 [.ref 19] [] σ post := tp_E_step (h)
/-- X6_readToken ()I, 0 -/
theorem sg_47_0 {post : Int32 → tp_St → Prop} {σ : tp_St}   (h : ((σ.1 19 1) ≤ (σ.1 19 4) →
((σ.1 19 4) < (σ.1 19 1) →
tp_E 50 0 [.ref 19, .int (σ.1 19 4)] [] (tp_set σ 19 2 (σ.1 19 4)) (fun r1 σ1 =>
(r1 = 0 →
tp_E 51 0 [.ref 19, .int (σ1.1 19 4)] [] σ1 (fun r3 σ3 =>
(r3 = 0 →
vp_in (σ3.1 19 4) 200 ∧
((σ3.1 27 ((σ3.1 19 4)).toNatClampNeg) = 59 →
post 4 (tp_set σ3 19 4 ((σ3.1 19 4) + 1))) ∧ (¬ (σ3.1 27 ((σ3.1 19 4)).toNatClampNeg) = 59 →
post 0 (tp_set σ3 19 4 ((σ3.1 19 4) + 1)))) ∧ (¬ r3 = 0 →
tp_E 49 0 [.ref 19] [] σ3 (fun r4 σ4 =>
post r4 σ4)))) ∧ (¬ r1 = 0 →
tp_E 48 0 [.ref 19] [] σ1 (fun r2 σ2 =>
post r2 σ2)))) ∧ (¬ (σ.1 19 4) < (σ.1 19 1) →
post 1 (tp_set σ 19 2 (σ.1 19 4)))) ∧ (¬ (σ.1 19 1) ≤ (σ.1 19 4) →
vp_in (σ.1 19 4) 200 ∧
((σ.1 27 ((σ.1 19 4)).toNatClampNeg) = 32 →
tp_E 47 0 [.ref 19] [] (tp_set σ 19 4 ((σ.1 19 4) + 1)) post) ∧ (¬ (σ.1 27 ((σ.1 19 4)).toNatClampNeg) = 32 →
((σ.1 19 4) < (σ.1 19 1) →
tp_E 50 0 [.ref 19, .int (σ.1 19 4)] [] (tp_set σ 19 2 (σ.1 19 4)) (fun r5 σ5 =>
(r5 = 0 →
tp_E 51 0 [.ref 19, .int (σ5.1 19 4)] [] σ5 (fun r7 σ7 =>
(r7 = 0 →
vp_in (σ7.1 19 4) 200 ∧
((σ7.1 27 ((σ7.1 19 4)).toNatClampNeg) = 59 →
post 4 (tp_set σ7 19 4 ((σ7.1 19 4) + 1))) ∧ (¬ (σ7.1 27 ((σ7.1 19 4)).toNatClampNeg) = 59 →
post 0 (tp_set σ7 19 4 ((σ7.1 19 4) + 1)))) ∧ (¬ r7 = 0 →
tp_E 49 0 [.ref 19] [] σ7 (fun r8 σ8 =>
post r8 σ8)))) ∧ (¬ r5 = 0 →
tp_E 48 0 [.ref 19] [] σ5 (fun r6 σ6 =>
post r6 σ6)))) ∧ (¬ (σ.1 19 4) < (σ.1 19 1) →
post 1 (tp_set σ 19 2 (σ.1 19 4)))))) : tp_E 47 0 [.ref 19] [] σ post := tp_E_step (And.intro (fun c1 => Exists.intro _ (And.intro (tp_wk_rf _) (tp_E_step (And.intro (fun c2 => Exists.intro _ (And.intro (tp_wk_rf _) (tp_E_step (tp_Em ((h.1 c1).1 c2) (fun r3 σ3 h3 => And.intro (fun c5 => Exists.intro _ (And.intro (tp_wk_rf _) (tp_E_step (tp_Em (h3.1 c5) (fun r6 σ6 h6 => And.intro (fun c8 => Exists.intro _ (And.intro (tp_wk_rf _) (tp_E_step (And.intro (h6.1 c8).1 (And.intro (fun c9 => Exists.intro _ (And.intro (tp_wk_rf _) (tp_E_step (And.intro rfl ((h6.1 c8).2.1 c9))))) (fun c9 => Exists.intro _ (And.intro (tp_wk_rf _) (tp_E_step (Exists.intro _ (And.intro (tp_wk_rf _) (tp_E_step (And.intro rfl ((h6.1 c8).2.2 c9))))))))))))) (fun c8 => tp_Em (h6.2 c8) (fun r7 σ7 h7 => And.intro rfl h7))))))) (fun c5 => tp_Em (h3.2 c5) (fun r4 σ4 h4 => And.intro rfl h4))))))) (fun c2 => And.intro rfl ((h.1 c1).2 c2)))))) (fun c1 => And.intro (h.2 c1).1 (And.intro (fun c10 => Exists.intro [.ref 19] (And.intro (And.intro (Or.inr rfl) (trivial)) ((h.2 c1).2.1 c10))) (fun c10 => Exists.intro _ (And.intro (tp_wk_rf _) (tp_E_step (And.intro (fun c11 => Exists.intro _ (And.intro (tp_wk_rf _) (tp_E_step (tp_Em (((h.2 c1).2.2 c10).1 c11) (fun r12 σ12 h12 => And.intro (fun c14 => Exists.intro _ (And.intro (tp_wk_rf _) (tp_E_step (tp_Em (h12.1 c14) (fun r15 σ15 h15 => And.intro (fun c17 => Exists.intro _ (And.intro (tp_wk_rf _) (tp_E_step (And.intro (h15.1 c17).1 (And.intro (fun c18 => Exists.intro _ (And.intro (tp_wk_rf _) (tp_E_step (And.intro rfl ((h15.1 c17).2.1 c18))))) (fun c18 => Exists.intro _ (And.intro (tp_wk_rf _) (tp_E_step (Exists.intro _ (And.intro (tp_wk_rf _) (tp_E_step (And.intro rfl ((h15.1 c17).2.2 c18))))))))))))) (fun c17 => tp_Em (h15.2 c17) (fun r16 σ16 h16 => And.intro rfl h16))))))) (fun c14 => tp_Em (h12.2 c14) (fun r13 σ13 h13 => And.intro rfl h13))))))) (fun c11 => And.intro rfl (((h.2 c1).2.2 c10).2 c11)))))))))
/-- X6_readName ()I, 0 -/
theorem sg_48_0 {post : Int32 → tp_St → Prop} {σ : tp_St}   (h : ((σ.1 19 1) ≤ (σ.1 19 4) →
tp_E 52 0 [.ref 19, .ref 94, .null] [] σ (fun r2 σ2 =>
(r2 = 0 →
tp_E 52 0 [.ref 19, .ref 95, .null] [] σ2 (fun r3 σ3 =>
(r3 = 0 →
tp_E 52 0 [.ref 19, .ref 96, .null] [] (tp_set σ3 19 3 2) (fun r4 σ4 =>
(r4 = 0 →
post 0 σ4) ∧ (¬ r4 = 0 →
post 2 σ4))) ∧ (¬ r3 = 0 →
post 2 (tp_set σ3 19 3 1)))) ∧ (¬ r2 = 0 →
post 2 (tp_set σ2 19 3 0)))) ∧ (¬ (σ.1 19 1) ≤ (σ.1 19 4) →
tp_E 50 0 [.ref 19, .int (σ.1 19 4)] [] σ (fun r1 σ1 =>
(r1 = 0 →
tp_E 52 0 [.ref 19, .ref 94, .null] [] σ1 (fun r5 σ5 =>
(r5 = 0 →
tp_E 52 0 [.ref 19, .ref 95, .null] [] σ5 (fun r6 σ6 =>
(r6 = 0 →
tp_E 52 0 [.ref 19, .ref 96, .null] [] (tp_set σ6 19 3 2) (fun r7 σ7 =>
(r7 = 0 →
post 0 σ7) ∧ (¬ r7 = 0 →
post 2 σ7))) ∧ (¬ r6 = 0 →
post 2 (tp_set σ6 19 3 1)))) ∧ (¬ r5 = 0 →
post 2 (tp_set σ5 19 3 0)))) ∧ (¬ r1 = 0 →
tp_E 48 0 [.ref 19] [] (tp_set σ1 19 4 ((σ1.1 19 4) + 1)) post)))) : tp_E 48 0 [.ref 19] [] σ post := tp_E_step (And.intro (fun c2 => Exists.intro _ (And.intro (tp_wk_rf _) (tp_E_step (tp_Em (h.1 c2) (fun r3 σ3 h3 => And.intro (fun c4 => Exists.intro _ (And.intro (tp_wk_rf _) (tp_E_step (tp_Em (h3.1 c4) (fun r5 σ5 h5 => And.intro (fun c6 => Exists.intro _ (And.intro (tp_wk_rf _) (tp_E_step (tp_Em (h5.1 c6) (fun r7 σ7 h7 => And.intro (fun c8 => Exists.intro _ (And.intro (tp_wk_rf _) (tp_E_step (Exists.intro _ (And.intro (tp_wk_rf _) (tp_E_step (And.intro rfl (h7.1 c8)))))))) (fun c8 => Exists.intro _ (And.intro (tp_wk_rf _) (tp_E_step (And.intro rfl (h7.2 c8)))))))))) (fun c6 => And.intro rfl (h5.2 c6))))))) (fun c4 => And.intro rfl (h3.2 c4))))))) (fun c2 => tp_Em (h.2 c2) (fun r1 σ1 h1 => And.intro (fun c9 => Exists.intro _ (And.intro (tp_wk_rf _) (tp_E_step (tp_Em (h1.1 c9) (fun r10 σ10 h10 => And.intro (fun c11 => Exists.intro _ (And.intro (tp_wk_rf _) (tp_E_step (tp_Em (h10.1 c11) (fun r12 σ12 h12 => And.intro (fun c13 => Exists.intro _ (And.intro (tp_wk_rf _) (tp_E_step (tp_Em (h12.1 c13) (fun r14 σ14 h14 => And.intro (fun c15 => Exists.intro _ (And.intro (tp_wk_rf _) (tp_E_step (Exists.intro _ (And.intro (tp_wk_rf _) (tp_E_step (And.intro rfl (h14.1 c15)))))))) (fun c15 => Exists.intro _ (And.intro (tp_wk_rf _) (tp_E_step (And.intro rfl (h14.2 c15)))))))))) (fun c13 => And.intro rfl (h12.2 c13))))))) (fun c11 => And.intro rfl (h10.2 c11))))))) (fun c9 => Exists.intro [.ref 19] (And.intro (And.intro (Or.inr rfl) (trivial)) (h1.2 c9))))))
/-- X6_readNumber ()I, 0 -/
theorem sg_49_0 {post : Int32 → tp_St → Prop} {σ : tp_St}   (h : tp_E 49 5 [.ref 19] [] (tp_set σ 19 3 0) post) : tp_E 49 0 [.ref 19] [] σ post := tp_E_step (Exists.intro [.ref 19] (And.intro (And.intro (Or.inr rfl) (trivial)) h))
/-- X6_readNumber ()I, 5 -/
theorem sg_49_5 {post : Int32 → tp_St → Prop} {σ : tp_St}   (h : ((σ.1 19 1) ≤ (σ.1 19 4) →
(4 < ((σ.1 19 4) - (σ.1 19 2)) →
post 0 σ) ∧ (¬ 4 < ((σ.1 19 4) - (σ.1 19 2)) →
post 3 σ)) ∧ (¬ (σ.1 19 1) ≤ (σ.1 19 4) →
tp_E 51 0 [.ref 19, .int (σ.1 19 4)] [] σ (fun r1 σ1 =>
(r1 = 0 →
(4 < ((σ1.1 19 4) - (σ1.1 19 2)) →
post 0 σ1) ∧ (¬ 4 < ((σ1.1 19 4) - (σ1.1 19 2)) →
post 3 σ1)) ∧ (¬ r1 = 0 →
(4 ≤ ((σ1.1 19 4) - (σ1.1 19 2)) →
tp_E 49 5 [.ref 19] [] (tp_set σ1 19 4 ((σ1.1 19 4) + 1)) post) ∧ (¬ 4 ≤ ((σ1.1 19 4) - (σ1.1 19 2)) →
vp_in (σ1.1 19 4) 200 ∧
tp_E 49 5 [.ref 19] [] (tp_set (tp_set σ1 19 3 (((σ1.1 19 3) * 10) + ((σ1.1 27 ((σ1.1 19 4)).toNatClampNeg) - 48))) 19 4 ((σ1.1 19 4) + 1)) post))))) : tp_E 49 5 [.ref 19] [] σ post := tp_E_step (And.intro (fun c2 => Exists.intro _ (And.intro (tp_wk_rf _) (tp_E_step (And.intro (fun c3 => Exists.intro _ (And.intro (tp_wk_rf _) (tp_E_step (Exists.intro _ (And.intro (tp_wk_rf _) (tp_E_step (And.intro rfl ((h.1 c2).1 c3)))))))) (fun c3 => Exists.intro _ (And.intro (tp_wk_rf _) (tp_E_step (And.intro rfl ((h.1 c2).2 c3))))))))) (fun c2 => tp_Em (h.2 c2) (fun r1 σ1 h1 => And.intro (fun c4 => Exists.intro _ (And.intro (tp_wk_rf _) (tp_E_step (And.intro (fun c5 => Exists.intro _ (And.intro (tp_wk_rf _) (tp_E_step (Exists.intro _ (And.intro (tp_wk_rf _) (tp_E_step (And.intro rfl ((h1.1 c4).1 c5)))))))) (fun c5 => Exists.intro _ (And.intro (tp_wk_rf _) (tp_E_step (And.intro rfl ((h1.1 c4).2 c5))))))))) (fun c4 => And.intro (fun c6 => Exists.intro _ (And.intro (tp_wk_rf _) (tp_E_step (Exists.intro [.ref 19] (And.intro (And.intro (Or.inr rfl) (trivial)) ((h1.2 c4).1 c6)))))) (fun c6 => And.intro ((h1.2 c4).2 c6).1 (Exists.intro _ (And.intro (tp_wk_rf _) (tp_E_step (Exists.intro [.ref 19] (And.intro (And.intro (Or.inr rfl) (trivial)) ((h1.2 c4).2 c6).2))))))))))
/-- X6_isLetter (I)Z, 0 -/
theorem sg_50_0 {post : Int32 → tp_St → Prop} {σ : tp_St} (a1 : Int32)  (h : vp_in a1 200 ∧
((σ.1 27 (a1).toNatClampNeg) < 97 →
post 0 σ) ∧ (¬ (σ.1 27 (a1).toNatClampNeg) < 97 →
vp_in a1 200 ∧
(122 < (σ.1 27 (a1).toNatClampNeg) →
post 0 σ) ∧ (¬ 122 < (σ.1 27 (a1).toNatClampNeg) →
post 1 σ))) : tp_E 50 0 [.ref 19, .int a1] [] σ post := tp_E_step (And.intro h.1 (And.intro (fun c1 => Exists.intro _ (And.intro (tp_wk_rf _) (tp_E_step (Exists.intro _ (And.intro (tp_wk_rf _) (tp_E_step (And.intro rfl (h.2.1 c1)))))))) (fun c1 => And.intro (h.2.2 c1).1 (And.intro (fun c2 => Exists.intro _ (And.intro (tp_wk_rf _) (tp_E_step (Exists.intro _ (And.intro (tp_wk_rf _) (tp_E_step (And.intro rfl ((h.2.2 c1).2.1 c2)))))))) (fun c2 => Exists.intro _ (And.intro (tp_wk_rf _) (tp_E_step (And.intro rfl ((h.2.2 c1).2.2 c2)))))))))
/-- X6_isFigure (I)Z, 0 -/
theorem sg_51_0 {post : Int32 → tp_St → Prop} {σ : tp_St} (a1 : Int32)  (h : vp_in a1 200 ∧
((σ.1 27 (a1).toNatClampNeg) < 48 →
post 0 σ) ∧ (¬ (σ.1 27 (a1).toNatClampNeg) < 48 →
vp_in a1 200 ∧
(57 < (σ.1 27 (a1).toNatClampNeg) →
post 0 σ) ∧ (¬ 57 < (σ.1 27 (a1).toNatClampNeg) →
post 1 σ))) : tp_E 51 0 [.ref 19, .int a1] [] σ post := tp_E_step (And.intro h.1 (And.intro (fun c1 => Exists.intro _ (And.intro (tp_wk_rf _) (tp_E_step (Exists.intro _ (And.intro (tp_wk_rf _) (tp_E_step (And.intro rfl (h.2.1 c1)))))))) (fun c1 => And.intro (h.2.2 c1).1 (And.intro (fun c2 => Exists.intro _ (And.intro (tp_wk_rf _) (tp_E_step (Exists.intro _ (And.intro (tp_wk_rf _) (tp_E_step (And.intro rfl ((h.2.2 c1).2.1 c2)))))))) (fun c2 => Exists.intro _ (And.intro (tp_wk_rf _) (tp_E_step (And.intro rfl ((h.2.2 c1).2.2 c2)))))))))
/-- X6_isSpelled (Ljava/lang/String;)Z, 0 -/
theorem sg_52_0 {post : Int32 → tp_St → Prop} {σ : tp_St} (q1 : Nat) (hq1 : q1 = 94 ∨ q1 = 95 ∨ q1 = 96) (h : tp_E 149 0 [.ref q1] [] σ (fun r1 σ1 =>
(((σ.1 19 4) - (σ.1 19 2)) = r1 →
tp_E 52 20 [.ref 19, .ref q1, .int 0] [] σ1 post) ∧ (¬ ((σ.1 19 4) - (σ.1 19 2)) = r1 →
post 0 σ1))) : tp_E 52 0 [.ref 19, .ref q1, .null] [] σ post := by
  rcases hq1 with rfl | rfl | rfl
  · exact tp_E_step (tp_Em h (fun r1 σ1 h1 => And.intro (fun c2 => Exists.intro _ (And.intro (tp_wk_rf _) (tp_E_step (Exists.intro [.ref 19, .ref 94, .int 0] (And.intro (And.intro (Or.inr rfl) (And.intro (Or.inr rfl) (And.intro (Or.inr rfl) (trivial)))) (h1.1 c2)))))) (fun c2 => And.intro rfl (h1.2 c2))))
  · exact tp_E_step (tp_Em h (fun r1 σ1 h1 => And.intro (fun c2 => Exists.intro _ (And.intro (tp_wk_rf _) (tp_E_step (Exists.intro [.ref 19, .ref 95, .int 0] (And.intro (And.intro (Or.inr rfl) (And.intro (Or.inr rfl) (And.intro (Or.inr rfl) (trivial)))) (h1.1 c2)))))) (fun c2 => And.intro rfl (h1.2 c2))))
  · exact tp_E_step (tp_Em h (fun r1 σ1 h1 => And.intro (fun c2 => Exists.intro _ (And.intro (tp_wk_rf _) (tp_E_step (Exists.intro [.ref 19, .ref 96, .int 0] (And.intro (And.intro (Or.inr rfl) (And.intro (Or.inr rfl) (And.intro (Or.inr rfl) (trivial)))) (h1.1 c2)))))) (fun c2 => And.intro rfl (h1.2 c2))))
/-- X6_isSpelled (Ljava/lang/String;)Z, 20 -/
theorem sg_52_20 {post : Int32 → tp_St → Prop} {σ : tp_St} (q1 : Nat) (a2 : Int32) (hq1 : q1 = 94 ∨ q1 = 95 ∨ q1 = 96) (h : tp_E 149 0 [.ref q1] [] σ (fun r1 σ1 =>
(r1 ≤ a2 →
post 1 σ1) ∧ (¬ r1 ≤ a2 →
vp_in ((σ1.1 19 2) + a2) 200 ∧
tp_E 150 0 [.ref q1, .int a2] [] σ1 (fun r2 σ2 =>
((σ1.1 27 (((σ1.1 19 2) + a2)).toNatClampNeg) = r2 →
tp_E 52 20 [.ref 19, .ref q1, .int (a2 + 1)] [] σ2 post) ∧ (¬ (σ1.1 27 (((σ1.1 19 2) + a2)).toNatClampNeg) = r2 →
post 0 σ2))))) : tp_E 52 20 [.ref 19, .ref q1, .int a2] [] σ post := by
  rcases hq1 with rfl | rfl | rfl
  · exact tp_E_step (tp_Em h (fun r1 σ1 h1 => And.intro (fun c3 => Exists.intro _ (And.intro (tp_wk_rf _) (tp_E_step (And.intro rfl (h1.1 c3))))) (fun c3 => And.intro (h1.2 c3).1 (tp_Em (h1.2 c3).2 (fun r2 σ2 h2 => And.intro (fun c4 => Exists.intro _ (And.intro (tp_wk_rf _) (tp_E_step (Exists.intro [.ref 19, .ref 94, .int (a2 + 1)] (And.intro (And.intro (Or.inr rfl) (And.intro (Or.inr rfl) (And.intro (Or.inr rfl) (trivial)))) (h2.1 c4)))))) (fun c4 => And.intro rfl (h2.2 c4)))))))
  · exact tp_E_step (tp_Em h (fun r1 σ1 h1 => And.intro (fun c3 => Exists.intro _ (And.intro (tp_wk_rf _) (tp_E_step (And.intro rfl (h1.1 c3))))) (fun c3 => And.intro (h1.2 c3).1 (tp_Em (h1.2 c3).2 (fun r2 σ2 h2 => And.intro (fun c4 => Exists.intro _ (And.intro (tp_wk_rf _) (tp_E_step (Exists.intro [.ref 19, .ref 95, .int (a2 + 1)] (And.intro (And.intro (Or.inr rfl) (And.intro (Or.inr rfl) (And.intro (Or.inr rfl) (trivial)))) (h2.1 c4)))))) (fun c4 => And.intro rfl (h2.2 c4)))))))
  · exact tp_E_step (tp_Em h (fun r1 σ1 h1 => And.intro (fun c3 => Exists.intro _ (And.intro (tp_wk_rf _) (tp_E_step (And.intro rfl (h1.1 c3))))) (fun c3 => And.intro (h1.2 c3).1 (tp_Em (h1.2 c3).2 (fun r2 σ2 h2 => And.intro (fun c4 => Exists.intro _ (And.intro (tp_wk_rf _) (tp_E_step (Exists.intro [.ref 19, .ref 96, .int (a2 + 1)] (And.intro (And.intro (Or.inr rfl) (And.intro (Or.inr rfl) (And.intro (Or.inr rfl) (trivial)))) (h2.1 c4)))))) (fun c4 => And.intro rfl (h2.2 c4)))))))
/-- X7_has (I)Z, 0 -/
theorem sg_53_0 {post : Int32 → tp_St → Prop} {σ : tp_St} (a1 : Int32)  (h : (a1 < 0 →
post 0 σ) ∧ (¬ a1 < 0 →
((σ.1 3 3) ≤ a1 →
post 0 σ) ∧ (¬ (σ.1 3 3) ≤ a1 →
post 1 σ))) : tp_E 53 0 [.ref 3, .int a1] [] σ post := tp_E_step (And.intro (fun c1 => Exists.intro _ (And.intro (tp_wk_rf _) (tp_E_step (Exists.intro _ (And.intro (tp_wk_rf _) (tp_E_step (And.intro rfl (h.1 c1)))))))) (fun c1 => And.intro (fun c2 => Exists.intro _ (And.intro (tp_wk_rf _) (tp_E_step (Exists.intro _ (And.intro (tp_wk_rf _) (tp_E_step (And.intro rfl ((h.2 c1).1 c2)))))))) (fun c2 => Exists.intro _ (And.intro (tp_wk_rf _) (tp_E_step (And.intro rfl ((h.2 c1).2 c2)))))))
/-- X7_add (IZ)I, 0 -/
theorem sg_54_0 {post : Int32 → tp_St → Prop} {σ : tp_St} (a1 : Int32) (a2 : Int32)  (h : ((σ.1 3 3) < 16 →
vp_in (σ.1 3 3) 16 ∧
vp_in (σ.1 3 3) 16 ∧
vp_in (σ.1 3 3) 16 ∧
post (σ.1 3 3) (tp_set (tp_set (tp_set (tp_set σ 12 ((σ.1 3 3)).toNatClampNeg a1) 13 ((σ.1 3 3)).toNatClampNeg (vp_nar .boolean a2)) 14 ((σ.1 3 3)).toNatClampNeg (vp_nar .boolean 1)) 3 3 ((σ.1 3 3) + 1))) ∧ (¬ (σ.1 3 3) < 16 →
post (-3) σ)) : tp_E 54 0 [.ref 3, .int a1, .int a2] [] σ post := tp_E_step (And.intro (fun c1 => Exists.intro _ (And.intro (tp_wk_rf _) (tp_E_step (And.intro (h.1 c1).1 (And.intro (h.1 c1).2.1 (And.intro (h.1 c1).2.2.1 (And.intro rfl (h.1 c1).2.2.2))))))) (fun c1 => And.intro rfl (h.2 c1)))
/-- X7_hasOpen (I)Z, 0 -/
theorem sg_55_0 {post : Int32 → tp_St → Prop} {σ : tp_St} (a1 : Int32)  (h : tp_E 55 2 [.ref 3, .int a1, .int 0] [] σ post) : tp_E 55 0 [.ref 3, .int a1, .null] [] σ post := tp_E_step (Exists.intro [.ref 3, .int a1, .int 0] (And.intro (And.intro (Or.inr rfl) (And.intro (Or.inr rfl) (And.intro (Or.inr rfl) (trivial)))) h))
/-- X7_hasOpen (I)Z, 2 -/
theorem sg_55_2 {post : Int32 → tp_St → Prop} {σ : tp_St} (a1 : Int32) (a2 : Int32)  (h : ((σ.1 3 3) ≤ a2 →
post 0 σ) ∧ (¬ (σ.1 3 3) ≤ a2 →
vp_in a2 16 ∧
((σ.1 14 (a2).toNatClampNeg) = 0 →
tp_E 55 2 [.ref 3, .int a1, .int (a2 + 1)] [] σ post) ∧ (¬ (σ.1 14 (a2).toNatClampNeg) = 0 →
vp_in a2 16 ∧
((σ.1 12 (a2).toNatClampNeg) = a1 →
post 1 σ) ∧ (¬ (σ.1 12 (a2).toNatClampNeg) = a1 →
tp_E 55 2 [.ref 3, .int a1, .int (a2 + 1)] [] σ post)))) : tp_E 55 2 [.ref 3, .int a1, .int a2] [] σ post := tp_E_step (And.intro (fun c1 => Exists.intro _ (And.intro (tp_wk_rf _) (tp_E_step (And.intro rfl (h.1 c1))))) (fun c1 => And.intro (h.2 c1).1 (And.intro (fun c2 => Exists.intro _ (And.intro (tp_wk_rf _) (tp_E_step (Exists.intro [.ref 3, .int a1, .int (a2 + 1)] (And.intro (And.intro (Or.inr rfl) (And.intro (Or.inr rfl) (And.intro (Or.inr rfl) (trivial)))) ((h.2 c1).2.1 c2)))))) (fun c2 => And.intro ((h.2 c1).2.2 c2).1 (And.intro (fun c3 => And.intro rfl (((h.2 c1).2.2 c2).2.1 c3)) (fun c3 => Exists.intro _ (And.intro (tp_wk_rf _) (tp_E_step (Exists.intro [.ref 3, .int a1, .int (a2 + 1)] (And.intro (And.intro (Or.inr rfl) (And.intro (Or.inr rfl) (And.intro (Or.inr rfl) (trivial)))) (((h.2 c1).2.2 c2).2.2 c3)))))))))))
/-- X7_howManyOpen ()I, 0 -/
theorem sg_56_0 {post : Int32 → tp_St → Prop} {σ : tp_St}   (h : tp_E 56 4 [.ref 3, .int 0, .int 0] [] σ post) : tp_E 56 0 [.ref 3, .null, .null] [] σ post := tp_E_step (Exists.intro [.ref 3, .int 0, .int 0] (And.intro (And.intro (Or.inr rfl) (And.intro (Or.inr rfl) (And.intro (Or.inr rfl) (trivial)))) h))
/-- X7_howManyOpen ()I, 4 -/
theorem sg_56_4 {post : Int32 → tp_St → Prop} {σ : tp_St} (a1 : Int32) (a2 : Int32)  (h : ((σ.1 3 3) ≤ a2 →
post a1 σ) ∧ (¬ (σ.1 3 3) ≤ a2 →
vp_in a2 16 ∧
((σ.1 14 (a2).toNatClampNeg) = 0 →
tp_E 56 4 [.ref 3, .int a1, .int (a2 + 1)] [] σ post) ∧ (¬ (σ.1 14 (a2).toNatClampNeg) = 0 →
tp_E 56 4 [.ref 3, .int (a1 + 1), .int (a2 + 1)] [] σ post))) : tp_E 56 4 [.ref 3, .int a1, .int a2] [] σ post := tp_E_step (And.intro (fun c1 => Exists.intro _ (And.intro (tp_wk_rf _) (tp_E_step (And.intro rfl (h.1 c1))))) (fun c1 => And.intro (h.2 c1).1 (And.intro (fun c2 => Exists.intro _ (And.intro (tp_wk_rf _) (tp_E_step (Exists.intro [.ref 3, .int a1, .int (a2 + 1)] (And.intro (And.intro (Or.inr rfl) (And.intro (Or.inr rfl) (And.intro (Or.inr rfl) (trivial)))) ((h.2 c1).2.1 c2)))))) (fun c2 => Exists.intro _ (And.intro (tp_wk_rf _) (tp_E_step (Exists.intro [.ref 3, .int (a1 + 1), .int (a2 + 1)] (And.intro (And.intro (Or.inr rfl) (And.intro (Or.inr rfl) (And.intro (Or.inr rfl) (trivial)))) ((h.2 c1).2.2 c2)))))))))
/-- X7_stepOfStage (II)I, 0 -/
theorem sg_57_0 {post : Int32 → tp_St → Prop} {σ : tp_St} (a1 : Int32) (a2 : Int32)  (h : vp_in a1 16 ∧
((σ.1 13 (a1).toNatClampNeg) = 0 →
post (9 - a2) σ) ∧ (¬ (σ.1 13 (a1).toNatClampNeg) = 0 →
post a2 σ)) : tp_E 57 0 [.ref 3, .int a1, .int a2] [] σ post := tp_E_step (And.intro h.1 (And.intro (fun c1 => Exists.intro _ (And.intro (tp_wk_rf _) (tp_E_step (Exists.intro _ (And.intro (tp_wk_rf _) (tp_E_step (And.intro rfl (h.2.1 c1)))))))) (fun c1 => Exists.intro _ (And.intro (tp_wk_rf _) (tp_E_step (And.intro rfl (h.2.2 c1)))))))
/-- X7_stepOfSection (II)I, 0 -/
theorem sg_58_0 {post : Int32 → tp_St → Prop} {σ : tp_St} (a1 : Int32) (a2 : Int32)  (h : vp_in a1 16 ∧
((σ.1 13 (a1).toNatClampNeg) = 0 →
post (8 - a2) σ) ∧ (¬ (σ.1 13 (a1).toNatClampNeg) = 0 →
post a2 σ)) : tp_E 58 0 [.ref 3, .int a1, .int a2] [] σ post := tp_E_step (And.intro h.1 (And.intro (fun c1 => Exists.intro _ (And.intro (tp_wk_rf _) (tp_E_step (Exists.intro _ (And.intro (tp_wk_rf _) (tp_E_step (And.intro rfl (h.2.1 c1)))))))) (fun c1 => Exists.intro _ (And.intro (tp_wk_rf _) (tp_E_step (And.intro rfl (h.2.2 c1)))))))
/-- X8_has (I)Z, 0 -/
theorem sg_59_0 {post : Int32 → tp_St → Prop} {σ : tp_St} (a1 : Int32)  (h : (a1 < 0 →
post 0 σ) ∧ (¬ a1 < 0 →
((σ.1 1 2) ≤ a1 →
post 0 σ) ∧ (¬ (σ.1 1 2) ≤ a1 →
post 1 σ))) : tp_E 59 0 [.ref 1, .int a1] [] σ post := tp_E_step (And.intro (fun c1 => Exists.intro _ (And.intro (tp_wk_rf _) (tp_E_step (Exists.intro _ (And.intro (tp_wk_rf _) (tp_E_step (And.intro rfl (h.1 c1)))))))) (fun c1 => And.intro (fun c2 => Exists.intro _ (And.intro (tp_wk_rf _) (tp_E_step (Exists.intro _ (And.intro (tp_wk_rf _) (tp_E_step (And.intro rfl ((h.2 c1).1 c2)))))))) (fun c2 => Exists.intro _ (And.intro (tp_wk_rf _) (tp_E_step (And.intro rfl ((h.2 c1).2 c2)))))))
/-- X8_add (II)I, 0 -/
theorem sg_60_0 {post : Int32 → tp_St → Prop} {σ : tp_St} (a1 : Int32) (a2 : Int32)  (h : ((σ.1 1 2) < 5 →
vp_in (σ.1 1 2) 5 ∧
vp_in (σ.1 1 2) 5 ∧
post (σ.1 1 2) (tp_set (tp_set (tp_set σ 8 ((σ.1 1 2)).toNatClampNeg a1) 9 ((σ.1 1 2)).toNatClampNeg a2) 1 2 ((σ.1 1 2) + 1))) ∧ (¬ (σ.1 1 2) < 5 →
post (-3) σ)) : tp_E 60 0 [.ref 1, .int a1, .int a2] [] σ post := tp_E_step (And.intro (fun c1 => Exists.intro _ (And.intro (tp_wk_rf _) (tp_E_step (And.intro (h.1 c1).1 (And.intro (h.1 c1).2.1 (And.intro rfl (h.1 c1).2.2)))))) (fun c1 => And.intro rfl (h.2 c1)))
/-- X9_type (II)I, 0 -/
theorem sg_61_0 {post : Int32 → tp_St → Prop} {σ : tp_St} (a1 : Int32) (a2 : Int32)  (h : tp_E 91 0 [.int a1, .int 1, .int 60] [] σ (fun r1 σ1 =>
(r1 = 0 →
tp_E 91 0 [.int a2, .int 1, .int 9] [] σ1 (fun r2 σ2 =>
(r2 = 0 →
tp_E 60 0 [.ref 1, .int a1, .int a2] [] σ2 (fun r3 σ3 =>
post r3 σ3)) ∧ (¬ r2 = 0 →
post (-1) σ2))) ∧ (¬ r1 = 0 →
post (-1) σ1))) : tp_E 61 0 [.ref 0, .int a1, .int a2] [] σ post := tp_E_step (tp_Em h (fun r1 σ1 h1 => And.intro (fun c3 => tp_Em (h1.1 c3) (fun r2 σ2 h2 => And.intro (fun c4 => Exists.intro _ (And.intro (tp_wk_rf _) (tp_E_step (tp_Em (h2.1 c4) (fun r5 σ5 h5 => And.intro rfl h5))))) (fun c4 => Exists.intro _ (And.intro (tp_wk_rf _) (tp_E_step (And.intro rfl (h2.2 c4))))))) (fun c3 => Exists.intro _ (And.intro (tp_wk_rf _) (tp_E_step (And.intro rfl (h1.2 c3)))))))
/-- X9_issue (IIII)I, 0 -/
theorem sg_62_0 {post : Int32 → tp_St → Prop} {σ : tp_St} (a1 : Int32) (a2 : Int32) (a3 : Int32) (a4 : Int32)  (h : tp_E 92 0 [.ref 0, .int a1, .int a2] [] σ (fun r1 σ1 =>
(r1 = 0 →
post (-1) σ1) ∧ (¬ r1 = 0 →
tp_E 91 0 [.int a3, .int 0, .int 100000] [] σ1 (fun r2 σ2 =>
(r2 = 0 →
tp_E 91 0 [.int a4, .int 0, .int 1000] [] σ2 (fun r3 σ3 =>
(r3 = 0 →
tp_E 34 0 [.ref 4, .int a2, .int a3, .int (a3 + a4), .null] [] σ3 (fun r4 σ4 =>
(r4 = 0 →
tp_E 17 0 [.ref 2, .int a1, .int a2, .int a3, .int (a3 + a4), .null, .null] [] σ4 (fun r5 σ5 =>
(r5 = 0 →
tp_E 14 0 [.ref 2, .int a1, .int a2] [] σ5 (fun r6 σ6 =>
tp_E 15 0 [.ref 2, .int a1, .int a2, .int a3, .int (a3 + a4)] [] σ6 (fun r7 σ7 =>
post r6 σ7))) ∧ (¬ r5 = 0 →
post (-2) σ5))) ∧ (¬ r4 = 0 →
post (-2) σ4))) ∧ (¬ r3 = 0 →
post (-1) σ3))) ∧ (¬ r2 = 0 →
post (-1) σ2))))) : tp_E 62 0 [.ref 0, .int a1, .int a2, .int a3, .int a4, .null] [] σ post := tp_E_step (tp_Em h (fun r1 σ1 h1 => And.intro (fun c4 => Exists.intro _ (And.intro (tp_wk_rf _) (tp_E_step (And.intro rfl (h1.1 c4))))) (fun c4 => tp_Em (h1.2 c4) (fun r2 σ2 h2 => And.intro (fun c5 => tp_Em (h2.1 c5) (fun r3 σ3 h3 => And.intro (fun c6 => Exists.intro _ (And.intro (tp_wk_rf _) (tp_E_step (tp_Em (h3.1 c6) (fun r7 σ7 h7 => And.intro (fun c9 => tp_Em (h7.1 c9) (fun r8 σ8 h8 => And.intro (fun c10 => Exists.intro _ (And.intro (tp_wk_rf _) (tp_E_step (tp_Em (h8.1 c10) (fun r11 σ11 h11 => tp_Em h11 (fun r12 σ12 h12 => And.intro rfl h12)))))) (fun c10 => Exists.intro _ (And.intro (tp_wk_rf _) (tp_E_step (And.intro rfl (h8.2 c10))))))) (fun c9 => Exists.intro _ (And.intro (tp_wk_rf _) (tp_E_step (And.intro rfl (h7.2 c9)))))))))) (fun c6 => Exists.intro _ (And.intro (tp_wk_rf _) (tp_E_step (And.intro rfl (h3.2 c6))))))) (fun c5 => Exists.intro _ (And.intro (tp_wk_rf _) (tp_E_step (And.intro rfl (h2.2 c5)))))))))
/-- X9_pack (III)I, 0 -/
theorem sg_63_0 {post : Int32 → tp_St → Prop} {σ : tp_St} (a1 : Int32) (a2 : Int32) (a3 : Int32)  (h : tp_E 92 0 [.ref 0, .int a1, .int a2] [] σ (fun r1 σ1 =>
(r1 = 0 →
post (-1) σ1) ∧ (¬ r1 = 0 →
tp_E 91 0 [.int a3, .int 0, .int 1] [] σ1 (fun r2 σ2 =>
(r2 = 0 →
tp_E 14 0 [.ref 2, .int a1, .int a2] [] σ2 (fun r3 σ3 =>
(a3 = 1 →
post r3 σ3) ∧ (¬ a3 = 1 →
(r3 = 0 →
post (-4) σ3) ∧ (¬ r3 = 0 →
vp_in a1 6 ∧
vp_in a2 5 ∧
post (σ3.1 (46 + (a1).toNatClampNeg) (a2).toNatClampNeg) σ3)))) ∧ (¬ r2 = 0 →
post (-1) σ2))))) : tp_E 63 0 [.ref 0, .int a1, .int a2, .int a3, .null] [] σ post := tp_E_step (tp_Em h (fun r1 σ1 h1 => And.intro (fun c3 => Exists.intro _ (And.intro (tp_wk_rf _) (tp_E_step (And.intro rfl (h1.1 c3))))) (fun c3 => tp_Em (h1.2 c3) (fun r2 σ2 h2 => And.intro (fun c4 => Exists.intro _ (And.intro (tp_wk_rf _) (tp_E_step (tp_Em (h2.1 c4) (fun r5 σ5 h5 => And.intro (fun c6 => And.intro rfl (h5.1 c6)) (fun c6 => Exists.intro _ (And.intro (tp_wk_rf _) (tp_E_step (And.intro (fun c7 => Exists.intro _ (And.intro (tp_wk_rf _) (tp_E_step (And.intro rfl ((h5.2 c6).1 c7))))) (fun c7 => Exists.intro _ (And.intro (tp_wk_rf _) (tp_E_step (And.intro ((h5.2 c6).2 c7).1 (tp_rw (tp_rk46 ((h5.2 c6).2 c7).1) (And.intro ((h5.2 c6).2 c7).2.1 (Exists.intro _ (And.intro (tp_wk_rf _) (tp_E_step (And.intro rfl ((h5.2 c6).2 c7).2.2))))))))))))))))))) (fun c4 => Exists.intro _ (And.intro (tp_wk_rf _) (tp_E_step (And.intro rfl (h2.2 c4)))))))))
/-- X9_trip (IZ)I, 0 -/
theorem sg_64_0 {post : Int32 → tp_St → Prop} {σ : tp_St} (a1 : Int32) (a2 : Int32)  (h : tp_E 91 0 [.int a1, .int 0, .int 5] [] σ (fun r1 σ1 =>
(r1 = 0 →
tp_E 55 0 [.ref 3, .int a1, .null] [] σ1 (fun r2 σ2 =>
(r2 = 0 →
tp_E 54 0 [.ref 3, .int a1, .int a2] [] σ2 (fun r3 σ3 =>
post r3 σ3)) ∧ (¬ r2 = 0 →
post (-2) σ2))) ∧ (¬ r1 = 0 →
post (-1) σ1))) : tp_E 64 0 [.ref 0, .int a1, .int a2] [] σ post := tp_E_step (tp_Em h (fun r1 σ1 h1 => And.intro (fun c2 => Exists.intro _ (And.intro (tp_wk_rf _) (tp_E_step (tp_Em (h1.1 c2) (fun r3 σ3 h3 => And.intro (fun c4 => Exists.intro _ (And.intro (tp_wk_rf _) (tp_E_step (tp_Em (h3.1 c4) (fun r5 σ5 h5 => Exists.intro _ (And.intro (tp_wk_rf _) (tp_E_step (And.intro rfl h5)))))))) (fun c4 => Exists.intro _ (And.intro (tp_wk_rf _) (tp_E_step (And.intro rfl (h3.2 c4)))))))))) (fun c2 => And.intro rfl (h1.2 c2))))
/-- X9_close (I)I, 0 -/
theorem sg_65_0 {post : Int32 → tp_St → Prop} {σ : tp_St} (a1 : Int32)  (h : tp_E 53 0 [.ref 3, .int a1] [] σ (fun r1 σ1 =>
(r1 = 0 →
post (-1) σ1) ∧ (¬ r1 = 0 →
vp_in a1 16 ∧
((σ1.1 14 (a1).toNatClampNeg) = 0 →
post (-2) σ1) ∧ (¬ (σ1.1 14 (a1).toNatClampNeg) = 0 →
vp_in a1 16 ∧
tp_E 93 0 [.ref 0, .int a1, .null, .null] [] (tp_set σ1 14 (a1).toNatClampNeg (vp_nar .boolean 0)) (fun r2 σ2 =>
post r2 σ2))))) : tp_E 65 0 [.ref 0, .int a1] [] σ post := tp_E_step (tp_Em h (fun r1 σ1 h1 => And.intro (fun c2 => And.intro rfl (h1.1 c2)) (fun c2 => Exists.intro _ (And.intro (tp_wk_rf _) (tp_E_step (And.intro (h1.2 c2).1 (And.intro (fun c3 => And.intro rfl ((h1.2 c2).2.1 c3)) (fun c3 => Exists.intro _ (And.intro (tp_wk_rf _) (tp_E_step (And.intro ((h1.2 c2).2.2 c3).1 (tp_Em ((h1.2 c2).2.2 c3).2 (fun r4 σ4 h4 => And.intro rfl h4)))))))))))))
/-- X9_sell (III)I, 0 -/
theorem sg_66_0 {post : Int32 → tp_St → Prop} {σ : tp_St} (a1 : Int32) (a2 : Int32) (a3 : Int32)  (h : tp_E 53 0 [.ref 3, .int a1] [] σ (fun r1 σ1 =>
(r1 = 0 →
post (-1) σ1) ∧ (¬ r1 = 0 →
tp_E 59 0 [.ref 1, .int a2] [] σ1 (fun r2 σ2 =>
(r2 = 0 →
post (-1) σ2) ∧ (¬ r2 = 0 →
tp_E 91 0 [.int a3, .int 0, .int 9] [] σ2 (fun r3 σ3 =>
(r3 = 0 →
tp_E 57 0 [.ref 3, .int a1, .int a3] [] σ3 (fun r4 σ4 =>
vp_in a1 16 ∧
((σ4.1 14 (a1).toNatClampNeg) = 0 →
post (-2) σ4) ∧ (¬ (σ4.1 14 (a1).toNatClampNeg) = 0 →
tp_E 32 0 [.ref 4, .int a1, .null] [] σ4 (fun r5 σ5 =>
(r4 < r5 →
post (-2) σ5) ∧ (¬ r4 < r5 →
(r4 = 9 →
post (-2) σ5) ∧ (¬ r4 = 9 →
tp_E 30 0 [.ref 4] [] σ5 (fun r6 σ6 =>
(r6 = 0 →
vp_in a1 16 ∧
tp_E 14 0 [.ref 2, .int (σ6.1 12 (a1).toNatClampNeg), .int a2] [] σ6 (fun r7 σ7 =>
(r7 = 0 →
post (-4) σ7) ∧ (¬ r7 = 0 →
tp_E 16 0 [.ref 2, .int (σ6.1 12 (a1).toNatClampNeg), .int a2] [] σ7 (fun r8 σ8 =>
tp_E 31 0 [.ref 4, .int a1, .int a2, .int r4, .int r8] [] σ8 (fun r9 σ9 =>
post r8 σ9))))) ∧ (¬ r6 = 0 →
post (-3) σ6)))))))) ∧ (¬ r3 = 0 →
post (-1) σ3))))))) : tp_E 66 0 [.ref 0, .int a1, .int a2, .int a3, .null, .null, .null] [] σ post := tp_E_step (tp_Em h (fun r1 σ1 h1 => And.intro (fun c4 => Exists.intro _ (And.intro (tp_wk_rf _) (tp_E_step (And.intro rfl (h1.1 c4))))) (fun c4 => tp_Em (h1.2 c4) (fun r2 σ2 h2 => And.intro (fun c5 => Exists.intro _ (And.intro (tp_wk_rf _) (tp_E_step (And.intro rfl (h2.1 c5))))) (fun c5 => tp_Em (h2.2 c5) (fun r3 σ3 h3 => And.intro (fun c6 => Exists.intro _ (And.intro (tp_wk_rf _) (tp_E_step (tp_Em (h3.1 c6) (fun r7 σ7 h7 => And.intro h7.1 (And.intro (fun c9 => Exists.intro _ (And.intro (tp_wk_rf _) (tp_E_step (And.intro rfl (h7.2.1 c9))))) (fun c9 => tp_Em (h7.2.2 c9) (fun r8 σ8 h8 => And.intro (fun c10 => Exists.intro _ (And.intro (tp_wk_rf _) (tp_E_step (And.intro rfl (h8.1 c10))))) (fun c10 => And.intro (fun c11 => Exists.intro _ (And.intro (tp_wk_rf _) (tp_E_step (And.intro rfl ((h8.2 c10).1 c11))))) (fun c11 => Exists.intro _ (And.intro (tp_wk_rf _) (tp_E_step (tp_Em ((h8.2 c10).2 c11) (fun r12 σ12 h12 => And.intro (fun c13 => Exists.intro _ (And.intro (tp_wk_rf _) (tp_E_step (And.intro (h12.1 c13).1 (tp_Em (h12.1 c13).2 (fun r14 σ14 h14 => And.intro (fun c15 => And.intro rfl (h14.1 c15)) (fun c15 => Exists.intro _ (And.intro (tp_wk_rf _) (tp_E_step (tp_Em (h14.2 c15) (fun r16 σ16 h16 => tp_Em h16 (fun r17 σ17 h17 => And.intro rfl h17)))))))))))) (fun c13 => And.intro rfl (h12.2 c13)))))))))))))))) (fun c6 => Exists.intro _ (And.intro (tp_wk_rf _) (tp_E_step (And.intro rfl (h3.2 c6)))))))))))
/-- X9_undo ()I, 0 -/
theorem sg_67_0 {post : Int32 → tp_St → Prop} {σ : tp_St}   (h : ((σ.1 4 4) = 0 →
post (-4) σ) ∧ (¬ (σ.1 4 4) = 0 →
vp_in ((σ.1 4 4) - 1) 200 ∧
vp_in (σ.1 15 (((σ.1 4 4) - 1)).toNatClampNeg) 16 ∧
vp_in (σ.1 12 ((σ.1 15 (((σ.1 4 4) - 1)).toNatClampNeg)).toNatClampNeg) 6 ∧
vp_in ((σ.1 4 4) - 1) 200 ∧
vp_in (σ.1 16 (((σ.1 4 4) - 1)).toNatClampNeg) 5 ∧
vp_in (σ.1 15 (((σ.1 4 4) - 1)).toNatClampNeg) 16 ∧
((σ.1 14 ((σ.1 15 (((σ.1 4 4) - 1)).toNatClampNeg)).toNatClampNeg) = 0 →
post (-2) σ) ∧ (¬ (σ.1 14 ((σ.1 15 (((σ.1 4 4) - 1)).toNatClampNeg)).toNatClampNeg) = 0 →
vp_in ((σ.1 4 4) - 1) 200 ∧
((σ.1 18 (((σ.1 4 4) - 1)).toNatClampNeg) = ((σ.1 (46 + ((σ.1 12 ((σ.1 15 (((σ.1 4 4) - 1)).toNatClampNeg)).toNatClampNeg)).toNatClampNeg) ((σ.1 16 (((σ.1 4 4) - 1)).toNatClampNeg)).toNatClampNeg) - 1) →
tp_E 99 0 [.ref 0, .null, .null] [] σ (fun r1 σ1 =>
post (σ1.1 4 4) σ1)) ∧ (¬ (σ.1 18 (((σ.1 4 4) - 1)).toNatClampNeg) = ((σ.1 (46 + ((σ.1 12 ((σ.1 15 (((σ.1 4 4) - 1)).toNatClampNeg)).toNatClampNeg)).toNatClampNeg) ((σ.1 16 (((σ.1 4 4) - 1)).toNatClampNeg)).toNatClampNeg) - 1) →
post (-2) σ)))) : tp_E 67 0 [.ref 0, .null, .null, .null] [] σ post := tp_E_step (And.intro (fun c1 => And.intro rfl (h.1 c1)) (fun c1 => Exists.intro _ (And.intro (tp_wk_rf _) (tp_E_step (And.intro (h.2 c1).1 (And.intro (h.2 c1).2.1 (And.intro (h.2 c1).2.2.1 (And.intro (h.2 c1).2.2.2.1 (tp_rw (tp_rk46 (h.2 c1).2.2.1) (And.intro (h.2 c1).2.2.2.2.1 (And.intro (h.2 c1).2.2.2.2.2.1 (And.intro (fun c2 => Exists.intro _ (And.intro (tp_wk_rf _) (tp_E_step (And.intro rfl ((h.2 c1).2.2.2.2.2.2.1 c2))))) (fun c2 => And.intro ((h.2 c1).2.2.2.2.2.2.2 c2).1 (And.intro (fun c3 => Exists.intro _ (And.intro (tp_wk_rf _) (tp_E_step (tp_Em (((h.2 c1).2.2.2.2.2.2.2 c2).2.1 c3) (fun r4 σ4 h4 => And.intro rfl h4))))) (fun c3 => Exists.intro _ (And.intro (tp_wk_rf _) (tp_E_step (And.intro rfl (((h.2 c1).2.2.2.2.2.2.2 c2).2.2 c3)))))))))))))))))))
/-- X9_sheet (III)I, 0 -/
theorem sg_68_0 {post : Int32 → tp_St → Prop} {σ : tp_St} (a1 : Int32) (a2 : Int32) (a3 : Int32)  (h : tp_E 91 0 [.int a1, .int 0, .int 3] [] σ (fun r1 σ1 =>
(r1 = 0 →
tp_E 91 0 [.int a2, .int 0, .int 2] [] σ1 (fun r2 σ2 =>
(r2 = 0 →
(a3 ≤ 64 →
(0 ≤ a3 →
vp_in a1 4 ∧ (a1 = 0 →
tp_E 43 0 [.ref 20, .int a2, .int a3, .null] [] σ2 (fun r3 σ3 =>
post 1 σ3)) ∧ (a1 = 1 →
tp_E 43 0 [.ref 21, .int a2, .int a3, .null] [] σ2 (fun r4 σ4 =>
post 1 σ4)) ∧ (a1 = 2 →
tp_E 43 0 [.ref 22, .int a2, .int a3, .null] [] σ2 (fun r5 σ5 =>
post 1 σ5)) ∧ (a1 = 3 →
tp_E 43 0 [.ref 23, .int a2, .int a3, .null] [] σ2 (fun r6 σ6 =>
post 1 σ6))) ∧ (¬ 0 ≤ a3 →
post (-14) σ2)) ∧ (¬ a3 ≤ 64 →
post (-1) σ2)) ∧ (¬ r2 = 0 →
post (-1) σ2))) ∧ (¬ r1 = 0 →
post (-1) σ1))) : tp_E 68 0 [.ref 0, .int a1, .int a2, .int a3] [] σ post := tp_E_step (tp_Em h (fun r1 σ1 h1 => And.intro (fun c3 => tp_Em (h1.1 c3) (fun r2 σ2 h2 => And.intro (fun c4 => And.intro (fun c5 => Exists.intro _ (And.intro (tp_wk_rf _) (tp_E_step (And.intro (fun c6 => Exists.intro _ (And.intro (tp_wk_rf _) (tp_E_step (And.intro (((h2.1 c4).1 c5).1 c6).1 (And.intro (fun c11 => tp_Em ((((h2.1 c4).1 c5).1 c6).2.1 c11) (fun r7 σ7 h7 => And.intro rfl h7)) (And.intro (fun c11 => tp_Em ((((h2.1 c4).1 c5).1 c6).2.2.1 c11) (fun r8 σ8 h8 => And.intro rfl h8)) (And.intro (fun c11 => tp_Em ((((h2.1 c4).1 c5).1 c6).2.2.2.1 c11) (fun r9 σ9 h9 => And.intro rfl h9)) (fun c11 => tp_Em ((((h2.1 c4).1 c5).1 c6).2.2.2.2 c11) (fun r10 σ10 h10 => And.intro rfl h10))))))))) (fun c6 => And.intro rfl (((h2.1 c4).1 c5).2 c6)))))) (fun c5 => Exists.intro _ (And.intro (tp_wk_rf _) (tp_E_step (And.intro rfl ((h2.1 c4).2 c5)))))) (fun c4 => Exists.intro _ (And.intro (tp_wk_rf _) (tp_E_step (And.intro rfl (h2.2 c4))))))) (fun c3 => Exists.intro _ (And.intro (tp_wk_rf _) (tp_E_step (And.intro rfl (h1.2 c3)))))))
/-- X9_lay (III)I, 0 -/
theorem sg_69_0 {post : Int32 → tp_St → Prop} {σ : tp_St} (a1 : Int32) (a2 : Int32) (a3 : Int32)  (h : tp_E 91 0 [.int a1, .int 0, .int 3] [] σ (fun r1 σ1 =>
(r1 = 0 →
vp_in a1 4 ∧ (a1 = 0 →
tp_E 41 0 [.ref 20] [] σ1 (fun r2 σ2 =>
(r2 = 0 →
tp_E 42 0 [.ref 20, .int a2] [] σ2 (fun r6 σ6 =>
(r6 = 0 →
post (-12) σ6) ∧ (¬ r6 = 0 →
tp_E 44 0 [.ref 20, .int a2, .int a3] [] σ6 (fun r7 σ7 =>
post 1 σ7)))) ∧ (¬ r2 = 0 →
post (-11) σ2))) ∧ (a1 = 1 →
tp_E 41 0 [.ref 21] [] σ1 (fun r3 σ3 =>
(r3 = 0 →
tp_E 42 0 [.ref 21, .int a2] [] σ3 (fun r8 σ8 =>
(r8 = 0 →
post (-12) σ8) ∧ (¬ r8 = 0 →
tp_E 44 0 [.ref 21, .int a2, .int a3] [] σ8 (fun r9 σ9 =>
post 1 σ9)))) ∧ (¬ r3 = 0 →
post (-11) σ3))) ∧ (a1 = 2 →
tp_E 41 0 [.ref 22] [] σ1 (fun r4 σ4 =>
(r4 = 0 →
tp_E 42 0 [.ref 22, .int a2] [] σ4 (fun r10 σ10 =>
(r10 = 0 →
post (-12) σ10) ∧ (¬ r10 = 0 →
tp_E 44 0 [.ref 22, .int a2, .int a3] [] σ10 (fun r11 σ11 =>
post 1 σ11)))) ∧ (¬ r4 = 0 →
post (-11) σ4))) ∧ (a1 = 3 →
tp_E 41 0 [.ref 23] [] σ1 (fun r5 σ5 =>
(r5 = 0 →
tp_E 42 0 [.ref 23, .int a2] [] σ5 (fun r12 σ12 =>
(r12 = 0 →
post (-12) σ12) ∧ (¬ r12 = 0 →
tp_E 44 0 [.ref 23, .int a2, .int a3] [] σ12 (fun r13 σ13 =>
post 1 σ13)))) ∧ (¬ r5 = 0 →
post (-11) σ5)))) ∧ (¬ r1 = 0 →
post (-1) σ1))) : tp_E 69 0 [.ref 0, .int a1, .int a2, .int a3, .null] [] σ post := tp_E_step (tp_Em h (fun r1 σ1 h1 => And.intro (fun c2 => Exists.intro _ (And.intro (tp_wk_rf _) (tp_E_step (And.intro (h1.1 c2).1 (And.intro (fun c7 => tp_Em ((h1.1 c2).2.1 c7) (fun r3 σ3 h3 => And.intro (fun c8 => Exists.intro _ (And.intro (tp_wk_rf _) (tp_E_step (tp_Em (h3.1 c8) (fun r9 σ9 h9 => And.intro (fun c10 => And.intro rfl (h9.1 c10)) (fun c10 => Exists.intro _ (And.intro (tp_wk_rf _) (tp_E_step (tp_Em (h9.2 c10) (fun r11 σ11 h11 => And.intro rfl h11)))))))))) (fun c8 => And.intro rfl (h3.2 c8)))) (And.intro (fun c7 => tp_Em ((h1.1 c2).2.2.1 c7) (fun r4 σ4 h4 => And.intro (fun c12 => Exists.intro _ (And.intro (tp_wk_rf _) (tp_E_step (tp_Em (h4.1 c12) (fun r13 σ13 h13 => And.intro (fun c14 => And.intro rfl (h13.1 c14)) (fun c14 => Exists.intro _ (And.intro (tp_wk_rf _) (tp_E_step (tp_Em (h13.2 c14) (fun r15 σ15 h15 => And.intro rfl h15)))))))))) (fun c12 => And.intro rfl (h4.2 c12)))) (And.intro (fun c7 => tp_Em ((h1.1 c2).2.2.2.1 c7) (fun r5 σ5 h5 => And.intro (fun c16 => Exists.intro _ (And.intro (tp_wk_rf _) (tp_E_step (tp_Em (h5.1 c16) (fun r17 σ17 h17 => And.intro (fun c18 => And.intro rfl (h17.1 c18)) (fun c18 => Exists.intro _ (And.intro (tp_wk_rf _) (tp_E_step (tp_Em (h17.2 c18) (fun r19 σ19 h19 => And.intro rfl h19)))))))))) (fun c16 => And.intro rfl (h5.2 c16)))) (fun c7 => tp_Em ((h1.1 c2).2.2.2.2 c7) (fun r6 σ6 h6 => And.intro (fun c20 => Exists.intro _ (And.intro (tp_wk_rf _) (tp_E_step (tp_Em (h6.1 c20) (fun r21 σ21 h21 => And.intro (fun c22 => And.intro rfl (h21.1 c22)) (fun c22 => Exists.intro _ (And.intro (tp_wk_rf _) (tp_E_step (tp_Em (h21.2 c22) (fun r23 σ23 h23 => And.intro rfl h23)))))))))) (fun c20 => And.intro rfl (h6.2 c20))))))))))) (fun c2 => And.intro rfl (h1.2 c2))))
/-- X9_scan (IIIII)I, 0 -/
theorem sg_70_0 {post : Int32 → tp_St → Prop} {σ : tp_St} (a1 : Int32) (a2 : Int32) (a3 : Int32) (a4 : Int32) (a5 : Int32)  (h : tp_E 53 0 [.ref 3, .int a1] [] σ (fun r1 σ1 =>
(r1 = 0 →
post (-1) σ1) ∧ (¬ r1 = 0 →
tp_E 91 0 [.int a2, .int 0, .int 3] [] σ1 (fun r2 σ2 =>
(r2 = 0 →
tp_E 91 0 [.int a3, .int 0, .int 2] [] σ2 (fun r3 σ3 =>
(r3 = 0 →
tp_E 91 0 [.int a5, .int 0, .int 32] [] σ3 (fun r4 σ4 =>
(r4 = 0 →
vp_in a2 4 ∧ (a2 = 0 →
tp_E 41 0 [.ref 20] [] σ4 (fun r5 σ5 =>
(r5 = 0 →
((σ5.1 20 1) = a3 →
tp_E 70 76 [.ref 0, .int a1, .null, .null, .int a4, .int a5, .ref 20, .int 0, .null] [] σ5 post) ∧ (¬ (σ5.1 20 1) = a3 →
post (-13) σ5)) ∧ (¬ r5 = 0 →
post (-11) σ5))) ∧ (a2 = 1 →
tp_E 41 0 [.ref 21] [] σ4 (fun r6 σ6 =>
(r6 = 0 →
((σ6.1 21 1) = a3 →
tp_E 70 76 [.ref 0, .int a1, .null, .null, .int a4, .int a5, .ref 21, .int 0, .null] [] σ6 post) ∧ (¬ (σ6.1 21 1) = a3 →
post (-13) σ6)) ∧ (¬ r6 = 0 →
post (-11) σ6))) ∧ (a2 = 2 →
tp_E 41 0 [.ref 22] [] σ4 (fun r7 σ7 =>
(r7 = 0 →
((σ7.1 22 1) = a3 →
tp_E 70 76 [.ref 0, .int a1, .null, .null, .int a4, .int a5, .ref 22, .int 0, .null] [] σ7 post) ∧ (¬ (σ7.1 22 1) = a3 →
post (-13) σ7)) ∧ (¬ r7 = 0 →
post (-11) σ7))) ∧ (a2 = 3 →
tp_E 41 0 [.ref 23] [] σ4 (fun r8 σ8 =>
(r8 = 0 →
((σ8.1 23 1) = a3 →
tp_E 70 76 [.ref 0, .int a1, .null, .null, .int a4, .int a5, .ref 23, .int 0, .null] [] σ8 post) ∧ (¬ (σ8.1 23 1) = a3 →
post (-13) σ8)) ∧ (¬ r8 = 0 →
post (-11) σ8)))) ∧ (¬ r4 = 0 →
post (-1) σ4))) ∧ (¬ r3 = 0 →
post (-1) σ3))) ∧ (¬ r2 = 0 →
post (-1) σ2))))) : tp_E 70 0 [.ref 0, .int a1, .int a2, .int a3, .int a4, .int a5, .null, .null, .null] [] σ post := tp_E_step (tp_Em h (fun r1 σ1 h1 => And.intro (fun c5 => Exists.intro _ (And.intro (tp_wk_rf _) (tp_E_step (And.intro rfl (h1.1 c5))))) (fun c5 => tp_Em (h1.2 c5) (fun r2 σ2 h2 => And.intro (fun c6 => tp_Em (h2.1 c6) (fun r3 σ3 h3 => And.intro (fun c7 => tp_Em (h3.1 c7) (fun r4 σ4 h4 => And.intro (fun c8 => Exists.intro _ (And.intro (tp_wk_rf _) (tp_E_step (And.intro (h4.1 c8).1 (And.intro (fun c13 => tp_Em ((h4.1 c8).2.1 c13) (fun r9 σ9 h9 => And.intro (fun c14 => Exists.intro _ (And.intro (tp_wk_rf _) (tp_E_step (And.intro (fun c15 => Exists.intro _ (And.intro (tp_wk_rf _) (tp_E_step (Exists.intro [.ref 0, .int a1, .null, .null, .int a4, .int a5, .ref 20, .int 0, .null] (And.intro (And.intro (Or.inr rfl) (And.intro (Or.inr rfl) (And.intro (Or.inl rfl) (And.intro (Or.inl rfl) (And.intro (Or.inr rfl) (And.intro (Or.inr rfl) (And.intro (Or.inr rfl) (And.intro (Or.inr rfl) (And.intro (Or.inr rfl) (trivial)))))))))) ((h9.1 c14).1 c15)))))) (fun c15 => And.intro rfl ((h9.1 c14).2 c15)))))) (fun c14 => And.intro rfl (h9.2 c14)))) (And.intro (fun c13 => tp_Em ((h4.1 c8).2.2.1 c13) (fun r10 σ10 h10 => And.intro (fun c16 => Exists.intro _ (And.intro (tp_wk_rf _) (tp_E_step (And.intro (fun c17 => Exists.intro _ (And.intro (tp_wk_rf _) (tp_E_step (Exists.intro [.ref 0, .int a1, .null, .null, .int a4, .int a5, .ref 21, .int 0, .null] (And.intro (And.intro (Or.inr rfl) (And.intro (Or.inr rfl) (And.intro (Or.inl rfl) (And.intro (Or.inl rfl) (And.intro (Or.inr rfl) (And.intro (Or.inr rfl) (And.intro (Or.inr rfl) (And.intro (Or.inr rfl) (And.intro (Or.inr rfl) (trivial)))))))))) ((h10.1 c16).1 c17)))))) (fun c17 => And.intro rfl ((h10.1 c16).2 c17)))))) (fun c16 => And.intro rfl (h10.2 c16)))) (And.intro (fun c13 => tp_Em ((h4.1 c8).2.2.2.1 c13) (fun r11 σ11 h11 => And.intro (fun c18 => Exists.intro _ (And.intro (tp_wk_rf _) (tp_E_step (And.intro (fun c19 => Exists.intro _ (And.intro (tp_wk_rf _) (tp_E_step (Exists.intro [.ref 0, .int a1, .null, .null, .int a4, .int a5, .ref 22, .int 0, .null] (And.intro (And.intro (Or.inr rfl) (And.intro (Or.inr rfl) (And.intro (Or.inl rfl) (And.intro (Or.inl rfl) (And.intro (Or.inr rfl) (And.intro (Or.inr rfl) (And.intro (Or.inr rfl) (And.intro (Or.inr rfl) (And.intro (Or.inr rfl) (trivial)))))))))) ((h11.1 c18).1 c19)))))) (fun c19 => And.intro rfl ((h11.1 c18).2 c19)))))) (fun c18 => And.intro rfl (h11.2 c18)))) (fun c13 => tp_Em ((h4.1 c8).2.2.2.2 c13) (fun r12 σ12 h12 => And.intro (fun c20 => Exists.intro _ (And.intro (tp_wk_rf _) (tp_E_step (And.intro (fun c21 => Exists.intro _ (And.intro (tp_wk_rf _) (tp_E_step (Exists.intro [.ref 0, .int a1, .null, .null, .int a4, .int a5, .ref 23, .int 0, .null] (And.intro (And.intro (Or.inr rfl) (And.intro (Or.inr rfl) (And.intro (Or.inl rfl) (And.intro (Or.inl rfl) (And.intro (Or.inr rfl) (And.intro (Or.inr rfl) (And.intro (Or.inr rfl) (And.intro (Or.inr rfl) (And.intro (Or.inr rfl) (trivial)))))))))) ((h12.1 c20).1 c21)))))) (fun c21 => And.intro rfl ((h12.1 c20).2 c21)))))) (fun c20 => And.intro rfl (h12.2 c20))))))))))) (fun c8 => Exists.intro _ (And.intro (tp_wk_rf _) (tp_E_step (And.intro rfl (h4.2 c8))))))) (fun c7 => Exists.intro _ (And.intro (tp_wk_rf _) (tp_E_step (And.intro rfl (h3.2 c7))))))) (fun c6 => Exists.intro _ (And.intro (tp_wk_rf _) (tp_E_step (And.intro rfl (h2.2 c6)))))))))
/-- X9_scan (IIIII)I, 76 -/
theorem sg_70_76 {post : Int32 → tp_St → Prop} {σ : tp_St} (a1 : Int32) (a4 : Int32) (a5 : Int32) (q6 : Nat) (a7 : Int32) (hq6 : q6 = 20 ∨ q6 = 21 ∨ q6 = 22 ∨ q6 = 23) (h : (a5 ≤ a7 →
post a5 σ) ∧ (¬ a5 ≤ a7 →
tp_E 97 0 [.ref 0, .int a1, .ref q6, .int (a4 + (2 * a7)), .null] [] σ (fun r1 σ1 =>
(0 ≤ r1 →
tp_E 70 76 [.ref 0, .int a1, .null, .null, .int a4, .int a5, .ref q6, .int (a7 + 1), .null] [] σ1 post) ∧ (¬ 0 ≤ r1 →
tp_E 98 0 [.ref 0, .int a7, .null] [] σ1 (fun r2 σ2 =>
post r1 σ2))))) : tp_E 70 76 [.ref 0, .int a1, .null, .null, .int a4, .int a5, .ref q6, .int a7, .null] [] σ post := by
  rcases hq6 with rfl | rfl | rfl | rfl
  · exact tp_E_step (And.intro (fun c3 => Exists.intro _ (And.intro (tp_wk_rf _) (tp_E_step (And.intro rfl (h.1 c3))))) (fun c3 => tp_Em (h.2 c3) (fun r1 σ1 h1 => And.intro (fun c4 => Exists.intro _ (And.intro (tp_wk_rf _) (tp_E_step (Exists.intro [.ref 0, .int a1, .null, .null, .int a4, .int a5, .ref 20, .int (a7 + 1), .null] (And.intro (And.intro (Or.inr rfl) (And.intro (Or.inr rfl) (And.intro (Or.inr rfl) (And.intro (Or.inr rfl) (And.intro (Or.inr rfl) (And.intro (Or.inr rfl) (And.intro (Or.inr rfl) (And.intro (Or.inr rfl) (And.intro (Or.inl rfl) (trivial)))))))))) (h1.1 c4)))))) (fun c4 => tp_Em (h1.2 c4) (fun r2 σ2 h2 => And.intro rfl h2)))))
  · exact tp_E_step (And.intro (fun c3 => Exists.intro _ (And.intro (tp_wk_rf _) (tp_E_step (And.intro rfl (h.1 c3))))) (fun c3 => tp_Em (h.2 c3) (fun r1 σ1 h1 => And.intro (fun c4 => Exists.intro _ (And.intro (tp_wk_rf _) (tp_E_step (Exists.intro [.ref 0, .int a1, .null, .null, .int a4, .int a5, .ref 21, .int (a7 + 1), .null] (And.intro (And.intro (Or.inr rfl) (And.intro (Or.inr rfl) (And.intro (Or.inr rfl) (And.intro (Or.inr rfl) (And.intro (Or.inr rfl) (And.intro (Or.inr rfl) (And.intro (Or.inr rfl) (And.intro (Or.inr rfl) (And.intro (Or.inl rfl) (trivial)))))))))) (h1.1 c4)))))) (fun c4 => tp_Em (h1.2 c4) (fun r2 σ2 h2 => And.intro rfl h2)))))
  · exact tp_E_step (And.intro (fun c3 => Exists.intro _ (And.intro (tp_wk_rf _) (tp_E_step (And.intro rfl (h.1 c3))))) (fun c3 => tp_Em (h.2 c3) (fun r1 σ1 h1 => And.intro (fun c4 => Exists.intro _ (And.intro (tp_wk_rf _) (tp_E_step (Exists.intro [.ref 0, .int a1, .null, .null, .int a4, .int a5, .ref 22, .int (a7 + 1), .null] (And.intro (And.intro (Or.inr rfl) (And.intro (Or.inr rfl) (And.intro (Or.inr rfl) (And.intro (Or.inr rfl) (And.intro (Or.inr rfl) (And.intro (Or.inr rfl) (And.intro (Or.inr rfl) (And.intro (Or.inr rfl) (And.intro (Or.inl rfl) (trivial)))))))))) (h1.1 c4)))))) (fun c4 => tp_Em (h1.2 c4) (fun r2 σ2 h2 => And.intro rfl h2)))))
  · exact tp_E_step (And.intro (fun c3 => Exists.intro _ (And.intro (tp_wk_rf _) (tp_E_step (And.intro rfl (h.1 c3))))) (fun c3 => tp_Em (h.2 c3) (fun r1 σ1 h1 => And.intro (fun c4 => Exists.intro _ (And.intro (tp_wk_rf _) (tp_E_step (Exists.intro [.ref 0, .int a1, .null, .null, .int a4, .int a5, .ref 23, .int (a7 + 1), .null] (And.intro (And.intro (Or.inr rfl) (And.intro (Or.inr rfl) (And.intro (Or.inr rfl) (And.intro (Or.inr rfl) (And.intro (Or.inr rfl) (And.intro (Or.inr rfl) (And.intro (Or.inr rfl) (And.intro (Or.inr rfl) (And.intro (Or.inl rfl) (trivial)))))))))) (h1.1 c4)))))) (fun c4 => tp_Em (h1.2 c4) (fun r2 σ2 h2 => And.intro rfl h2)))))
/-- X9_waybill (III)I, 0 -/
theorem sg_71_0 {post : Int32 → tp_St → Prop} {σ : tp_St} (a1 : Int32) (a2 : Int32) (a3 : Int32)  (h : tp_E 53 0 [.ref 3, .int a1] [] σ (fun r1 σ1 =>
(r1 = 0 →
post (-1) σ1) ∧ (¬ r1 = 0 →
tp_E 59 0 [.ref 1, .int a2] [] σ1 (fun r2 σ2 =>
(r2 = 0 →
post (-1) σ2) ∧ (¬ r2 = 0 →
tp_E 91 0 [.int a3, .int 0, .int 2] [] σ2 (fun r3 σ3 =>
(r3 = 0 →
(a3 = 0 →
tp_E 37 0 [.ref 4, .int a1, .int a2, .null, .null] [] σ3 (fun r4 σ4 =>
post r4 σ4)) ∧ (¬ a3 = 0 →
(a3 = 1 →
tp_E 38 0 [.ref 4, .int a1, .int a2, .null] [] σ3 (fun r5 σ5 =>
(0 ≤ r5 →
vp_in r5 200 ∧
post (σ5.1 18 (r5).toNatClampNeg) σ5) ∧ (¬ 0 ≤ r5 →
post (-4) σ5))) ∧ (¬ a3 = 1 →
tp_E 39 0 [.ref 4, .int a1, .int a2, .null] [] σ3 (fun r6 σ6 =>
(0 ≤ r6 →
vp_in r6 200 ∧
post (σ6.1 18 (r6).toNatClampNeg) σ6) ∧ (¬ 0 ≤ r6 →
post (-4) σ6))))) ∧ (¬ r3 = 0 →
post (-1) σ3))))))) : tp_E 71 0 [.ref 0, .int a1, .int a2, .int a3, .null] [] σ post := tp_E_step (tp_Em h (fun r1 σ1 h1 => And.intro (fun c4 => Exists.intro _ (And.intro (tp_wk_rf _) (tp_E_step (And.intro rfl (h1.1 c4))))) (fun c4 => tp_Em (h1.2 c4) (fun r2 σ2 h2 => And.intro (fun c5 => Exists.intro _ (And.intro (tp_wk_rf _) (tp_E_step (And.intro rfl (h2.1 c5))))) (fun c5 => tp_Em (h2.2 c5) (fun r3 σ3 h3 => And.intro (fun c6 => Exists.intro _ (And.intro (tp_wk_rf _) (tp_E_step (And.intro (fun c8 => tp_Em ((h3.1 c6).1 c8) (fun r7 σ7 h7 => And.intro rfl h7)) (fun c8 => Exists.intro _ (And.intro (tp_wk_rf _) (tp_E_step (And.intro (fun c10 => tp_Em (((h3.1 c6).2 c8).1 c10) (fun r9 σ9 h9 => Exists.intro _ (And.intro (tp_wk_rf _) (tp_E_step (And.intro (fun c11 => Exists.intro _ (And.intro (tp_wk_rf _) (tp_E_step (And.intro (h9.1 c11).1 (Exists.intro _ (And.intro (tp_wk_rf _) (tp_E_step (And.intro rfl (h9.1 c11).2)))))))) (fun c11 => Exists.intro _ (And.intro (tp_wk_rf _) (tp_E_step (And.intro rfl (h9.2 c11)))))))))) (fun c10 => Exists.intro _ (And.intro (tp_wk_rf _) (tp_E_step (tp_Em (((h3.1 c6).2 c8).2 c10) (fun r12 σ12 h12 => Exists.intro _ (And.intro (tp_wk_rf _) (tp_E_step (And.intro (fun c13 => Exists.intro _ (And.intro (tp_wk_rf _) (tp_E_step (And.intro (h12.1 c13).1 (Exists.intro _ (And.intro (tp_wk_rf _) (tp_E_step (And.intro rfl (h12.1 c13).2)))))))) (fun c13 => Exists.intro _ (And.intro (tp_wk_rf _) (tp_E_step (And.intro rfl (h12.2 c13))))))))))))))))))))) (fun c6 => Exists.intro _ (And.intro (tp_wk_rf _) (tp_E_step (And.intro rfl (h3.2 c6)))))))))))
/-- X9_money (I)I, 0 -/
theorem sg_72_0 {post : Int32 → tp_St → Prop} {σ : tp_St} (a1 : Int32)  (h : tp_E 53 0 [.ref 3, .int a1] [] σ (fun r1 σ1 =>
(r1 = 0 →
post (-1) σ1) ∧ (¬ r1 = 0 →
tp_E 93 0 [.ref 0, .int a1, .null, .null] [] σ1 (fun r2 σ2 =>
post r2 σ2)))) : tp_E 72 0 [.ref 0, .int a1] [] σ post := tp_E_step (tp_Em h (fun r1 σ1 h1 => And.intro (fun c3 => Exists.intro _ (And.intro (tp_wk_rf _) (tp_E_step (Exists.intro _ (And.intro (tp_wk_rf _) (tp_E_step (And.intro rfl (h1.1 c3)))))))) (fun c3 => tp_Em (h1.2 c3) (fun r2 σ2 h2 => Exists.intro _ (And.intro (tp_wk_rf _) (tp_E_step (And.intro rfl h2)))))))
/-- X9_paid (II)I, 0 -/
theorem sg_73_0 {post : Int32 → tp_St → Prop} {σ : tp_St} (a1 : Int32) (a2 : Int32)  (h : tp_E 91 0 [.int a1, .int 0, .int 5] [] σ (fun r1 σ1 =>
(r1 = 0 →
tp_E 91 0 [.int a2, .int 0, .int 100000] [] σ1 (fun r2 σ2 =>
(r2 = 0 →
tp_E 73 27 [.ref 0, .int a1, .null, .int a2, .int 0] [] σ2 post) ∧ (¬ r2 = 0 →
post (-1000000) σ2))) ∧ (¬ r1 = 0 →
post (-1000000) σ1))) : tp_E 73 0 [.ref 0, .int a1, .int a2, .null, .null] [] σ post := tp_E_step (tp_Em h (fun r1 σ1 h1 => And.intro (fun c3 => tp_Em (h1.1 c3) (fun r2 σ2 h2 => And.intro (fun c4 => Exists.intro _ (And.intro (tp_wk_rf _) (tp_E_step (Exists.intro [.ref 0, .int a1, .null, .int a2, .int 0] (And.intro (And.intro (Or.inr rfl) (And.intro (Or.inr rfl) (And.intro (Or.inl rfl) (And.intro (Or.inr rfl) (And.intro (Or.inr rfl) (trivial)))))) (h2.1 c4)))))) (fun c4 => Exists.intro _ (And.intro (tp_wk_rf _) (tp_E_step (And.intro rfl (h2.2 c4))))))) (fun c3 => Exists.intro _ (And.intro (tp_wk_rf _) (tp_E_step (And.intro rfl (h1.2 c3)))))))
/-- X9_paid (II)I, 27 -/
theorem sg_73_27 {post : Int32 → tp_St → Prop} {σ : tp_St} (a1 : Int32) (a3 : Int32) (a4 : Int32)  (h : ((σ.1 3 3) ≤ a4 →
post a3 σ) ∧ (¬ (σ.1 3 3) ≤ a4 →
vp_in a4 16 ∧
((σ.1 12 (a4).toNatClampNeg) = a1 →
vp_in a4 16 ∧
((σ.1 14 (a4).toNatClampNeg) = 0 →
tp_E 93 0 [.ref 0, .int a4, .null, .null] [] σ (fun r1 σ1 =>
tp_E 73 27 [.ref 0, .int a1, .null, .int (a3 - r1), .int (a4 + 1)] [] σ1 post)) ∧ (¬ (σ.1 14 (a4).toNatClampNeg) = 0 →
tp_E 73 27 [.ref 0, .int a1, .null, .int a3, .int (a4 + 1)] [] σ post)) ∧ (¬ (σ.1 12 (a4).toNatClampNeg) = a1 →
tp_E 73 27 [.ref 0, .int a1, .null, .int a3, .int (a4 + 1)] [] σ post))) : tp_E 73 27 [.ref 0, .int a1, .null, .int a3, .int a4] [] σ post := tp_E_step (And.intro (fun c2 => Exists.intro _ (And.intro (tp_wk_rf _) (tp_E_step (And.intro rfl (h.1 c2))))) (fun c2 => And.intro (h.2 c2).1 (And.intro (fun c3 => And.intro ((h.2 c2).2.1 c3).1 (And.intro (fun c4 => tp_Em (((h.2 c2).2.1 c3).2.1 c4) (fun r1 σ1 h1 => Exists.intro _ (And.intro (tp_wk_rf _) (tp_E_step (Exists.intro [.ref 0, .int a1, .null, .int (a3 - r1), .int (a4 + 1)] (And.intro (And.intro (Or.inr rfl) (And.intro (Or.inr rfl) (And.intro (Or.inr rfl) (And.intro (Or.inr rfl) (And.intro (Or.inr rfl) (trivial)))))) h1)))))) (fun c4 => Exists.intro _ (And.intro (tp_wk_rf _) (tp_E_step (Exists.intro [.ref 0, .int a1, .null, .int a3, .int (a4 + 1)] (And.intro (And.intro (Or.inr rfl) (And.intro (Or.inr rfl) (And.intro (Or.inr rfl) (And.intro (Or.inr rfl) (And.intro (Or.inr rfl) (trivial)))))) (((h.2 c2).2.1 c3).2.2 c4)))))))) (fun c3 => Exists.intro _ (And.intro (tp_wk_rf _) (tp_E_step (Exists.intro [.ref 0, .int a1, .null, .int a3, .int (a4 + 1)] (And.intro (And.intro (Or.inr rfl) (And.intro (Or.inr rfl) (And.intro (Or.inr rfl) (And.intro (Or.inr rfl) (And.intro (Or.inr rfl) (trivial)))))) ((h.2 c2).2.2 c3)))))))))
/-- X9_aboard (III)I, 0 -/
theorem sg_74_0 {post : Int32 → tp_St → Prop} {σ : tp_St} (a1 : Int32) (a2 : Int32) (a3 : Int32)  (h : tp_E 53 0 [.ref 3, .int a1] [] σ (fun r1 σ1 =>
(r1 = 0 →
post (-1) σ1) ∧ (¬ r1 = 0 →
tp_E 91 0 [.int a2, .int 0, .int 8] [] σ1 (fun r2 σ2 =>
(r2 = 0 →
tp_E 91 0 [.int a3, .int 0, .int 1] [] σ2 (fun r3 σ3 =>
(r3 = 0 →
tp_E 94 0 [.ref 0, .int a1, .int a2, .int a3, .null, .null] [] σ3 (fun r4 σ4 =>
post r4 σ4)) ∧ (¬ r3 = 0 →
post (-1) σ3))) ∧ (¬ r2 = 0 →
post (-1) σ2))))) : tp_E 74 0 [.ref 0, .int a1, .int a2, .int a3] [] σ post := tp_E_step (tp_Em h (fun r1 σ1 h1 => And.intro (fun c4 => Exists.intro _ (And.intro (tp_wk_rf _) (tp_E_step (And.intro rfl (h1.1 c4))))) (fun c4 => tp_Em (h1.2 c4) (fun r2 σ2 h2 => And.intro (fun c5 => tp_Em (h2.1 c5) (fun r3 σ3 h3 => And.intro (fun c6 => Exists.intro _ (And.intro (tp_wk_rf _) (tp_E_step (tp_Em (h3.1 c6) (fun r7 σ7 h7 => And.intro rfl h7))))) (fun c6 => Exists.intro _ (And.intro (tp_wk_rf _) (tp_E_step (And.intro rfl (h3.2 c6))))))) (fun c5 => Exists.intro _ (And.intro (tp_wk_rf _) (tp_E_step (And.intro rfl (h2.2 c5)))))))))
/-- X9_riders (ZII)I, 0 -/
theorem sg_75_0 {post : Int32 → tp_St → Prop} {σ : tp_St} (a1 : Int32) (a2 : Int32) (a3 : Int32)  (h : tp_E 91 0 [.int a2, .int 0, .int 8] [] σ (fun r1 σ1 =>
(r1 = 0 →
tp_E 91 0 [.int a3, .int 0, .int 1] [] σ1 (fun r2 σ2 =>
(r2 = 0 →
tp_E 75 27 [.ref 0, .int a1, .int a2, .int a3, .int 0, .int 0] [] σ2 post) ∧ (¬ r2 = 0 →
post (-1) σ2))) ∧ (¬ r1 = 0 →
post (-1) σ1))) : tp_E 75 0 [.ref 0, .int a1, .int a2, .int a3, .null, .null] [] σ post := tp_E_step (tp_Em h (fun r1 σ1 h1 => And.intro (fun c3 => tp_Em (h1.1 c3) (fun r2 σ2 h2 => And.intro (fun c4 => Exists.intro _ (And.intro (tp_wk_rf _) (tp_E_step (Exists.intro [.ref 0, .int a1, .int a2, .int a3, .int 0, .int 0] (And.intro (And.intro (Or.inr rfl) (And.intro (Or.inr rfl) (And.intro (Or.inr rfl) (And.intro (Or.inr rfl) (And.intro (Or.inr rfl) (And.intro (Or.inr rfl) (trivial))))))) (h2.1 c4)))))) (fun c4 => Exists.intro _ (And.intro (tp_wk_rf _) (tp_E_step (And.intro rfl (h2.2 c4))))))) (fun c3 => Exists.intro _ (And.intro (tp_wk_rf _) (tp_E_step (And.intro rfl (h1.2 c3)))))))
/-- X9_riders (ZII)I, 27 -/
theorem sg_75_27 {post : Int32 → tp_St → Prop} {σ : tp_St} (a1 : Int32) (a2 : Int32) (a3 : Int32) (a4 : Int32) (a5 : Int32)  (h : ((σ.1 4 4) ≤ a5 →
post a4 σ) ∧ (¬ (σ.1 4 4) ≤ a5 →
vp_in a5 200 ∧
vp_in (σ.1 15 (a5).toNatClampNeg) 16 ∧
((σ.1 13 ((σ.1 15 (a5).toNatClampNeg)).toNatClampNeg) = a1 →
tp_E 95 0 [.ref 0, .int a5, .int a2, .int a3, .null] [] σ (fun r1 σ1 =>
(r1 = 0 →
tp_E 75 27 [.ref 0, .int a1, .int a2, .int a3, .int a4, .int (a5 + 1)] [] σ1 post) ∧ (¬ r1 = 0 →
tp_E 75 27 [.ref 0, .int a1, .int a2, .int a3, .int (a4 + 1), .int (a5 + 1)] [] σ1 post))) ∧ (¬ (σ.1 13 ((σ.1 15 (a5).toNatClampNeg)).toNatClampNeg) = a1 →
tp_E 75 27 [.ref 0, .int a1, .int a2, .int a3, .int a4, .int (a5 + 1)] [] σ post))) : tp_E 75 27 [.ref 0, .int a1, .int a2, .int a3, .int a4, .int a5] [] σ post := tp_E_step (And.intro (fun c2 => Exists.intro _ (And.intro (tp_wk_rf _) (tp_E_step (And.intro rfl (h.1 c2))))) (fun c2 => And.intro (h.2 c2).1 (And.intro (h.2 c2).2.1 (And.intro (fun c3 => tp_Em ((h.2 c2).2.2.1 c3) (fun r1 σ1 h1 => And.intro (fun c4 => Exists.intro _ (And.intro (tp_wk_rf _) (tp_E_step (Exists.intro [.ref 0, .int a1, .int a2, .int a3, .int a4, .int (a5 + 1)] (And.intro (And.intro (Or.inr rfl) (And.intro (Or.inr rfl) (And.intro (Or.inr rfl) (And.intro (Or.inr rfl) (And.intro (Or.inr rfl) (And.intro (Or.inr rfl) (trivial))))))) (h1.1 c4)))))) (fun c4 => Exists.intro _ (And.intro (tp_wk_rf _) (tp_E_step (Exists.intro [.ref 0, .int a1, .int a2, .int a3, .int (a4 + 1), .int (a5 + 1)] (And.intro (And.intro (Or.inr rfl) (And.intro (Or.inr rfl) (And.intro (Or.inr rfl) (And.intro (Or.inr rfl) (And.intro (Or.inr rfl) (And.intro (Or.inr rfl) (trivial))))))) (h1.2 c4)))))))) (fun c3 => Exists.intro _ (And.intro (tp_wk_rf _) (tp_E_step (Exists.intro [.ref 0, .int a1, .int a2, .int a3, .int a4, .int (a5 + 1)] (And.intro (And.intro (Or.inr rfl) (And.intro (Or.inr rfl) (And.intro (Or.inr rfl) (And.intro (Or.inr rfl) (And.intro (Or.inr rfl) (And.intro (Or.inr rfl) (trivial))))))) ((h.2 c2).2.2.2 c3))))))))))
/-- X9_shown (IIII)I, 0 -/
theorem sg_76_0 {post : Int32 → tp_St → Prop} {σ : tp_St} (a1 : Int32) (a2 : Int32) (a3 : Int32) (a4 : Int32)  (h : tp_E 53 0 [.ref 3, .int a1] [] σ (fun r1 σ1 =>
(r1 = 0 →
post (-1) σ1) ∧ (¬ r1 = 0 →
tp_E 91 0 [.int a2, .int 0, .int 8] [] σ1 (fun r2 σ2 =>
(r2 = 0 →
tp_E 59 0 [.ref 1, .int a3] [] σ2 (fun r3 σ3 =>
(r3 = 0 →
post (-1) σ3) ∧ (¬ r3 = 0 →
(0 ≤ a4 →
tp_E 33 0 [.ref 4, .int a3, .int a4, .null] [] σ3 (fun r4 σ4 =>
(0 ≤ r4 →
vp_in r4 200 ∧
((σ4.1 15 (r4).toNatClampNeg) = a1 →
tp_E 58 0 [.ref 3, .int a1, .int a2] [] σ4 (fun r5 σ5 =>
vp_in r4 200 ∧
((σ5.1 17 (r4).toNatClampNeg) ≤ r5 →
tp_E 96 0 [.ref 0, .int r4, .int r5, .null] [] σ5 (fun r6 σ6 =>
(r6 = 0 →
post 4 σ6) ∧ (¬ r6 = 0 →
post 0 σ6))) ∧ (¬ (σ5.1 17 (r4).toNatClampNeg) ≤ r5 →
post 3 σ5))) ∧ (¬ (σ4.1 15 (r4).toNatClampNeg) = a1 →
post 2 σ4)) ∧ (¬ 0 ≤ r4 →
post 1 σ4))) ∧ (¬ 0 ≤ a4 →
post (-1) σ3)))) ∧ (¬ r2 = 0 →
post (-1) σ2))))) : tp_E 76 0 [.ref 0, .int a1, .int a2, .int a3, .int a4, .null, .null] [] σ post := tp_E_step (tp_Em h (fun r1 σ1 h1 => And.intro (fun c4 => Exists.intro _ (And.intro (tp_wk_rf _) (tp_E_step (And.intro rfl (h1.1 c4))))) (fun c4 => tp_Em (h1.2 c4) (fun r2 σ2 h2 => And.intro (fun c5 => tp_Em (h2.1 c5) (fun r3 σ3 h3 => And.intro (fun c6 => Exists.intro _ (And.intro (tp_wk_rf _) (tp_E_step (And.intro rfl (h3.1 c6))))) (fun c6 => And.intro (fun c7 => Exists.intro _ (And.intro (tp_wk_rf _) (tp_E_step (tp_Em ((h3.2 c6).1 c7) (fun r8 σ8 h8 => And.intro (fun c9 => Exists.intro _ (And.intro (tp_wk_rf _) (tp_E_step (And.intro (h8.1 c9).1 (And.intro (fun c10 => Exists.intro _ (And.intro (tp_wk_rf _) (tp_E_step (tp_Em ((h8.1 c9).2.1 c10) (fun r11 σ11 h11 => And.intro h11.1 (And.intro (fun c12 => Exists.intro _ (And.intro (tp_wk_rf _) (tp_E_step (tp_Em (h11.2.1 c12) (fun r13 σ13 h13 => And.intro (fun c14 => Exists.intro _ (And.intro (tp_wk_rf _) (tp_E_step (Exists.intro _ (And.intro (tp_wk_rf _) (tp_E_step (And.intro rfl (h13.1 c14)))))))) (fun c14 => Exists.intro _ (And.intro (tp_wk_rf _) (tp_E_step (And.intro rfl (h13.2 c14)))))))))) (fun c12 => And.intro rfl (h11.2.2 c12)))))))) (fun c10 => And.intro rfl ((h8.1 c9).2.2 c10))))))) (fun c9 => And.intro rfl (h8.2 c9))))))) (fun c7 => Exists.intro _ (And.intro (tp_wk_rf _) (tp_E_step (And.intro rfl ((h3.2 c6).2 c7)))))))) (fun c5 => Exists.intro _ (And.intro (tp_wk_rf _) (tp_E_step (And.intro rfl (h2.2 c5)))))))))
/-- X9_heads (III)I, 0 -/
theorem sg_77_0 {post : Int32 → tp_St → Prop} {σ : tp_St} (a1 : Int32) (a2 : Int32) (a3 : Int32)  (h : tp_E 53 0 [.ref 3, .int a1] [] σ (fun r1 σ1 =>
(r1 = 0 →
post (-1000000) σ1) ∧ (¬ r1 = 0 →
tp_E 91 0 [.int a2, .int 0, .int 8] [] σ1 (fun r2 σ2 =>
(r2 = 0 →
tp_E 91 0 [.int a3, .int 0, .int 1000] [] σ2 (fun r3 σ3 =>
(r3 = 0 →
tp_E 94 0 [.ref 0, .int a1, .int a2, .int 1, .null, .null] [] σ3 (fun r4 σ4 =>
(a3 ≤ r4 →
tp_E 94 0 [.ref 0, .int a1, .int a2, .int 0, .null, .null] [] σ4 (fun r5 σ5 =>
(r5 ≤ a3 →
post 0 σ5) ∧ (¬ r5 ≤ a3 →
post (a3 - r5) σ5))) ∧ (¬ a3 ≤ r4 →
post (a3 - r4) σ4))) ∧ (¬ r3 = 0 →
post (-1000000) σ3))) ∧ (¬ r2 = 0 →
post (-1000000) σ2))))) : tp_E 77 0 [.ref 0, .int a1, .int a2, .int a3, .null, .null] [] σ post := tp_E_step (tp_Em h (fun r1 σ1 h1 => And.intro (fun c4 => Exists.intro _ (And.intro (tp_wk_rf _) (tp_E_step (And.intro rfl (h1.1 c4))))) (fun c4 => tp_Em (h1.2 c4) (fun r2 σ2 h2 => And.intro (fun c5 => tp_Em (h2.1 c5) (fun r3 σ3 h3 => And.intro (fun c6 => Exists.intro _ (And.intro (tp_wk_rf _) (tp_E_step (tp_Em (h3.1 c6) (fun r7 σ7 h7 => And.intro (fun c8 => Exists.intro _ (And.intro (tp_wk_rf _) (tp_E_step (tp_Em (h7.1 c8) (fun r9 σ9 h9 => And.intro (fun c10 => Exists.intro _ (And.intro (tp_wk_rf _) (tp_E_step (Exists.intro _ (And.intro (tp_wk_rf _) (tp_E_step (And.intro rfl (h9.1 c10)))))))) (fun c10 => Exists.intro _ (And.intro (tp_wk_rf _) (tp_E_step (And.intro rfl (h9.2 c10)))))))))) (fun c8 => And.intro rfl (h7.2 c8))))))) (fun c6 => Exists.intro _ (And.intro (tp_wk_rf _) (tp_E_step (And.intro rfl (h3.2 c6))))))) (fun c5 => Exists.intro _ (And.intro (tp_wk_rf _) (tp_E_step (And.intro rfl (h2.2 c5)))))))))
/-- X9_gap (I)I, 0 -/
theorem sg_78_0 {post : Int32 → tp_St → Prop} {σ : tp_St} (a1 : Int32)  (h : tp_E 59 0 [.ref 1, .int a1] [] σ (fun r1 σ1 =>
(r1 = 0 →
post (-1) σ1) ∧ (¬ r1 = 0 →
tp_E 36 0 [.ref 4, .int a1, .null, .null] [] σ1 (fun r2 σ2 =>
tp_E 78 27 [.ref 0, .int a1, .int r2, .int 0, .int 0, .null] [] σ2 post)))) : tp_E 78 0 [.ref 0, .int a1, .null, .null, .null, .null] [] σ post := tp_E_step (tp_Em h (fun r1 σ1 h1 => And.intro (fun c2 => And.intro rfl (h1.1 c2)) (fun c2 => Exists.intro _ (And.intro (tp_wk_rf _) (tp_E_step (tp_Em (h1.2 c2) (fun r3 σ3 h3 => Exists.intro [.ref 0, .int a1, .int r3, .int 0, .int 0, .null] (And.intro (And.intro (Or.inr rfl) (And.intro (Or.inr rfl) (And.intro (Or.inr rfl) (And.intro (Or.inr rfl) (And.intro (Or.inr rfl) (And.intro (Or.inr rfl) (trivial))))))) h3))))))))
/-- X9_gap (I)I, 27 -/
theorem sg_78_27 {post : Int32 → tp_St → Prop} {σ : tp_St} (a1 : Int32) (a2 : Int32) (a3 : Int32) (a4 : Int32)  (h : (206 < a4 →
post (-4) σ) ∧ (¬ 206 < a4 →
(a2 ≤ a3 →
post (-4) σ) ∧ (¬ a2 ≤ a3 →
tp_E 100 0 [.ref 0, .int a1, .int a3] [] σ (fun r1 σ1 =>
(r1 = a3 →
post a3 σ1) ∧ (¬ r1 = a3 →
tp_E 78 27 [.ref 0, .int a1, .int a2, .int r1, .int (a4 + 1), .null] [] σ1 post))))) : tp_E 78 27 [.ref 0, .int a1, .int a2, .int a3, .int a4, .null] [] σ post := tp_E_step (And.intro (fun c2 => Exists.intro _ (And.intro (tp_wk_rf _) (tp_E_step (And.intro rfl (h.1 c2))))) (fun c2 => And.intro (fun c3 => Exists.intro _ (And.intro (tp_wk_rf _) (tp_E_step (And.intro rfl ((h.2 c2).1 c3))))) (fun c3 => tp_Em ((h.2 c2).2 c3) (fun r1 σ1 h1 => And.intro (fun c4 => And.intro rfl (h1.1 c4)) (fun c4 => Exists.intro _ (And.intro (tp_wk_rf _) (tp_E_step (Exists.intro [.ref 0, .int a1, .int a2, .int r1, .int (a4 + 1), .null] (And.intro (And.intro (Or.inr rfl) (And.intro (Or.inr rfl) (And.intro (Or.inr rfl) (And.intro (Or.inr rfl) (And.intro (Or.inr rfl) (And.intro (Or.inl rfl) (trivial))))))) (h1.2 c4))))))))))
/-- X9_feed (J)I, 0 -/
theorem sg_79_0 {post : Int32 → tp_St → Prop} {σ : tp_St} (a1 : Int64)  (h : tp_E 45 0 [.ref 19, .long a1, .null, .null] [] σ (fun r1 σ1 =>
post r1 σ1)) : tp_E 79 0 [.ref 0, .long a1, .null] [] σ post := tp_E_step (tp_Em h (fun r1 σ1 h1 => And.intro rfl h1))
/-- X9_end (I)I, 0 -/
theorem sg_80_0 {post : Int32 → tp_St → Prop} {σ : tp_St} (a1 : Int32)  (h : tp_E 91 0 [.int a1, .int 0, .int (σ.1 19 1)] [] σ (fun r1 σ1 =>
(r1 = 0 →
post (σ.1 19 1) (tp_set σ1 19 1 a1)) ∧ (¬ r1 = 0 →
post (-1) σ1))) : tp_E 80 0 [.ref 0, .int a1, .null] [] σ post := tp_E_step (tp_Em h (fun r1 σ1 h1 => And.intro (fun c2 => Exists.intro _ (And.intro (tp_wk_rf _) (tp_E_step (And.intro rfl (h1.1 c2))))) (fun c2 => And.intro rfl (h1.2 c2))))
/-- X9_laws ()I, 0 -/
theorem sg_81_0 {post : Int32 → tp_St → Prop} {σ : tp_St}   (h : tp_E 0 0 [.ref 6, .null, .null, .null] [] σ (fun r1 σ1 =>
post r1 σ1)) : tp_E 81 0 [.ref 0] [] σ post := tp_E_step (tp_Em h (fun r1 σ1 h1 => And.intro rfl h1))
/-- X9_fault ()I, 0 -/
theorem sg_82_0 {post : Int32 → tp_St → Prop} {σ : tp_St}   (h : post (σ.1 6 2) σ) : tp_E 82 0 [.ref 0] [] σ post := tp_E_step (And.intro rfl h)
/-- X9_fare (II)I, 0 -/
theorem sg_83_0 {post : Int32 → tp_St → Prop} {σ : tp_St} (a1 : Int32) (a2 : Int32)  (h : tp_E 91 0 [.int a1, .int 1, .int 9] [] σ (fun r1 σ1 =>
(r1 = 0 →
tp_E 91 0 [.int a2, .int 0, .int 1439] [] σ1 (fun r2 σ2 =>
(r2 = 0 →
(σ2.2.1 = 24 ∨ σ2.2.1 = 25) ∧ (σ2.2.1 = 24 →
tp_E 11 0 [.ref 24, .int a1, .int (a2 / 60), .null] [] σ2 (fun r3 σ3 =>
post r3 σ3)) ∧ (σ2.2.1 = 25 →
tp_E 11 0 [.ref 25, .int a1, .int (a2 / 60), .null] [] σ2 (fun r4 σ4 =>
post r4 σ4))) ∧ (¬ r2 = 0 →
post (-1) σ2))) ∧ (¬ r1 = 0 →
post (-1) σ1))) : tp_E 83 0 [.ref 0, .int a1, .int a2] [] σ post := tp_E_step (tp_Em h (fun r1 σ1 h1 => And.intro (fun c3 => tp_Em (h1.1 c3) (fun r2 σ2 h2 => And.intro (fun c4 => Exists.intro _ (And.intro (tp_wk_rf _) (tp_E_step (And.intro (h2.1 c4).1 (And.intro (fun c7 => And.intro (by decide) (tp_Em ((h2.1 c4).2.1 c7) (fun r5 σ5 h5 => And.intro rfl h5))) (fun c7 => And.intro (by decide) (tp_Em ((h2.1 c4).2.2 c7) (fun r6 σ6 h6 => And.intro rfl h6)))))))) (fun c4 => Exists.intro _ (And.intro (tp_wk_rf _) (tp_E_step (And.intro rfl (h2.2 c4))))))) (fun c3 => Exists.intro _ (And.intro (tp_wk_rf _) (tp_E_step (And.intro rfl (h1.2 c3)))))))
/-- X9_change (II)I, 0 -/
theorem sg_84_0 {post : Int32 → tp_St → Prop} {σ : tp_St} (a1 : Int32) (a2 : Int32)  (h : tp_E 91 0 [.int a1, .int 0, .int 1439] [] σ (fun r1 σ1 =>
(r1 = 0 →
tp_E 91 0 [.int a2, .int a1, .int 1439] [] σ1 (fun r2 σ2 =>
(r2 = 0 →
(σ2.2.1 = 24 ∨ σ2.2.1 = 25) ∧ (σ2.2.1 = 24 →
tp_E 13 0 [.ref 24, .int (a2 - a1)] [] σ2 (fun r3 σ3 =>
(r3 = 0 →
post 0 σ3) ∧ (¬ r3 = 0 →
post 1 σ3))) ∧ (σ2.2.1 = 25 →
tp_E 13 0 [.ref 25, .int (a2 - a1)] [] σ2 (fun r4 σ4 =>
(r4 = 0 →
post 0 σ4) ∧ (¬ r4 = 0 →
post 1 σ4)))) ∧ (¬ r2 = 0 →
post (-1) σ2))) ∧ (¬ r1 = 0 →
post (-1) σ1))) : tp_E 84 0 [.ref 0, .int a1, .int a2] [] σ post := tp_E_step (tp_Em h (fun r1 σ1 h1 => And.intro (fun c3 => tp_Em (h1.1 c3) (fun r2 σ2 h2 => And.intro (fun c4 => Exists.intro _ (And.intro (tp_wk_rf _) (tp_E_step (And.intro (h2.1 c4).1 (And.intro (fun c7 => tp_Em ((h2.1 c4).2.1 c7) (fun r5 σ5 h5 => And.intro (fun c8 => Exists.intro _ (And.intro (tp_wk_rf _) (tp_E_step (Exists.intro _ (And.intro (tp_wk_rf _) (tp_E_step (And.intro rfl (h5.1 c8)))))))) (fun c8 => Exists.intro _ (And.intro (tp_wk_rf _) (tp_E_step (And.intro rfl (h5.2 c8))))))) (fun c7 => tp_Em ((h2.1 c4).2.2 c7) (fun r6 σ6 h6 => And.intro (fun c9 => Exists.intro _ (And.intro (tp_wk_rf _) (tp_E_step (Exists.intro _ (And.intro (tp_wk_rf _) (tp_E_step (And.intro rfl (h6.1 c9)))))))) (fun c9 => Exists.intro _ (And.intro (tp_wk_rf _) (tp_E_step (And.intro rfl (h6.2 c9)))))))))))) (fun c4 => Exists.intro _ (And.intro (tp_wk_rf _) (tp_E_step (And.intro rfl (h2.2 c4))))))) (fun c3 => Exists.intro _ (And.intro (tp_wk_rf _) (tp_E_step (And.intro rfl (h1.2 c3)))))))
/-- X9_duty (II)I, 0 -/
theorem sg_85_0 {post : Int32 → tp_St → Prop} {σ : tp_St} (a1 : Int32) (a2 : Int32)  (h : tp_E 91 0 [.int a1, .int 0, .int 1440] [] σ (fun r1 σ1 =>
(r1 = 0 →
tp_E 91 0 [.int a2, .int (a1 + 1), .int 1440] [] σ1 (fun r2 σ2 =>
(r2 = 0 →
tp_E 19 0 [.ref 7, .int a1, .int a2, .null] [] σ2 (fun r3 σ3 =>
post r3 σ3)) ∧ (¬ r2 = 0 →
post (-1) σ2))) ∧ (¬ r1 = 0 →
post (-1) σ1))) : tp_E 85 0 [.ref 0, .int a1, .int a2] [] σ post := tp_E_step (tp_Em h (fun r1 σ1 h1 => And.intro (fun c3 => tp_Em (h1.1 c3) (fun r2 σ2 h2 => And.intro (fun c4 => Exists.intro _ (And.intro (tp_wk_rf _) (tp_E_step (tp_Em (h2.1 c4) (fun r5 σ5 h5 => And.intro rfl h5))))) (fun c4 => Exists.intro _ (And.intro (tp_wk_rf _) (tp_E_step (And.intro rfl (h2.2 c4))))))) (fun c3 => Exists.intro _ (And.intro (tp_wk_rf _) (tp_E_step (And.intro rfl (h1.2 c3)))))))
/-- X9_rest (I)I, 0 -/
theorem sg_86_0 {post : Int32 → tp_St → Prop} {σ : tp_St} (a1 : Int32)  (h : tp_E 91 0 [.int a1, .int 0, .int 600] [] σ (fun r1 σ1 =>
(r1 = 0 →
tp_E 20 0 [.ref 7, .int a1, .null] [] σ1 (fun r2 σ2 =>
post r2 σ2)) ∧ (¬ r1 = 0 →
post (-1) σ1))) : tp_E 86 0 [.ref 0, .int a1] [] σ post := tp_E_step (tp_Em h (fun r1 σ1 h1 => And.intro (fun c2 => Exists.intro _ (And.intro (tp_wk_rf _) (tp_E_step (tp_Em (h1.1 c2) (fun r3 σ3 h3 => Exists.intro _ (And.intro (tp_wk_rf _) (tp_E_step (And.intro rfl h3)))))))) (fun c2 => Exists.intro _ (And.intro (tp_wk_rf _) (tp_E_step (And.intro rfl (h1.2 c2)))))))
/-- X9_crew (I)I, 0 -/
theorem sg_87_0 {post : Int32 → tp_St → Prop} {σ : tp_St} (a1 : Int32)  (h : tp_E 91 0 [.int a1, .int 0, .int ((σ.1 7 4) - 1)] [] σ (fun r1 σ1 =>
(r1 = 0 →
vp_in a1 10 ∧
post (σ1.1 31 (a1).toNatClampNeg) σ1) ∧ (¬ r1 = 0 →
post (-1) σ1))) : tp_E 87 0 [.ref 0, .int a1] [] σ post := tp_E_step (tp_Em h (fun r1 σ1 h1 => And.intro (fun c2 => Exists.intro _ (And.intro (tp_wk_rf _) (tp_E_step (And.intro (h1.1 c2).1 (Exists.intro _ (And.intro (tp_wk_rf _) (tp_E_step (And.intro rfl (h1.1 c2).2)))))))) (fun c2 => Exists.intro _ (And.intro (tp_wk_rf _) (tp_E_step (And.intro rfl (h1.2 c2)))))))
/-- X9_crews (I)I, 0 -/
theorem sg_88_0 {post : Int32 → tp_St → Prop} {σ : tp_St} (a1 : Int32)  (h : tp_E 91 0 [.int a1, .int 0, .int 2] [] σ (fun r1 σ1 =>
(r1 = 0 →
(a1 = 0 →
post (σ1.1 7 5) σ1) ∧ (¬ a1 = 0 →
tp_E 25 0 [.ref 7, .null, .null, .null, .null] [] σ1 (fun r2 σ2 =>
(a1 = 1 →
(0 ≤ r2 →
tp_E 24 0 [.ref 7, .int r2, .null, .null] [] σ2 (fun r3 σ3 =>
post r3 σ3)) ∧ (¬ 0 ≤ r2 →
post 0 σ2)) ∧ (¬ a1 = 1 →
(0 ≤ r2 →
post r2 σ2) ∧ (¬ 0 ≤ r2 →
post (-4) σ2))))) ∧ (¬ r1 = 0 →
post (-1) σ1))) : tp_E 88 0 [.ref 0, .int a1, .null] [] σ post := tp_E_step (tp_Em h (fun r1 σ1 h1 => And.intro (fun c2 => Exists.intro _ (And.intro (tp_wk_rf _) (tp_E_step (And.intro (fun c3 => And.intro rfl ((h1.1 c2).1 c3)) (fun c3 => Exists.intro _ (And.intro (tp_wk_rf _) (tp_E_step (tp_Em ((h1.1 c2).2 c3) (fun r4 σ4 h4 => And.intro (fun c5 => And.intro (fun c6 => Exists.intro _ (And.intro (tp_wk_rf _) (tp_E_step (tp_Em ((h4.1 c5).1 c6) (fun r7 σ7 h7 => Exists.intro _ (And.intro (tp_wk_rf _) (tp_E_step (And.intro rfl h7)))))))) (fun c6 => Exists.intro _ (And.intro (tp_wk_rf _) (tp_E_step (And.intro rfl ((h4.1 c5).2 c6)))))) (fun c5 => Exists.intro _ (And.intro (tp_wk_rf _) (tp_E_step (And.intro (fun c8 => Exists.intro _ (And.intro (tp_wk_rf _) (tp_E_step (Exists.intro _ (And.intro (tp_wk_rf _) (tp_E_step (And.intro rfl ((h4.2 c5).1 c8)))))))) (fun c8 => Exists.intro _ (And.intro (tp_wk_rf _) (tp_E_step (And.intro rfl ((h4.2 c5).2 c8)))))))))))))))))) (fun c2 => And.intro rfl (h1.2 c2))))
/-- X9_ill (I)I, 0 -/
theorem sg_89_0 {post : Int32 → tp_St → Prop} {σ : tp_St} (a1 : Int32)  (h : tp_E 91 0 [.int a1, .int 0, .int ((σ.1 7 5) - 1)] [] σ (fun r1 σ1 =>
(r1 = 0 →
tp_E 26 0 [.ref 7, .int a1, .null, .null] [] σ1 (fun r2 σ2 =>
post r2 σ2)) ∧ (¬ r1 = 0 →
post (-1) σ1))) : tp_E 89 0 [.ref 0, .int a1] [] σ post := tp_E_step (tp_Em h (fun r1 σ1 h1 => And.intro (fun c2 => Exists.intro _ (And.intro (tp_wk_rf _) (tp_E_step (tp_Em (h1.1 c2) (fun r3 σ3 h3 => Exists.intro _ (And.intro (tp_wk_rf _) (tp_E_step (And.intro rfl h3)))))))) (fun c2 => Exists.intro _ (And.intro (tp_wk_rf _) (tp_E_step (And.intro rfl (h1.2 c2)))))))
/-- X9_count (I)I, 0 -/
theorem sg_90_0 {post : Int32 → tp_St → Prop} {σ : tp_St} (a1 : Int32)  (h : ((a1.toInt < 0 ∨ 7 < a1.toInt) →
post (-1) σ) ∧ (a1.toInt = 0 →
post (σ.1 1 2) σ) ∧ (a1.toInt = 1 →
post (σ.1 3 3) σ) ∧ (a1.toInt = 2 →
post (σ.1 4 4) σ) ∧ (a1.toInt = 3 →
tp_E 56 0 [.ref 3, .null, .null] [] σ (fun r1 σ1 =>
post r1 σ1)) ∧ (a1.toInt = 4 →
post (σ.1 7 4) σ) ∧ (a1.toInt = 5 →
(σ.2.1 = 24 ∨ σ.2.1 = 25) ∧ (σ.2.1 = 24 →
tp_E 7 0 [.ref 24] [] σ (fun r2 σ2 =>
post r2 σ2)) ∧ (σ.2.1 = 25 →
tp_E 7 0 [.ref 25] [] σ (fun r3 σ3 =>
post r3 σ3))) ∧ (a1.toInt = 6 →
tp_E 41 0 [.ref 20] [] σ (fun r4 σ4 =>
(r4 = 0 →
post (σ4.1 20 2) σ4) ∧ (¬ r4 = 0 →
post (-4) σ4))) ∧ (a1.toInt = 7 →
post (σ.1 19 1) σ)) : tp_E 90 0 [.ref 0, .int a1] [] σ post := tp_E_step (And.intro (fun c1 => Exists.intro _ (And.intro (tp_wk_rf _) (tp_E_step (And.intro rfl (h.1 c1))))) (And.intro (fun c1 => Exists.intro _ (And.intro (tp_wk_rf _) (tp_E_step (And.intro rfl (h.2.1 c1))))) (And.intro (fun c1 => Exists.intro _ (And.intro (tp_wk_rf _) (tp_E_step (And.intro rfl (h.2.2.1 c1))))) (And.intro (fun c1 => Exists.intro _ (And.intro (tp_wk_rf _) (tp_E_step (And.intro rfl (h.2.2.2.1 c1))))) (And.intro (fun c1 => Exists.intro _ (And.intro (tp_wk_rf _) (tp_E_step (tp_Em (h.2.2.2.2.1 c1) (fun r10 σ10 h10 => And.intro rfl h10))))) (And.intro (fun c1 => Exists.intro _ (And.intro (tp_wk_rf _) (tp_E_step (And.intro rfl (h.2.2.2.2.2.1 c1))))) (And.intro (fun c1 => Exists.intro _ (And.intro (tp_wk_rf _) (tp_E_step (And.intro (h.2.2.2.2.2.2.1 c1).1 (And.intro (fun c9 => tp_Em ((h.2.2.2.2.2.2.1 c1).2.1 c9) (fun r7 σ7 h7 => And.intro rfl h7)) (fun c9 => tp_Em ((h.2.2.2.2.2.2.1 c1).2.2 c9) (fun r8 σ8 h8 => And.intro rfl h8))))))) (And.intro (fun c1 => Exists.intro _ (And.intro (tp_wk_rf _) (tp_E_step (And.intro (show ¬ ((0 : Int32) < 0 ∨ 4 ≤ (0 : Int32).toNatClampNeg) from by decide) (And.intro (fun _ => tp_Em (h.2.2.2.2.2.2.2.1 c1) (fun r2 σ2 h2 => And.intro (fun c6 => Exists.intro _ (And.intro (tp_wk_rf _) (tp_E_step (And.intro (show ¬ ((0 : Int32) < 0 ∨ 4 ≤ (0 : Int32).toNatClampNeg) from by decide) (And.intro (fun _ => Exists.intro _ (And.intro (tp_wk_rf _) (tp_E_step (And.intro rfl (h2.1 c6))))) (And.intro (fun hc => absurd hc (show ¬ (0 : Int32) = 1 from by decide)) (And.intro (fun hc => absurd hc (show ¬ (0 : Int32) = 2 from by decide)) (fun hc => absurd hc (show ¬ (0 : Int32) = 3 from by decide))))))))) (fun c6 => Exists.intro _ (And.intro (tp_wk_rf _) (tp_E_step (And.intro rfl (h2.2 c6))))))) (And.intro (fun hc => absurd hc (show ¬ (0 : Int32) = 1 from by decide)) (And.intro (fun hc => absurd hc (show ¬ (0 : Int32) = 2 from by decide)) (fun hc => absurd hc (show ¬ (0 : Int32) = 3 from by decide))))))))) (And.intro (fun c1 => Exists.intro _ (And.intro (tp_wk_rf _) (tp_E_step (And.intro rfl (h.2.2.2.2.2.2.2.2 c1))))) (trivial))))))))))
/-- X9_isOutside (III)Z, 0 -/
theorem sg_91_0 {post : Int32 → tp_St → Prop} {σ : tp_St} (a0 : Int32) (a1 : Int32) (a2 : Int32)  (h : (a0 < a1 →
post 1 σ) ∧ (¬ a0 < a1 →
(a0 ≤ a2 →
post 0 σ) ∧ (¬ a0 ≤ a2 →
post 1 σ))) : tp_E 91 0 [.int a0, .int a1, .int a2] [] σ post := tp_E_step (And.intro (fun c1 => Exists.intro _ (And.intro (tp_wk_rf _) (tp_E_step (Exists.intro _ (And.intro (tp_wk_rf _) (tp_E_step (And.intro rfl (h.1 c1)))))))) (fun c1 => And.intro (fun c2 => Exists.intro _ (And.intro (tp_wk_rf _) (tp_E_step (Exists.intro _ (And.intro (tp_wk_rf _) (tp_E_step (And.intro rfl ((h.2 c1).1 c2)))))))) (fun c2 => Exists.intro _ (And.intro (tp_wk_rf _) (tp_E_step (Exists.intro _ (And.intro (tp_wk_rf _) (tp_E_step (And.intro rfl ((h.2 c1).2 c2))))))))))
/-- X9_hasPack (II)Z, 0 -/
theorem sg_92_0 {post : Int32 → tp_St → Prop} {σ : tp_St} (a1 : Int32) (a2 : Int32)  (h : tp_E 91 0 [.int a1, .int 0, .int 5] [] σ (fun r1 σ1 =>
(r1 = 0 →
tp_E 59 0 [.ref 1, .int a2] [] σ1 (fun r2 σ2 =>
(r2 = 0 →
post 0 σ2) ∧ (¬ r2 = 0 →
post 1 σ2))) ∧ (¬ r1 = 0 →
post 0 σ1))) : tp_E 92 0 [.ref 0, .int a1, .int a2] [] σ post := tp_E_step (tp_Em h (fun r1 σ1 h1 => And.intro (fun c3 => tp_Em (h1.1 c3) (fun r2 σ2 h2 => And.intro (fun c4 => Exists.intro _ (And.intro (tp_wk_rf _) (tp_E_step (Exists.intro _ (And.intro (tp_wk_rf _) (tp_E_step (And.intro rfl (h2.1 c4)))))))) (fun c4 => Exists.intro _ (And.intro (tp_wk_rf _) (tp_E_step (And.intro rfl (h2.2 c4))))))) (fun c3 => Exists.intro _ (And.intro (tp_wk_rf _) (tp_E_step (Exists.intro _ (And.intro (tp_wk_rf _) (tp_E_step (And.intro rfl (h1.2 c3))))))))))
/-- X9_takings (I)I, 0 -/
theorem sg_93_0 {post : Int32 → tp_St → Prop} {σ : tp_St} (a1 : Int32)  (h : tp_E 93 4 [.ref 0, .int a1, .int 0, .int 0] [] σ post) : tp_E 93 0 [.ref 0, .int a1, .null, .null] [] σ post := tp_E_step (Exists.intro [.ref 0, .int a1, .int 0, .int 0] (And.intro (And.intro (Or.inr rfl) (And.intro (Or.inr rfl) (And.intro (Or.inr rfl) (And.intro (Or.inr rfl) (trivial))))) h))
/-- X9_takings (I)I, 4 -/
theorem sg_93_4 {post : Int32 → tp_St → Prop} {σ : tp_St} (a1 : Int32) (a2 : Int32) (a3 : Int32)  (h : ((σ.1 4 4) ≤ a3 →
post a2 σ) ∧ (¬ (σ.1 4 4) ≤ a3 →
vp_in a3 200 ∧
((σ.1 15 (a3).toNatClampNeg) = a1 →
vp_in a3 200 ∧
vp_in (σ.1 16 (a3).toNatClampNeg) 5 ∧
tp_E 93 4 [.ref 0, .int a1, .int (a2 + (σ.1 8 ((σ.1 16 (a3).toNatClampNeg)).toNatClampNeg)), .int (a3 + 1)] [] σ post) ∧ (¬ (σ.1 15 (a3).toNatClampNeg) = a1 →
tp_E 93 4 [.ref 0, .int a1, .int a2, .int (a3 + 1)] [] σ post))) : tp_E 93 4 [.ref 0, .int a1, .int a2, .int a3] [] σ post := tp_E_step (And.intro (fun c1 => Exists.intro _ (And.intro (tp_wk_rf _) (tp_E_step (And.intro rfl (h.1 c1))))) (fun c1 => And.intro (h.2 c1).1 (And.intro (fun c2 => And.intro ((h.2 c1).2.1 c2).1 (And.intro ((h.2 c1).2.1 c2).2.1 (Exists.intro _ (And.intro (tp_wk_rf _) (tp_E_step (Exists.intro [.ref 0, .int a1, .int (a2 + (σ.1 8 ((σ.1 16 (a3).toNatClampNeg)).toNatClampNeg)), .int (a3 + 1)] (And.intro (And.intro (Or.inr rfl) (And.intro (Or.inr rfl) (And.intro (Or.inr rfl) (And.intro (Or.inr rfl) (trivial))))) ((h.2 c1).2.1 c2).2.2))))))) (fun c2 => Exists.intro _ (And.intro (tp_wk_rf _) (tp_E_step (Exists.intro [.ref 0, .int a1, .int a2, .int (a3 + 1)] (And.intro (And.intro (Or.inr rfl) (And.intro (Or.inr rfl) (And.intro (Or.inr rfl) (And.intro (Or.inr rfl) (trivial))))) ((h.2 c1).2.2 c2)))))))))
/-- X9_howManyAboard (III)I, 0 -/
theorem sg_94_0 {post : Int32 → tp_St → Prop} {σ : tp_St} (a1 : Int32) (a2 : Int32) (a3 : Int32)  (h : tp_E 94 6 [.ref 0, .int a1, .int a2, .int a3, .int 0, .int 0] [] σ post) : tp_E 94 0 [.ref 0, .int a1, .int a2, .int a3, .null, .null] [] σ post := tp_E_step (Exists.intro [.ref 0, .int a1, .int a2, .int a3, .int 0, .int 0] (And.intro (And.intro (Or.inr rfl) (And.intro (Or.inr rfl) (And.intro (Or.inr rfl) (And.intro (Or.inr rfl) (And.intro (Or.inr rfl) (And.intro (Or.inr rfl) (trivial))))))) h))
/-- X9_howManyAboard (III)I, 6 -/
theorem sg_94_6 {post : Int32 → tp_St → Prop} {σ : tp_St} (a1 : Int32) (a2 : Int32) (a3 : Int32) (a4 : Int32) (a5 : Int32)  (h : ((σ.1 4 4) ≤ a5 →
post a4 σ) ∧ (¬ (σ.1 4 4) ≤ a5 →
vp_in a5 200 ∧
((σ.1 15 (a5).toNatClampNeg) = a1 →
tp_E 95 0 [.ref 0, .int a5, .int a2, .int a3, .null] [] σ (fun r1 σ1 =>
(r1 = 0 →
tp_E 94 6 [.ref 0, .int a1, .int a2, .int a3, .int a4, .int (a5 + 1)] [] σ1 post) ∧ (¬ r1 = 0 →
tp_E 94 6 [.ref 0, .int a1, .int a2, .int a3, .int (a4 + 1), .int (a5 + 1)] [] σ1 post))) ∧ (¬ (σ.1 15 (a5).toNatClampNeg) = a1 →
tp_E 94 6 [.ref 0, .int a1, .int a2, .int a3, .int a4, .int (a5 + 1)] [] σ post))) : tp_E 94 6 [.ref 0, .int a1, .int a2, .int a3, .int a4, .int a5] [] σ post := tp_E_step (And.intro (fun c2 => Exists.intro _ (And.intro (tp_wk_rf _) (tp_E_step (And.intro rfl (h.1 c2))))) (fun c2 => And.intro (h.2 c2).1 (And.intro (fun c3 => tp_Em ((h.2 c2).2.1 c3) (fun r1 σ1 h1 => And.intro (fun c4 => Exists.intro _ (And.intro (tp_wk_rf _) (tp_E_step (Exists.intro [.ref 0, .int a1, .int a2, .int a3, .int a4, .int (a5 + 1)] (And.intro (And.intro (Or.inr rfl) (And.intro (Or.inr rfl) (And.intro (Or.inr rfl) (And.intro (Or.inr rfl) (And.intro (Or.inr rfl) (And.intro (Or.inr rfl) (trivial))))))) (h1.1 c4)))))) (fun c4 => Exists.intro _ (And.intro (tp_wk_rf _) (tp_E_step (Exists.intro [.ref 0, .int a1, .int a2, .int a3, .int (a4 + 1), .int (a5 + 1)] (And.intro (And.intro (Or.inr rfl) (And.intro (Or.inr rfl) (And.intro (Or.inr rfl) (And.intro (Or.inr rfl) (And.intro (Or.inr rfl) (And.intro (Or.inr rfl) (trivial))))))) (h1.2 c4)))))))) (fun c3 => Exists.intro _ (And.intro (tp_wk_rf _) (tp_E_step (Exists.intro [.ref 0, .int a1, .int a2, .int a3, .int a4, .int (a5 + 1)] (And.intro (And.intro (Or.inr rfl) (And.intro (Or.inr rfl) (And.intro (Or.inr rfl) (And.intro (Or.inr rfl) (And.intro (Or.inr rfl) (And.intro (Or.inr rfl) (trivial))))))) ((h.2 c2).2.2 c3)))))))))
/-- X9_isAboard (III)Z, 0 -/
theorem sg_95_0 {post : Int32 → tp_St → Prop} {σ : tp_St} (a1 : Int32) (a2 : Int32) (a3 : Int32)  (h : vp_in a1 200 ∧
tp_E 58 0 [.ref 3, .int (σ.1 15 (a1).toNatClampNeg), .int a2] [] σ (fun r1 σ1 =>
(a3 = 0 →
vp_in a1 200 ∧
((σ1.1 17 (a1).toNatClampNeg) = r1 →
post 1 σ1) ∧ (¬ (σ1.1 17 (a1).toNatClampNeg) = r1 →
post 0 σ1)) ∧ (¬ a3 = 0 →
tp_E 96 0 [.ref 0, .int a1, .int r1, .null] [] σ1 (fun r2 σ2 =>
narrow .boolean (.int r2) = .int r2 ∧ post r2 σ2)))) : tp_E 95 0 [.ref 0, .int a1, .int a2, .int a3, .null] [] σ post := tp_E_step (And.intro h.1 (tp_Em h.2 (fun r1 σ1 h1 => And.intro (fun c2 => And.intro (h1.1 c2).1 (And.intro (fun c3 => Exists.intro _ (And.intro (tp_wk_rf _) (tp_E_step (And.intro rfl ((h1.1 c2).2.1 c3))))) (fun c3 => Exists.intro _ (And.intro (tp_wk_rf _) (tp_E_step (Exists.intro _ (And.intro (tp_wk_rf _) (tp_E_step (And.intro rfl ((h1.1 c2).2.2 c3)))))))))) (fun c2 => Exists.intro _ (And.intro (tp_wk_rf _) (tp_E_step (tp_Em (h1.2 c2) (fun r4 σ4 h4 => Exists.intro _ (And.intro (tp_wk_rf _) (tp_E_step (h4)))))))))))
/-- X9_isGoodAt (II)Z, 0 -/
theorem sg_96_0 {post : Int32 → tp_St → Prop} {σ : tp_St} (a1 : Int32) (a2 : Int32)  (h : vp_in a1 200 ∧
(a2 < (σ.1 17 (a1).toNatClampNeg) →
post 0 σ) ∧ (¬ a2 < (σ.1 17 (a1).toNatClampNeg) →
vp_in a1 200 ∧
vp_in (σ.1 16 (a1).toNatClampNeg) 5 ∧
(((σ.1 17 (a1).toNatClampNeg) + (σ.1 9 ((σ.1 16 (a1).toNatClampNeg)).toNatClampNeg)) ≤ a2 →
post 0 σ) ∧ (¬ ((σ.1 17 (a1).toNatClampNeg) + (σ.1 9 ((σ.1 16 (a1).toNatClampNeg)).toNatClampNeg)) ≤ a2 →
post 1 σ))) : tp_E 96 0 [.ref 0, .int a1, .int a2, .null] [] σ post := tp_E_step (And.intro h.1 (And.intro (fun c1 => Exists.intro _ (And.intro (tp_wk_rf _) (tp_E_step (Exists.intro _ (And.intro (tp_wk_rf _) (tp_E_step (And.intro rfl (h.2.1 c1)))))))) (fun c1 => And.intro (h.2.2 c1).1 (And.intro (h.2.2 c1).2.1 (And.intro (fun c2 => Exists.intro _ (And.intro (tp_wk_rf _) (tp_E_step (Exists.intro _ (And.intro (tp_wk_rf _) (tp_E_step (And.intro rfl ((h.2.2 c1).2.2.1 c2)))))))) (fun c2 => Exists.intro _ (And.intro (tp_wk_rf _) (tp_E_step (And.intro rfl ((h.2.2 c1).2.2.2 c2))))))))))
/-- X9_sellFromSheet (ILTramPence$Sheet;I)I, 0 -/
theorem sg_97_0 {post : Int32 → tp_St → Prop} {σ : tp_St} (a1 : Int32) (q2 : Nat) (a3 : Int32) (hq2 : q2 = 20 ∨ q2 = 21 ∨ q2 = 22 ∨ q2 = 23) (h : tp_E 42 0 [.ref q2, .int a3] [] σ (fun r1 σ1 =>
(r1 = 0 →
post (-12) σ1) ∧ (¬ r1 = 0 →
tp_E 42 0 [.ref q2, .int (a3 + 1)] [] σ1 (fun r2 σ2 =>
(r2 = 0 →
post (-12) σ2) ∧ (¬ r2 = 0 →
vp_in a3 64 ∧
vp_in (a3 + 1) 64 ∧
tp_E 66 0 [.ref 0, .int a1, .int (σ2.1 (tp_rr σ2 q2 0) (a3).toNatClampNeg), .int (σ2.1 (tp_rr σ2 q2 0) ((a3 + 1)).toNatClampNeg), .null, .null, .null] [] σ2 (fun r3 σ3 =>
(0 ≤ r3 →
post r3 σ3) ∧ (¬ 0 ≤ r3 →
post ((-20) + r3) σ3))))))) : tp_E 97 0 [.ref 0, .int a1, .ref q2, .int a3, .null] [] σ post := by
  rcases hq2 with rfl | rfl | rfl | rfl
  · exact tp_E_step (tp_Em h (fun r1 σ1 h1 => And.intro (fun c3 => Exists.intro _ (And.intro (tp_wk_rf _) (tp_E_step (And.intro rfl (h1.1 c3))))) (fun c3 => tp_Em (h1.2 c3) (fun r2 σ2 h2 => And.intro (fun c4 => Exists.intro _ (And.intro (tp_wk_rf _) (tp_E_step (And.intro rfl (h2.1 c4))))) (fun c4 => Exists.intro _ (And.intro (tp_wk_rf _) (tp_E_step (And.intro (h2.2 c4).1 (And.intro (h2.2 c4).2.1 (tp_Em (h2.2 c4).2.2 (fun r5 σ5 h5 => And.intro (fun c6 => Exists.intro _ (And.intro (tp_wk_rf _) (tp_E_step (Exists.intro _ (And.intro (tp_wk_rf _) (tp_E_step (And.intro rfl (h5.1 c6)))))))) (fun c6 => Exists.intro _ (And.intro (tp_wk_rf _) (tp_E_step (And.intro rfl (h5.2 c6))))))))))))))))
  · exact tp_E_step (tp_Em h (fun r1 σ1 h1 => And.intro (fun c3 => Exists.intro _ (And.intro (tp_wk_rf _) (tp_E_step (And.intro rfl (h1.1 c3))))) (fun c3 => tp_Em (h1.2 c3) (fun r2 σ2 h2 => And.intro (fun c4 => Exists.intro _ (And.intro (tp_wk_rf _) (tp_E_step (And.intro rfl (h2.1 c4))))) (fun c4 => Exists.intro _ (And.intro (tp_wk_rf _) (tp_E_step (And.intro (h2.2 c4).1 (And.intro (h2.2 c4).2.1 (tp_Em (h2.2 c4).2.2 (fun r5 σ5 h5 => And.intro (fun c6 => Exists.intro _ (And.intro (tp_wk_rf _) (tp_E_step (Exists.intro _ (And.intro (tp_wk_rf _) (tp_E_step (And.intro rfl (h5.1 c6)))))))) (fun c6 => Exists.intro _ (And.intro (tp_wk_rf _) (tp_E_step (And.intro rfl (h5.2 c6))))))))))))))))
  · exact tp_E_step (tp_Em h (fun r1 σ1 h1 => And.intro (fun c3 => Exists.intro _ (And.intro (tp_wk_rf _) (tp_E_step (And.intro rfl (h1.1 c3))))) (fun c3 => tp_Em (h1.2 c3) (fun r2 σ2 h2 => And.intro (fun c4 => Exists.intro _ (And.intro (tp_wk_rf _) (tp_E_step (And.intro rfl (h2.1 c4))))) (fun c4 => Exists.intro _ (And.intro (tp_wk_rf _) (tp_E_step (And.intro (h2.2 c4).1 (And.intro (h2.2 c4).2.1 (tp_Em (h2.2 c4).2.2 (fun r5 σ5 h5 => And.intro (fun c6 => Exists.intro _ (And.intro (tp_wk_rf _) (tp_E_step (Exists.intro _ (And.intro (tp_wk_rf _) (tp_E_step (And.intro rfl (h5.1 c6)))))))) (fun c6 => Exists.intro _ (And.intro (tp_wk_rf _) (tp_E_step (And.intro rfl (h5.2 c6))))))))))))))))
  · exact tp_E_step (tp_Em h (fun r1 σ1 h1 => And.intro (fun c3 => Exists.intro _ (And.intro (tp_wk_rf _) (tp_E_step (And.intro rfl (h1.1 c3))))) (fun c3 => tp_Em (h1.2 c3) (fun r2 σ2 h2 => And.intro (fun c4 => Exists.intro _ (And.intro (tp_wk_rf _) (tp_E_step (And.intro rfl (h2.1 c4))))) (fun c4 => Exists.intro _ (And.intro (tp_wk_rf _) (tp_E_step (And.intro (h2.2 c4).1 (And.intro (h2.2 c4).2.1 (tp_Em (h2.2 c4).2.2 (fun r5 σ5 h5 => And.intro (fun c6 => Exists.intro _ (And.intro (tp_wk_rf _) (tp_E_step (Exists.intro _ (And.intro (tp_wk_rf _) (tp_E_step (And.intro rfl (h5.1 c6)))))))) (fun c6 => Exists.intro _ (And.intro (tp_wk_rf _) (tp_E_step (And.intro rfl (h5.2 c6))))))))))))))))
/-- X9_takeBack (I)V, 0 -/
theorem sg_98_0 {post : Int32 → tp_St → Prop} {σ : tp_St} (a1 : Int32)  (h : tp_E 98 2 [.ref 0, .int a1, .int 0] [] σ post) : tp_E 98 0 [.ref 0, .int a1, .null] [] σ post := tp_E_step (Exists.intro [.ref 0, .int a1, .int 0] (And.intro (And.intro (Or.inr rfl) (And.intro (Or.inr rfl) (And.intro (Or.inr rfl) (trivial)))) h))
/-- X9_takeBack (I)V, 2 -/
theorem sg_98_2 {post : Int32 → tp_St → Prop} {σ : tp_St} (a1 : Int32) (a2 : Int32)  (h : (a1 ≤ a2 →
post 0 σ) ∧ (¬ a1 ≤ a2 →
((σ.1 4 4) ≤ 0 →
post 0 σ) ∧ (¬ (σ.1 4 4) ≤ 0 →
tp_E 99 0 [.ref 0, .null, .null] [] σ (fun r1 σ1 =>
tp_E 98 2 [.ref 0, .int a1, .int (a2 + 1)] [] σ1 post)))) : tp_E 98 2 [.ref 0, .int a1, .int a2] [] σ post := tp_E_step (And.intro (fun c2 => Exists.intro _ (And.intro (tp_wk_rf _) (tp_E_step ((h.1 c2))))) (fun c2 => And.intro (fun c3 => Exists.intro _ (And.intro (tp_wk_rf _) (tp_E_step (((h.2 c2).1 c3))))) (fun c3 => tp_Em ((h.2 c2).2 c3) (fun r1 σ1 h1 => Exists.intro [.ref 0, .int a1, .int (a2 + 1)] (And.intro (And.intro (Or.inr rfl) (And.intro (Or.inr rfl) (And.intro (Or.inr rfl) (trivial)))) h1)))))
/-- X9_takeBackLatest ()V, 0 -/
theorem sg_99_0 {post : Int32 → tp_St → Prop} {σ : tp_St}   (h : vp_in ((σ.1 4 4) - 1) 200 ∧
vp_in (σ.1 15 (((σ.1 4 4) - 1)).toNatClampNeg) 16 ∧
vp_in (σ.1 12 ((σ.1 15 (((σ.1 4 4) - 1)).toNatClampNeg)).toNatClampNeg) 6 ∧
vp_in ((σ.1 4 4) - 1) 200 ∧
vp_in ((σ.1 4 4) - 1) 200 ∧
vp_in (σ.1 16 (((σ.1 4 4) - 1)).toNatClampNeg) 5 ∧
post 0 (tp_set (tp_set σ (46 + ((σ.1 12 ((σ.1 15 (((σ.1 4 4) - 1)).toNatClampNeg)).toNatClampNeg)).toNatClampNeg) ((σ.1 16 (((σ.1 4 4) - 1)).toNatClampNeg)).toNatClampNeg (σ.1 18 (((σ.1 4 4) - 1)).toNatClampNeg)) 4 4 ((σ.1 4 4) - 1))) : tp_E 99 0 [.ref 0, .null, .null] [] σ post := tp_E_step (And.intro h.1 (And.intro h.2.1 (And.intro h.2.2.1 (And.intro h.2.2.2.1 (And.intro h.2.2.2.2.1 (tp_rs (tp_rk46 h.2.2.1) (And.intro h.2.2.2.2.2.1 (h.2.2.2.2.2.2))))))))
/-- X9_beyondHeld (II)I, 0 -/
theorem sg_100_0 {post : Int32 → tp_St → Prop} {σ : tp_St} (a1 : Int32) (a2 : Int32)  (h : tp_E 35 0 [.ref 4, .int a1, .int a2, .null, .null] [] σ (fun r1 σ1 =>
tp_E 18 0 [.ref 2, .int a1, .int r1, .null, .null] [] σ1 (fun r2 σ2 =>
post r2 σ2))) : tp_E 100 0 [.ref 0, .int a1, .int a2] [] σ post := tp_E_step (tp_Em h (fun r1 σ1 h1 => tp_Em h1 (fun r2 σ2 h2 => And.intro rfl h2)))
/-- X10_in (JJJ)Z, 0 -/
theorem sg_101_0 {post : Int32 → tp_St → Prop} {σ : tp_St} (a0 : Int64) (a2 : Int64) (a4 : Int64)  (h : ((lg_cmp a0 a2) < 0 →
post 0 σ) ∧ (¬ (lg_cmp a0 a2) < 0 →
(0 < (lg_cmp a0 a4) →
post 0 σ) ∧ (¬ 0 < (lg_cmp a0 a4) →
post 1 σ))) : tp_E 101 0 [.long a0, .null, .long a2, .null, .long a4, .null] [] σ post := tp_E_step (And.intro (fun c1 => Exists.intro _ (And.intro (tp_wk_rf _) (tp_E_step (Exists.intro _ (And.intro (tp_wk_rf _) (tp_E_step (And.intro rfl (h.1 c1)))))))) (fun c1 => And.intro (fun c2 => Exists.intro _ (And.intro (tp_wk_rf _) (tp_E_step (Exists.intro _ (And.intro (tp_wk_rf _) (tp_E_step (And.intro rfl ((h.2 c1).1 c2)))))))) (fun c2 => Exists.intro _ (And.intro (tp_wk_rf _) (tp_E_step (And.intro rfl ((h.2 c1).2 c2)))))))
/-- X10_type (II)I, 0 -/
theorem sg_102_0 {post : Int32 → tp_St → Prop} {σ : tp_St} (a1 : Int32) (a2 : Int32)  (h : tp_E 101 0 [.long (a1).toInt64, .null, .long (Int64.ofNat 1), .null, .long (Int64.ofNat 60), .null] [] σ (fun r1 σ1 =>
(r1 = 0 →
post (-1) σ1) ∧ (¬ r1 = 0 →
tp_E 101 0 [.long (a2).toInt64, .null, .long (Int64.ofNat 1), .null, .long (Int64.ofNat 9), .null] [] σ1 (fun r2 σ2 =>
(r2 = 0 →
post (-1) σ2) ∧ (¬ r2 = 0 →
((σ2.1 58 0) = 5 →
post (-3) σ2) ∧ (¬ (σ2.1 58 0) = 5 →
vp_in (σ2.1 58 0) 5 ∧
vp_in (σ2.1 58 0) 5 ∧
post (((σ2.1 58 0) + 1) - 1) (tp_set (tp_set (tp_set σ2 59 ((σ2.1 58 0)).toNatClampNeg a1) 60 ((σ2.1 58 0)).toNatClampNeg a2) 58 0 ((σ2.1 58 0) + 1)))))))) : tp_E 102 0 [.ref 58, .int a1, .int a2] [] σ post := tp_E_step (tp_Em h (fun r1 σ1 h1 => And.intro (fun c3 => Exists.intro _ (And.intro (tp_wk_rf _) (tp_E_step (And.intro rfl (h1.1 c3))))) (fun c3 => tp_Em (h1.2 c3) (fun r2 σ2 h2 => And.intro (fun c4 => Exists.intro _ (And.intro (tp_wk_rf _) (tp_E_step (And.intro rfl (h2.1 c4))))) (fun c4 => Exists.intro _ (And.intro (tp_wk_rf _) (tp_E_step (And.intro (fun c5 => And.intro rfl ((h2.2 c4).1 c5)) (fun c5 => Exists.intro _ (And.intro (tp_wk_rf _) (tp_E_step (And.intro ((h2.2 c4).2 c5).1 (And.intro ((h2.2 c4).2 c5).2.1 (And.intro rfl ((h2.2 c4).2 c5).2.2))))))))))))))
/-- X10_isPack (II)Z, 0 -/
theorem sg_103_0 {post : Int32 → tp_St → Prop} {σ : tp_St} (a1 : Int32) (a2 : Int32)  (h : tp_E 101 0 [.long (a1).toInt64, .null, .long (Int64.ofNat 0), .null, .long (Int64.ofNat 5), .null] [] σ (fun r1 σ1 =>
(r1 = 0 →
post 0 σ1) ∧ (¬ r1 = 0 →
tp_E 101 0 [.long (a2).toInt64, .null, .long (Int64.ofNat 0), .null, .long (((σ1.1 58 0) - 1)).toInt64, .null] [] σ1 (fun r2 σ2 =>
(r2 = 0 →
post 0 σ2) ∧ (¬ r2 = 0 →
post 1 σ2))))) : tp_E 103 0 [.ref 58, .int a1, .int a2] [] σ post := tp_E_step (tp_Em h (fun r1 σ1 h1 => And.intro (fun c3 => Exists.intro _ (And.intro (tp_wk_rf _) (tp_E_step (Exists.intro _ (And.intro (tp_wk_rf _) (tp_E_step (And.intro rfl (h1.1 c3)))))))) (fun c3 => tp_Em (h1.2 c3) (fun r2 σ2 h2 => And.intro (fun c4 => Exists.intro _ (And.intro (tp_wk_rf _) (tp_E_step (Exists.intro _ (And.intro (tp_wk_rf _) (tp_E_step (And.intro rfl (h2.1 c4)))))))) (fun c4 => Exists.intro _ (And.intro (tp_wk_rf _) (tp_E_step (And.intro rfl (h2.2 c4)))))))))
/-- X10_issue (IIII)I, 0 -/
theorem sg_104_0 {post : Int32 → tp_St → Prop} {σ : tp_St} (a1 : Int32) (a2 : Int32) (a3 : Int32) (a4 : Int32)  (h : tp_E 103 0 [.ref 58, .int a1, .int a2] [] σ (fun r1 σ1 =>
(r1 = 0 →
post (-1) σ1) ∧ (¬ r1 = 0 →
tp_E 101 0 [.long (a3).toInt64, .null, .long (Int64.ofNat 0), .null, .long (Int64.ofNat 100000), .null] [] σ1 (fun r2 σ2 =>
(r2 = 0 →
post (-1) σ2) ∧ (¬ r2 = 0 →
tp_E 101 0 [.long (a4).toInt64, .null, .long (Int64.ofNat 0), .null, .long (Int64.ofNat 1000), .null] [] σ2 (fun r3 σ3 =>
(r3 = 0 →
post (-1) σ3) ∧ (¬ r3 = 0 →
tp_E 104 42 [.ref 58, .int a1, .int a2, .int a3, .int a4, .int 0, .int 0, .null] [] σ3 post))))))) : tp_E 104 0 [.ref 58, .int a1, .int a2, .int a3, .int a4, .null, .null, .null] [] σ post := tp_E_step (tp_Em h (fun r1 σ1 h1 => And.intro (fun c4 => Exists.intro _ (And.intro (tp_wk_rf _) (tp_E_step (And.intro rfl (h1.1 c4))))) (fun c4 => tp_Em (h1.2 c4) (fun r2 σ2 h2 => And.intro (fun c5 => Exists.intro _ (And.intro (tp_wk_rf _) (tp_E_step (And.intro rfl (h2.1 c5))))) (fun c5 => tp_Em (h2.2 c5) (fun r3 σ3 h3 => And.intro (fun c6 => Exists.intro _ (And.intro (tp_wk_rf _) (tp_E_step (And.intro rfl (h3.1 c6))))) (fun c6 => Exists.intro _ (And.intro (tp_wk_rf _) (tp_E_step (Exists.intro [.ref 58, .int a1, .int a2, .int a3, .int a4, .int 0, .int 0, .null] (And.intro (And.intro (Or.inr rfl) (And.intro (Or.inr rfl) (And.intro (Or.inr rfl) (And.intro (Or.inr rfl) (And.intro (Or.inr rfl) (And.intro (Or.inr rfl) (And.intro (Or.inr rfl) (And.intro (Or.inr rfl) (trivial))))))))) (h3.2 c6))))))))))))
/-- X10_issue (IIII)I, 42 -/
theorem sg_104_42 {post : Int32 → tp_St → Prop} {σ : tp_St} (a1 : Int32) (a2 : Int32) (a3 : Int32) (a4 : Int32) (a5 : Int32) (a6 : Int32)  (h : ((σ.1 58 9) ≤ a6 →
tp_E 104 106 [.ref 58, .int a1, .int a2, .int a3, .int a4, .int a5, .int 0, .null] [] σ post) ∧ (¬ (σ.1 58 9) ≤ a6 →
(a5 = 0 →
vp_in a6 200 ∧
((σ.1 67 (a6).toNatClampNeg) = a2 →
vp_in a6 200 ∧
tp_E 101 0 [.long ((σ.1 69 (a6).toNatClampNeg)).toInt64, .null, .long (a3).toInt64, .null, .long (((a3 + a4) - 1)).toInt64, .null] [] σ (fun r1 σ1 =>
(r1 = 0 →
tp_E 104 42 [.ref 58, .int a1, .int a2, .int a3, .int a4, .int 0, .int (a6 + 1), .null] [] σ1 post) ∧ (¬ r1 = 0 →
tp_E 104 42 [.ref 58, .int a1, .int a2, .int a3, .int a4, .int 1, .int (a6 + 1), .null] [] σ1 post))) ∧ (¬ (σ.1 67 (a6).toNatClampNeg) = a2 →
tp_E 104 42 [.ref 58, .int a1, .int a2, .int a3, .int a4, .int 0, .int (a6 + 1), .null] [] σ post)) ∧ (¬ a5 = 0 →
tp_E 104 42 [.ref 58, .int a1, .int a2, .int a3, .int a4, .int 1, .int (a6 + 1), .null] [] σ post))) : tp_E 104 42 [.ref 58, .int a1, .int a2, .int a3, .int a4, .int a5, .int a6, .null] [] σ post := tp_E_step (And.intro (fun c2 => Exists.intro _ (And.intro (tp_wk_rf _) (tp_E_step (Exists.intro [.ref 58, .int a1, .int a2, .int a3, .int a4, .int a5, .int 0, .null] (And.intro (And.intro (Or.inr rfl) (And.intro (Or.inr rfl) (And.intro (Or.inr rfl) (And.intro (Or.inr rfl) (And.intro (Or.inr rfl) (And.intro (Or.inr rfl) (And.intro (Or.inr rfl) (And.intro (Or.inr rfl) (trivial))))))))) (h.1 c2)))))) (fun c2 => And.intro (fun c3 => And.intro ((h.2 c2).1 c3).1 (And.intro (fun c4 => And.intro (((h.2 c2).1 c3).2.1 c4).1 (tp_Em (((h.2 c2).1 c3).2.1 c4).2 (fun r1 σ1 h1 => And.intro (fun c5 => Exists.intro _ (And.intro (tp_wk_rf _) (tp_E_step (Exists.intro _ (And.intro (tp_wk_rf _) (tp_E_step (Exists.intro [.ref 58, .int a1, .int a2, .int a3, .int a4, .int 0, .int (a6 + 1), .null] (And.intro (And.intro (Or.inr rfl) (And.intro (Or.inr rfl) (And.intro (Or.inr rfl) (And.intro (Or.inr rfl) (And.intro (Or.inr rfl) (And.intro (Or.inr rfl) (And.intro (Or.inr rfl) (And.intro (Or.inr rfl) (trivial))))))))) (h1.1 c5))))))))) (fun c5 => Exists.intro _ (And.intro (tp_wk_rf _) (tp_E_step (Exists.intro _ (And.intro (tp_wk_rf _) (tp_E_step (Exists.intro [.ref 58, .int a1, .int a2, .int a3, .int a4, .int 1, .int (a6 + 1), .null] (And.intro (And.intro (Or.inr rfl) (And.intro (Or.inr rfl) (And.intro (Or.inr rfl) (And.intro (Or.inr rfl) (And.intro (Or.inr rfl) (And.intro (Or.inr rfl) (And.intro (Or.inr rfl) (And.intro (Or.inr rfl) (trivial))))))))) (h1.2 c5)))))))))))) (fun c4 => Exists.intro _ (And.intro (tp_wk_rf _) (tp_E_step (Exists.intro _ (And.intro (tp_wk_rf _) (tp_E_step (Exists.intro [.ref 58, .int a1, .int a2, .int a3, .int a4, .int 0, .int (a6 + 1), .null] (And.intro (And.intro (Or.inr rfl) (And.intro (Or.inr rfl) (And.intro (Or.inr rfl) (And.intro (Or.inr rfl) (And.intro (Or.inr rfl) (And.intro (Or.inr rfl) (And.intro (Or.inr rfl) (And.intro (Or.inr rfl) (trivial))))))))) (((h.2 c2).1 c3).2.2 c4))))))))))) (fun c3 => Exists.intro _ (And.intro (tp_wk_rf _) (tp_E_step (Exists.intro _ (And.intro (tp_wk_rf _) (tp_E_step (Exists.intro [.ref 58, .int a1, .int a2, .int a3, .int a4, .int 1, .int (a6 + 1), .null] (And.intro (And.intro (Or.inr rfl) (And.intro (Or.inr rfl) (And.intro (Or.inr rfl) (And.intro (Or.inr rfl) (And.intro (Or.inr rfl) (And.intro (Or.inr rfl) (And.intro (Or.inr rfl) (And.intro (Or.inr rfl) (trivial))))))))) ((h.2 c2).2 c3)))))))))))
/-- X10_issue (IIII)I, 106 -/
theorem sg_104_106 {post : Int32 → tp_St → Prop} {σ : tp_St} (a1 : Int32) (a2 : Int32) (a3 : Int32) (a4 : Int32) (a5 : Int32) (a6 : Int32)  (h : (6 ≤ a6 →
(a5 = 0 →
vp_in ((5 * a1) + a2) 30 ∧
vp_in ((5 * a1) + a2) 30 ∧
vp_in ((5 * a1) + a2) 30 ∧
vp_in ((5 * a1) + a2) 30 ∧
post ((σ.1 62 (((5 * a1) + a2)).toNatClampNeg) - (σ.1 61 (((5 * a1) + a2)).toNatClampNeg)) (tp_set (tp_set σ 61 (((5 * a1) + a2)).toNatClampNeg a3) 62 (((5 * a1) + a2)).toNatClampNeg (a3 + a4))) ∧ (¬ a5 = 0 →
post (-2) σ)) ∧ (¬ 6 ≤ a6 →
(a5 = 0 →
(a6 = a1 →
tp_E 104 106 [.ref 58, .int a1, .int a2, .int a3, .int a4, .int 0, .int (a6 + 1), .null] [] σ post) ∧ (¬ a6 = a1 →
vp_in ((5 * a6) + a2) 30 ∧
((a3 + a4) ≤ (σ.1 61 (((5 * a6) + a2)).toNatClampNeg) →
tp_E 104 106 [.ref 58, .int a1, .int a2, .int a3, .int a4, .int 0, .int (a6 + 1), .null] [] σ post) ∧ (¬ (a3 + a4) ≤ (σ.1 61 (((5 * a6) + a2)).toNatClampNeg) →
vp_in ((5 * a6) + a2) 30 ∧
((σ.1 62 (((5 * a6) + a2)).toNatClampNeg) ≤ a3 →
tp_E 104 106 [.ref 58, .int a1, .int a2, .int a3, .int a4, .int 0, .int (a6 + 1), .null] [] σ post) ∧ (¬ (σ.1 62 (((5 * a6) + a2)).toNatClampNeg) ≤ a3 →
vp_in ((5 * a6) + a2) 30 ∧
vp_in ((5 * a6) + a2) 30 ∧
((σ.1 62 (((5 * a6) + a2)).toNatClampNeg) ≤ (σ.1 61 (((5 * a6) + a2)).toNatClampNeg) →
tp_E 104 106 [.ref 58, .int a1, .int a2, .int a3, .int a4, .int 0, .int (a6 + 1), .null] [] σ post) ∧ (¬ (σ.1 62 (((5 * a6) + a2)).toNatClampNeg) ≤ (σ.1 61 (((5 * a6) + a2)).toNatClampNeg) →
(a4 ≤ 0 →
tp_E 104 106 [.ref 58, .int a1, .int a2, .int a3, .int a4, .int 0, .int (a6 + 1), .null] [] σ post) ∧ (¬ a4 ≤ 0 →
tp_E 104 106 [.ref 58, .int a1, .int a2, .int a3, .int a4, .int 1, .int (a6 + 1), .null] [] σ post)))))) ∧ (¬ a5 = 0 →
tp_E 104 106 [.ref 58, .int a1, .int a2, .int a3, .int a4, .int 1, .int (a6 + 1), .null] [] σ post))) : tp_E 104 106 [.ref 58, .int a1, .int a2, .int a3, .int a4, .int a5, .int a6, .null] [] σ post := tp_E_step (And.intro (fun c1 => Exists.intro _ (And.intro (tp_wk_rf _) (tp_E_step (And.intro (fun c2 => Exists.intro _ (And.intro (tp_wk_rf _) (tp_E_step (And.intro ((h.1 c1).1 c2).1 (And.intro ((h.1 c1).1 c2).2.1 (And.intro ((h.1 c1).1 c2).2.2.1 (And.intro ((h.1 c1).1 c2).2.2.2.1 (And.intro rfl ((h.1 c1).1 c2).2.2.2.2)))))))) (fun c2 => And.intro rfl ((h.1 c1).2 c2)))))) (fun c1 => And.intro (fun c3 => And.intro (fun c4 => Exists.intro _ (And.intro (tp_wk_rf _) (tp_E_step (Exists.intro _ (And.intro (tp_wk_rf _) (tp_E_step (Exists.intro [.ref 58, .int a1, .int a2, .int a3, .int a4, .int 0, .int (a6 + 1), .null] (And.intro (And.intro (Or.inr rfl) (And.intro (Or.inr rfl) (And.intro (Or.inr rfl) (And.intro (Or.inr rfl) (And.intro (Or.inr rfl) (And.intro (Or.inr rfl) (And.intro (Or.inr rfl) (And.intro (Or.inl rfl) (trivial))))))))) (((h.2 c1).1 c3).1 c4))))))))) (fun c4 => And.intro (((h.2 c1).1 c3).2 c4).1 (And.intro (fun c5 => Exists.intro _ (And.intro (tp_wk_rf _) (tp_E_step (Exists.intro _ (And.intro (tp_wk_rf _) (tp_E_step (Exists.intro [.ref 58, .int a1, .int a2, .int a3, .int a4, .int 0, .int (a6 + 1), .null] (And.intro (And.intro (Or.inr rfl) (And.intro (Or.inr rfl) (And.intro (Or.inr rfl) (And.intro (Or.inr rfl) (And.intro (Or.inr rfl) (And.intro (Or.inr rfl) (And.intro (Or.inr rfl) (And.intro (Or.inl rfl) (trivial))))))))) ((((h.2 c1).1 c3).2 c4).2.1 c5))))))))) (fun c5 => And.intro ((((h.2 c1).1 c3).2 c4).2.2 c5).1 (And.intro (fun c6 => Exists.intro _ (And.intro (tp_wk_rf _) (tp_E_step (Exists.intro _ (And.intro (tp_wk_rf _) (tp_E_step (Exists.intro [.ref 58, .int a1, .int a2, .int a3, .int a4, .int 0, .int (a6 + 1), .null] (And.intro (And.intro (Or.inr rfl) (And.intro (Or.inr rfl) (And.intro (Or.inr rfl) (And.intro (Or.inr rfl) (And.intro (Or.inr rfl) (And.intro (Or.inr rfl) (And.intro (Or.inr rfl) (And.intro (Or.inl rfl) (trivial))))))))) (((((h.2 c1).1 c3).2 c4).2.2 c5).2.1 c6))))))))) (fun c6 => And.intro (((((h.2 c1).1 c3).2 c4).2.2 c5).2.2 c6).1 (And.intro (((((h.2 c1).1 c3).2 c4).2.2 c5).2.2 c6).2.1 (And.intro (fun c7 => Exists.intro _ (And.intro (tp_wk_rf _) (tp_E_step (Exists.intro _ (And.intro (tp_wk_rf _) (tp_E_step (Exists.intro [.ref 58, .int a1, .int a2, .int a3, .int a4, .int 0, .int (a6 + 1), .null] (And.intro (And.intro (Or.inr rfl) (And.intro (Or.inr rfl) (And.intro (Or.inr rfl) (And.intro (Or.inr rfl) (And.intro (Or.inr rfl) (And.intro (Or.inr rfl) (And.intro (Or.inr rfl) (And.intro (Or.inl rfl) (trivial))))))))) ((((((h.2 c1).1 c3).2 c4).2.2 c5).2.2 c6).2.2.1 c7))))))))) (fun c7 => And.intro (fun c8 => Exists.intro _ (And.intro (tp_wk_rf _) (tp_E_step (Exists.intro _ (And.intro (tp_wk_rf _) (tp_E_step (Exists.intro [.ref 58, .int a1, .int a2, .int a3, .int a4, .int 0, .int (a6 + 1), .null] (And.intro (And.intro (Or.inr rfl) (And.intro (Or.inr rfl) (And.intro (Or.inr rfl) (And.intro (Or.inr rfl) (And.intro (Or.inr rfl) (And.intro (Or.inr rfl) (And.intro (Or.inr rfl) (And.intro (Or.inl rfl) (trivial))))))))) (((((((h.2 c1).1 c3).2 c4).2.2 c5).2.2 c6).2.2.2 c7).1 c8))))))))) (fun c8 => Exists.intro _ (And.intro (tp_wk_rf _) (tp_E_step (Exists.intro _ (And.intro (tp_wk_rf _) (tp_E_step (Exists.intro [.ref 58, .int a1, .int a2, .int a3, .int a4, .int 1, .int (a6 + 1), .null] (And.intro (And.intro (Or.inr rfl) (And.intro (Or.inr rfl) (And.intro (Or.inr rfl) (And.intro (Or.inr rfl) (And.intro (Or.inr rfl) (And.intro (Or.inr rfl) (And.intro (Or.inr rfl) (And.intro (Or.inl rfl) (trivial))))))))) (((((((h.2 c1).1 c3).2 c4).2.2 c5).2.2 c6).2.2.2 c7).2 c8)))))))))))))))))) (fun c3 => Exists.intro _ (And.intro (tp_wk_rf _) (tp_E_step (Exists.intro _ (And.intro (tp_wk_rf _) (tp_E_step (Exists.intro [.ref 58, .int a1, .int a2, .int a3, .int a4, .int 1, .int (a6 + 1), .null] (And.intro (And.intro (Or.inr rfl) (And.intro (Or.inr rfl) (And.intro (Or.inr rfl) (And.intro (Or.inr rfl) (And.intro (Or.inr rfl) (And.intro (Or.inr rfl) (And.intro (Or.inr rfl) (And.intro (Or.inl rfl) (trivial))))))))) ((h.2 c1).2 c3)))))))))))
/-- X10_pack (III)I, 0 -/
theorem sg_105_0 {post : Int32 → tp_St → Prop} {σ : tp_St} (a1 : Int32) (a2 : Int32) (a3 : Int32)  (h : tp_E 103 0 [.ref 58, .int a1, .int a2] [] σ (fun r1 σ1 =>
(r1 = 0 →
post (-1) σ1) ∧ (¬ r1 = 0 →
tp_E 101 0 [.long (a3).toInt64, .null, .long (Int64.ofNat 0), .null, .long (Int64.ofNat 1), .null] [] σ1 (fun r2 σ2 =>
(r2 = 0 →
post (-1) σ2) ∧ (¬ r2 = 0 →
(a3 = 1 →
vp_in ((5 * a1) + a2) 30 ∧
vp_in ((5 * a1) + a2) 30 ∧
post ((σ2.1 62 (((5 * a1) + a2)).toNatClampNeg) - (σ2.1 61 (((5 * a1) + a2)).toNatClampNeg)) σ2) ∧ (¬ a3 = 1 →
vp_in ((5 * a1) + a2) 30 ∧
vp_in ((5 * a1) + a2) 30 ∧
((σ2.1 62 (((5 * a1) + a2)).toNatClampNeg) ≤ (σ2.1 61 (((5 * a1) + a2)).toNatClampNeg) →
post (-4) σ2) ∧ (¬ (σ2.1 62 (((5 * a1) + a2)).toNatClampNeg) ≤ (σ2.1 61 (((5 * a1) + a2)).toNatClampNeg) →
vp_in ((5 * a1) + a2) 30 ∧
post (σ2.1 61 (((5 * a1) + a2)).toNatClampNeg) σ2))))))) : tp_E 105 0 [.ref 58, .int a1, .int a2, .int a3, .null] [] σ post := tp_E_step (tp_Em h (fun r1 σ1 h1 => And.intro (fun c3 => Exists.intro _ (And.intro (tp_wk_rf _) (tp_E_step (And.intro rfl (h1.1 c3))))) (fun c3 => tp_Em (h1.2 c3) (fun r2 σ2 h2 => And.intro (fun c4 => Exists.intro _ (And.intro (tp_wk_rf _) (tp_E_step (And.intro rfl (h2.1 c4))))) (fun c4 => Exists.intro _ (And.intro (tp_wk_rf _) (tp_E_step (And.intro (fun c5 => And.intro ((h2.2 c4).1 c5).1 (And.intro ((h2.2 c4).1 c5).2.1 (Exists.intro _ (And.intro (tp_wk_rf _) (tp_E_step (And.intro rfl ((h2.2 c4).1 c5).2.2)))))) (fun c5 => Exists.intro _ (And.intro (tp_wk_rf _) (tp_E_step (And.intro ((h2.2 c4).2 c5).1 (And.intro ((h2.2 c4).2 c5).2.1 (And.intro (fun c6 => Exists.intro _ (And.intro (tp_wk_rf _) (tp_E_step (Exists.intro _ (And.intro (tp_wk_rf _) (tp_E_step (And.intro rfl (((h2.2 c4).2 c5).2.2.1 c6)))))))) (fun c6 => And.intro (((h2.2 c4).2 c5).2.2.2 c6).1 (Exists.intro _ (And.intro (tp_wk_rf _) (tp_E_step (And.intro rfl (((h2.2 c4).2 c5).2.2.2 c6).2)))))))))))))))))))
/-- X10_trip (IZ)I, 0 -/
theorem sg_106_0 {post : Int32 → tp_St → Prop} {σ : tp_St} (a1 : Int32) (a2 : Int32)  (h : tp_E 101 0 [.long (a1).toInt64, .null, .long (Int64.ofNat 0), .null, .long (Int64.ofNat 5), .null] [] σ (fun r1 σ1 =>
(r1 = 0 →
post (-1) σ1) ∧ (¬ r1 = 0 →
tp_E 106 16 [.ref 58, .int a1, .int a2, .int 0] [] σ1 post))) : tp_E 106 0 [.ref 58, .int a1, .int a2, .null] [] σ post := tp_E_step (tp_Em h (fun r1 σ1 h1 => And.intro (fun c2 => And.intro rfl (h1.1 c2)) (fun c2 => Exists.intro _ (And.intro (tp_wk_rf _) (tp_E_step (Exists.intro [.ref 58, .int a1, .int a2, .int 0] (And.intro (And.intro (Or.inr rfl) (And.intro (Or.inr rfl) (And.intro (Or.inr rfl) (And.intro (Or.inr rfl) (trivial))))) (h1.2 c2))))))))
/-- X10_trip (IZ)I, 16 -/
theorem sg_106_16 {post : Int32 → tp_St → Prop} {σ : tp_St} (a1 : Int32) (a2 : Int32) (a3 : Int32)  (h : ((σ.1 58 5) ≤ a3 →
((σ.1 58 5) = 16 →
post (-3) σ) ∧ (¬ (σ.1 58 5) = 16 →
vp_in (σ.1 58 5) 16 ∧
vp_in (σ.1 58 5) 16 ∧
vp_in (σ.1 58 5) 16 ∧
post (((σ.1 58 5) + 1) - 1) (tp_set (tp_set (tp_set (tp_set σ 63 ((σ.1 58 5)).toNatClampNeg a1) 64 ((σ.1 58 5)).toNatClampNeg (vp_nar .boolean a2)) 65 ((σ.1 58 5)).toNatClampNeg (vp_nar .boolean 1)) 58 5 ((σ.1 58 5) + 1)))) ∧ (¬ (σ.1 58 5) ≤ a3 →
vp_in a3 16 ∧
((σ.1 63 (a3).toNatClampNeg) = a1 →
vp_in a3 16 ∧
((σ.1 65 (a3).toNatClampNeg) = 0 →
tp_E 106 16 [.ref 58, .int a1, .int a2, .int (a3 + 1)] [] σ post) ∧ (¬ (σ.1 65 (a3).toNatClampNeg) = 0 →
post (-2) σ)) ∧ (¬ (σ.1 63 (a3).toNatClampNeg) = a1 →
tp_E 106 16 [.ref 58, .int a1, .int a2, .int (a3 + 1)] [] σ post))) : tp_E 106 16 [.ref 58, .int a1, .int a2, .int a3] [] σ post := tp_E_step (And.intro (fun c1 => Exists.intro _ (And.intro (tp_wk_rf _) (tp_E_step (And.intro (fun c2 => And.intro rfl ((h.1 c1).1 c2)) (fun c2 => Exists.intro _ (And.intro (tp_wk_rf _) (tp_E_step (And.intro ((h.1 c1).2 c2).1 (And.intro ((h.1 c1).2 c2).2.1 (And.intro ((h.1 c1).2 c2).2.2.1 (And.intro rfl ((h.1 c1).2 c2).2.2.2))))))))))) (fun c1 => And.intro (h.2 c1).1 (And.intro (fun c3 => And.intro ((h.2 c1).2.1 c3).1 (And.intro (fun c4 => Exists.intro _ (And.intro (tp_wk_rf _) (tp_E_step (Exists.intro [.ref 58, .int a1, .int a2, .int (a3 + 1)] (And.intro (And.intro (Or.inr rfl) (And.intro (Or.inr rfl) (And.intro (Or.inr rfl) (And.intro (Or.inr rfl) (trivial))))) (((h.2 c1).2.1 c3).2.1 c4)))))) (fun c4 => And.intro rfl (((h.2 c1).2.1 c3).2.2 c4)))) (fun c3 => Exists.intro _ (And.intro (tp_wk_rf _) (tp_E_step (Exists.intro [.ref 58, .int a1, .int a2, .int (a3 + 1)] (And.intro (And.intro (Or.inr rfl) (And.intro (Or.inr rfl) (And.intro (Or.inr rfl) (And.intro (Or.inr rfl) (trivial))))) ((h.2 c1).2.2 c3)))))))))
/-- X10_isTrip (I)Z, 0 -/
theorem sg_107_0 {post : Int32 → tp_St → Prop} {σ : tp_St} (a1 : Int32)  (h : tp_E 101 0 [.long (a1).toInt64, .null, .long (Int64.ofNat 0), .null, .long (((σ.1 58 5) - 1)).toInt64, .null] [] σ (fun r1 σ1 =>
narrow .boolean (.int r1) = .int r1 ∧ post r1 σ1)) : tp_E 107 0 [.ref 58, .int a1] [] σ post := tp_E_step (tp_Em h (fun r1 σ1 h1 => h1))
/-- X10_moneyOf (I)I, 0 -/
theorem sg_108_0 {post : Int32 → tp_St → Prop} {σ : tp_St} (a1 : Int32)  (h : tp_E 108 4 [.ref 58, .int a1, .int 0, .int 0] [] σ post) : tp_E 108 0 [.ref 58, .int a1, .null, .null] [] σ post := tp_E_step (Exists.intro [.ref 58, .int a1, .int 0, .int 0] (And.intro (And.intro (Or.inr rfl) (And.intro (Or.inr rfl) (And.intro (Or.inr rfl) (And.intro (Or.inr rfl) (trivial))))) h))
/-- X10_moneyOf (I)I, 4 -/
theorem sg_108_4 {post : Int32 → tp_St → Prop} {σ : tp_St} (a1 : Int32) (a2 : Int32) (a3 : Int32)  (h : ((σ.1 58 9) ≤ a3 →
post a2 σ) ∧ (¬ (σ.1 58 9) ≤ a3 →
vp_in a3 200 ∧
((σ.1 66 (a3).toNatClampNeg) = a1 →
vp_in a3 200 ∧
vp_in (σ.1 67 (a3).toNatClampNeg) 5 ∧
tp_E 108 4 [.ref 58, .int a1, .int (a2 + (σ.1 59 ((σ.1 67 (a3).toNatClampNeg)).toNatClampNeg)), .int (a3 + 1)] [] σ post) ∧ (¬ (σ.1 66 (a3).toNatClampNeg) = a1 →
tp_E 108 4 [.ref 58, .int a1, .int (a2 + 0), .int (a3 + 1)] [] σ post))) : tp_E 108 4 [.ref 58, .int a1, .int a2, .int a3] [] σ post := tp_E_step (And.intro (fun c1 => Exists.intro _ (And.intro (tp_wk_rf _) (tp_E_step (And.intro rfl (h.1 c1))))) (fun c1 => And.intro (h.2 c1).1 (And.intro (fun c2 => And.intro ((h.2 c1).2.1 c2).1 (And.intro ((h.2 c1).2.1 c2).2.1 (Exists.intro _ (And.intro (tp_wk_rf _) (tp_E_step (Exists.intro [.ref 58, .int a1, .int (a2 + (σ.1 59 ((σ.1 67 (a3).toNatClampNeg)).toNatClampNeg)), .int (a3 + 1)] (And.intro (And.intro (Or.inr rfl) (And.intro (Or.inr rfl) (And.intro (Or.inr rfl) (And.intro (Or.inr rfl) (trivial))))) ((h.2 c1).2.1 c2).2.2))))))) (fun c2 => Exists.intro _ (And.intro (tp_wk_rf _) (tp_E_step (Exists.intro _ (And.intro (tp_wk_rf _) (tp_E_step (Exists.intro [.ref 58, .int a1, .int (a2 + 0), .int (a3 + 1)] (And.intro (And.intro (Or.inr rfl) (And.intro (Or.inr rfl) (And.intro (Or.inr rfl) (And.intro (Or.inr rfl) (trivial))))) ((h.2 c1).2.2 c2))))))))))))
/-- X10_close (I)I, 0 -/
theorem sg_109_0 {post : Int32 → tp_St → Prop} {σ : tp_St} (a1 : Int32)  (h : tp_E 107 0 [.ref 58, .int a1] [] σ (fun r1 σ1 =>
(r1 = 0 →
post (-1) σ1) ∧ (¬ r1 = 0 →
vp_in a1 16 ∧
((σ1.1 65 (a1).toNatClampNeg) = 0 →
post (-2) σ1) ∧ (¬ (σ1.1 65 (a1).toNatClampNeg) = 0 →
vp_in a1 16 ∧
tp_E 108 0 [.ref 58, .int a1, .null, .null] [] (tp_set σ1 65 (a1).toNatClampNeg (vp_nar .boolean 0)) (fun r2 σ2 =>
post r2 σ2))))) : tp_E 109 0 [.ref 58, .int a1] [] σ post := tp_E_step (tp_Em h (fun r1 σ1 h1 => And.intro (fun c2 => And.intro rfl (h1.1 c2)) (fun c2 => Exists.intro _ (And.intro (tp_wk_rf _) (tp_E_step (And.intro (h1.2 c2).1 (And.intro (fun c3 => And.intro rfl ((h1.2 c2).2.1 c3)) (fun c3 => Exists.intro _ (And.intro (tp_wk_rf _) (tp_E_step (And.intro ((h1.2 c2).2.2 c3).1 (tp_Em ((h1.2 c2).2.2 c3).2 (fun r4 σ4 h4 => And.intro rfl h4)))))))))))))
/-- X10_along (II)I, 0 -/
theorem sg_110_0 {post : Int32 → tp_St → Prop} {σ : tp_St} (a1 : Int32) (a2 : Int32)  (h : vp_in a1 16 ∧
((σ.1 64 (a1).toNatClampNeg) = 0 →
post (9 - a2) σ) ∧ (¬ (σ.1 64 (a1).toNatClampNeg) = 0 →
post a2 σ)) : tp_E 110 0 [.ref 58, .int a1, .int a2] [] σ post := tp_E_step (And.intro h.1 (And.intro (fun c1 => Exists.intro _ (And.intro (tp_wk_rf _) (tp_E_step (Exists.intro _ (And.intro (tp_wk_rf _) (tp_E_step (And.intro rfl (h.2.1 c1)))))))) (fun c1 => Exists.intro _ (And.intro (tp_wk_rf _) (tp_E_step (And.intro rfl (h.2.2 c1)))))))
/-- X10_latestOf (I)I, 0 -/
theorem sg_111_0 {post : Int32 → tp_St → Prop} {σ : tp_St} (a1 : Int32)  (h : tp_E 111 4 [.ref 58, .int a1, .int 0, .int 0] [] σ post) : tp_E 111 0 [.ref 58, .int a1, .null, .null] [] σ post := tp_E_step (Exists.intro [.ref 58, .int a1, .int 0, .int 0] (And.intro (And.intro (Or.inr rfl) (And.intro (Or.inr rfl) (And.intro (Or.inr rfl) (And.intro (Or.inr rfl) (trivial))))) h))
/-- X10_latestOf (I)I, 4 -/
theorem sg_111_4 {post : Int32 → tp_St → Prop} {σ : tp_St} (a1 : Int32) (a2 : Int32) (a3 : Int32)  (h : ((σ.1 58 9) ≤ a3 →
post a2 σ) ∧ (¬ (σ.1 58 9) ≤ a3 →
vp_in a3 200 ∧
((σ.1 66 (a3).toNatClampNeg) = a1 →
vp_in a3 200 ∧
tp_E 110 0 [.ref 58, .int a1, .int (σ.1 68 (a3).toNatClampNeg)] [] σ (fun r1 σ1 =>
tp_E 111 4 [.ref 58, .int a1, .int r1, .int (a3 + 1)] [] σ1 post)) ∧ (¬ (σ.1 66 (a3).toNatClampNeg) = a1 →
tp_E 111 4 [.ref 58, .int a1, .int a2, .int (a3 + 1)] [] σ post))) : tp_E 111 4 [.ref 58, .int a1, .int a2, .int a3] [] σ post := tp_E_step (And.intro (fun c2 => Exists.intro _ (And.intro (tp_wk_rf _) (tp_E_step (And.intro rfl (h.1 c2))))) (fun c2 => And.intro (h.2 c2).1 (And.intro (fun c3 => And.intro ((h.2 c2).2.1 c3).1 (tp_Em ((h.2 c2).2.1 c3).2 (fun r1 σ1 h1 => Exists.intro _ (And.intro (tp_wk_rf _) (tp_E_step (Exists.intro [.ref 58, .int a1, .int r1, .int (a3 + 1)] (And.intro (And.intro (Or.inr rfl) (And.intro (Or.inr rfl) (And.intro (Or.inr rfl) (And.intro (Or.inr rfl) (trivial))))) h1))))))) (fun c3 => Exists.intro _ (And.intro (tp_wk_rf _) (tp_E_step (Exists.intro _ (And.intro (tp_wk_rf _) (tp_E_step (Exists.intro [.ref 58, .int a1, .int a2, .int (a3 + 1)] (And.intro (And.intro (Or.inr rfl) (And.intro (Or.inr rfl) (And.intro (Or.inr rfl) (And.intro (Or.inr rfl) (trivial))))) ((h.2 c2).2.2 c3))))))))))))
/-- X10_sell (III)I, 0 -/
theorem sg_112_0 {post : Int32 → tp_St → Prop} {σ : tp_St} (a1 : Int32) (a2 : Int32) (a3 : Int32)  (h : tp_E 107 0 [.ref 58, .int a1] [] σ (fun r1 σ1 =>
(r1 = 0 →
post (-1) σ1) ∧ (¬ r1 = 0 →
tp_E 101 0 [.long (a2).toInt64, .null, .long (Int64.ofNat 0), .null, .long (((σ1.1 58 0) - 1)).toInt64, .null] [] σ1 (fun r2 σ2 =>
(r2 = 0 →
post (-1) σ2) ∧ (¬ r2 = 0 →
tp_E 101 0 [.long (a3).toInt64, .null, .long (Int64.ofNat 0), .null, .long (Int64.ofNat 9), .null] [] σ2 (fun r3 σ3 =>
(r3 = 0 →
post (-1) σ3) ∧ (¬ r3 = 0 →
vp_in a1 16 ∧
((σ3.1 65 (a1).toNatClampNeg) = 0 →
post (-2) σ3) ∧ (¬ (σ3.1 65 (a1).toNatClampNeg) = 0 →
tp_E 110 0 [.ref 58, .int a1, .int a3] [] σ3 (fun r4 σ4 =>
tp_E 111 0 [.ref 58, .int a1, .null, .null] [] σ4 (fun r5 σ5 =>
(r4 < r5 →
post (-2) σ5) ∧ (¬ r4 < r5 →
tp_E 110 0 [.ref 58, .int a1, .int a3] [] σ5 (fun r6 σ6 =>
(r6 = 9 →
post (-2) σ6) ∧ (¬ r6 = 9 →
((σ6.1 58 9) = 200 →
post (-3) σ6) ∧ (¬ (σ6.1 58 9) = 200 →
vp_in a1 16 ∧
vp_in ((5 * (σ6.1 63 (a1).toNatClampNeg)) + a2) 30 ∧
vp_in ((5 * (σ6.1 63 (a1).toNatClampNeg)) + a2) 30 ∧
((σ6.1 61 (((5 * (σ6.1 63 (a1).toNatClampNeg)) + a2)).toNatClampNeg) = (σ6.1 62 (((5 * (σ6.1 63 (a1).toNatClampNeg)) + a2)).toNatClampNeg) →
post (-4) σ6) ∧ (¬ (σ6.1 61 (((5 * (σ6.1 63 (a1).toNatClampNeg)) + a2)).toNatClampNeg) = (σ6.1 62 (((5 * (σ6.1 63 (a1).toNatClampNeg)) + a2)).toNatClampNeg) →
vp_in (σ6.1 58 9) 200 ∧
vp_in (σ6.1 58 9) 200 ∧
vp_in (σ6.1 58 9) 200 ∧
vp_in ((5 * (σ6.1 63 (a1).toNatClampNeg)) + a2) 30 ∧
vp_in (σ6.1 58 9) 200 ∧
vp_in ((5 * (σ6.1 63 (a1).toNatClampNeg)) + a2) 30 ∧
vp_in ((5 * (σ6.1 63 (a1).toNatClampNeg)) + a2) 30 ∧
vp_in (((σ6.1 58 9) + 1) - 1) 200 ∧
post ((tp_set (tp_set (tp_set (tp_set (tp_set (tp_set σ6 66 ((σ6.1 58 9)).toNatClampNeg a1) 67 ((σ6.1 58 9)).toNatClampNeg a2) 68 ((σ6.1 58 9)).toNatClampNeg a3) 69 ((σ6.1 58 9)).toNatClampNeg (σ6.1 61 (((5 * (σ6.1 63 (a1).toNatClampNeg)) + a2)).toNatClampNeg)) 61 (((5 * (σ6.1 63 (a1).toNatClampNeg)) + a2)).toNatClampNeg ((σ6.1 61 (((5 * (σ6.1 63 (a1).toNatClampNeg)) + a2)).toNatClampNeg) + 1)) 58 9 ((σ6.1 58 9) + 1)).1 69 ((((σ6.1 58 9) + 1) - 1)).toNatClampNeg) (tp_set (tp_set (tp_set (tp_set (tp_set (tp_set σ6 66 ((σ6.1 58 9)).toNatClampNeg a1) 67 ((σ6.1 58 9)).toNatClampNeg a2) 68 ((σ6.1 58 9)).toNatClampNeg a3) 69 ((σ6.1 58 9)).toNatClampNeg (σ6.1 61 (((5 * (σ6.1 63 (a1).toNatClampNeg)) + a2)).toNatClampNeg)) 61 (((5 * (σ6.1 63 (a1).toNatClampNeg)) + a2)).toNatClampNeg ((σ6.1 61 (((5 * (σ6.1 63 (a1).toNatClampNeg)) + a2)).toNatClampNeg) + 1)) 58 9 ((σ6.1 58 9) + 1))))))))))))))))) : tp_E 112 0 [.ref 58, .int a1, .int a2, .int a3, .null] [] σ post := tp_E_step (tp_Em h (fun r1 σ1 h1 => And.intro (fun c4 => Exists.intro _ (And.intro (tp_wk_rf _) (tp_E_step (And.intro rfl (h1.1 c4))))) (fun c4 => tp_Em (h1.2 c4) (fun r2 σ2 h2 => And.intro (fun c5 => Exists.intro _ (And.intro (tp_wk_rf _) (tp_E_step (And.intro rfl (h2.1 c5))))) (fun c5 => tp_Em (h2.2 c5) (fun r3 σ3 h3 => And.intro (fun c6 => Exists.intro _ (And.intro (tp_wk_rf _) (tp_E_step (And.intro rfl (h3.1 c6))))) (fun c6 => Exists.intro _ (And.intro (tp_wk_rf _) (tp_E_step (And.intro (h3.2 c6).1 (And.intro (fun c10 => Exists.intro _ (And.intro (tp_wk_rf _) (tp_E_step (And.intro rfl ((h3.2 c6).2.1 c10))))) (fun c10 => tp_Em ((h3.2 c6).2.2 c10) (fun r7 σ7 h7 => tp_Em h7 (fun r8 σ8 h8 => And.intro (fun c11 => Exists.intro _ (And.intro (tp_wk_rf _) (tp_E_step (And.intro rfl (h8.1 c11))))) (fun c11 => tp_Em (h8.2 c11) (fun r9 σ9 h9 => And.intro (fun c12 => Exists.intro _ (And.intro (tp_wk_rf _) (tp_E_step (And.intro rfl (h9.1 c12))))) (fun c12 => Exists.intro _ (And.intro (tp_wk_rf _) (tp_E_step (And.intro (fun c13 => And.intro rfl ((h9.2 c12).1 c13)) (fun c13 => Exists.intro _ (And.intro (tp_wk_rf _) (tp_E_step (And.intro ((h9.2 c12).2 c13).1 (And.intro ((h9.2 c12).2 c13).2.1 (And.intro ((h9.2 c12).2 c13).2.2.1 (And.intro (fun c14 => And.intro rfl (((h9.2 c12).2 c13).2.2.2.1 c14)) (fun c14 => Exists.intro _ (And.intro (tp_wk_rf _) (tp_E_step (And.intro (((h9.2 c12).2 c13).2.2.2.2 c14).1 (And.intro (((h9.2 c12).2 c13).2.2.2.2 c14).2.1 (And.intro (((h9.2 c12).2 c13).2.2.2.2 c14).2.2.1 (And.intro (((h9.2 c12).2 c13).2.2.2.2 c14).2.2.2.1 (And.intro (((h9.2 c12).2 c13).2.2.2.2 c14).2.2.2.2.1 (And.intro (((h9.2 c12).2 c13).2.2.2.2 c14).2.2.2.2.2.1 (And.intro (((h9.2 c12).2 c13).2.2.2.2 c14).2.2.2.2.2.2.1 (And.intro (((h9.2 c12).2 c13).2.2.2.2 c14).2.2.2.2.2.2.2.1 (And.intro rfl (((h9.2 c12).2 c13).2.2.2.2 c14).2.2.2.2.2.2.2.2)))))))))))))))))))))))))))))))))))))))
/-- X10_undo ()I, 0 -/
theorem sg_113_0 {post : Int32 → tp_St → Prop} {σ : tp_St}   (h : ((σ.1 58 9) = 0 →
post (-4) σ) ∧ (¬ (σ.1 58 9) = 0 →
vp_in ((σ.1 58 9) - 1) 200 ∧
vp_in (σ.1 66 (((σ.1 58 9) - 1)).toNatClampNeg) 16 ∧
vp_in ((σ.1 58 9) - 1) 200 ∧
vp_in ((σ.1 58 9) - 1) 200 ∧
vp_in (σ.1 66 (((σ.1 58 9) - 1)).toNatClampNeg) 16 ∧
((σ.1 65 ((σ.1 66 (((σ.1 58 9) - 1)).toNatClampNeg)).toNatClampNeg) = 0 →
post (-2) σ) ∧ (¬ (σ.1 65 ((σ.1 66 (((σ.1 58 9) - 1)).toNatClampNeg)).toNatClampNeg) = 0 →
vp_in ((5 * (σ.1 63 ((σ.1 66 (((σ.1 58 9) - 1)).toNatClampNeg)).toNatClampNeg)) + (σ.1 67 (((σ.1 58 9) - 1)).toNatClampNeg)) 30 ∧
vp_in ((σ.1 58 9) - 1) 200 ∧
((σ.1 61 (((5 * (σ.1 63 ((σ.1 66 (((σ.1 58 9) - 1)).toNatClampNeg)).toNatClampNeg)) + (σ.1 67 (((σ.1 58 9) - 1)).toNatClampNeg))).toNatClampNeg) = ((σ.1 69 (((σ.1 58 9) - 1)).toNatClampNeg) + 1) →
vp_in ((5 * (σ.1 63 ((σ.1 66 (((σ.1 58 9) - 1)).toNatClampNeg)).toNatClampNeg)) + (σ.1 67 (((σ.1 58 9) - 1)).toNatClampNeg)) 30 ∧
vp_in ((5 * (σ.1 63 ((σ.1 66 (((σ.1 58 9) - 1)).toNatClampNeg)).toNatClampNeg)) + (σ.1 67 (((σ.1 58 9) - 1)).toNatClampNeg)) 30 ∧
post ((σ.1 58 9) - 1) (tp_set (tp_set σ 61 (((5 * (σ.1 63 ((σ.1 66 (((σ.1 58 9) - 1)).toNatClampNeg)).toNatClampNeg)) + (σ.1 67 (((σ.1 58 9) - 1)).toNatClampNeg))).toNatClampNeg ((σ.1 61 (((5 * (σ.1 63 ((σ.1 66 (((σ.1 58 9) - 1)).toNatClampNeg)).toNatClampNeg)) + (σ.1 67 (((σ.1 58 9) - 1)).toNatClampNeg))).toNatClampNeg) - 1)) 58 9 ((σ.1 58 9) - 1))) ∧ (¬ (σ.1 61 (((5 * (σ.1 63 ((σ.1 66 (((σ.1 58 9) - 1)).toNatClampNeg)).toNatClampNeg)) + (σ.1 67 (((σ.1 58 9) - 1)).toNatClampNeg))).toNatClampNeg) = ((σ.1 69 (((σ.1 58 9) - 1)).toNatClampNeg) + 1) →
post (-2) σ)))) : tp_E 113 0 [.ref 58, .null, .null] [] σ post := tp_E_step (And.intro (fun c1 => And.intro rfl (h.1 c1)) (fun c1 => Exists.intro _ (And.intro (tp_wk_rf _) (tp_E_step (And.intro (h.2 c1).1 (And.intro (h.2 c1).2.1 (And.intro (h.2 c1).2.2.1 (And.intro (h.2 c1).2.2.2.1 (And.intro (h.2 c1).2.2.2.2.1 (And.intro (fun c2 => Exists.intro _ (And.intro (tp_wk_rf _) (tp_E_step (And.intro rfl ((h.2 c1).2.2.2.2.2.1 c2))))) (fun c2 => And.intro ((h.2 c1).2.2.2.2.2.2 c2).1 (And.intro ((h.2 c1).2.2.2.2.2.2 c2).2.1 (And.intro (fun c3 => Exists.intro _ (And.intro (tp_wk_rf _) (tp_E_step (And.intro (((h.2 c1).2.2.2.2.2.2 c2).2.2.1 c3).1 (And.intro (((h.2 c1).2.2.2.2.2.2 c2).2.2.1 c3).2.1 (And.intro rfl (((h.2 c1).2.2.2.2.2.2 c2).2.2.1 c3).2.2)))))) (fun c3 => Exists.intro _ (And.intro (tp_wk_rf _) (tp_E_step (And.intro rfl (((h.2 c1).2.2.2.2.2.2 c2).2.2.2 c3))))))))))))))))))
/-- X10_sheet (III)I, 0 -/
theorem sg_114_0 {post : Int32 → tp_St → Prop} {σ : tp_St} (a1 : Int32) (a2 : Int32) (a3 : Int32)  (h : tp_E 101 0 [.long (a1).toInt64, .null, .long (Int64.ofNat 0), .null, .long (Int64.ofNat 3), .null] [] σ (fun r1 σ1 =>
(r1 = 0 →
post (-1) σ1) ∧ (¬ r1 = 0 →
tp_E 101 0 [.long (a2).toInt64, .null, .long (Int64.ofNat 0), .null, .long (Int64.ofNat 2), .null] [] σ1 (fun r2 σ2 =>
(r2 = 0 →
post (-1) σ2) ∧ (¬ r2 = 0 →
(a3 ≤ 64 →
(0 ≤ a3 →
vp_in a1 4 ∧
vp_in a1 4 ∧
tp_E 114 56 [.ref 58, .int a1, .null, .null, .int 0] [] (tp_set (tp_set σ2 70 (a1).toNatClampNeg a2) 71 (a1).toNatClampNeg a3) post) ∧ (¬ 0 ≤ a3 →
post (-14) σ2)) ∧ (¬ a3 ≤ 64 →
post (-1) σ2)))))) : tp_E 114 0 [.ref 58, .int a1, .int a2, .int a3, .null] [] σ post := tp_E_step (tp_Em h (fun r1 σ1 h1 => And.intro (fun c3 => Exists.intro _ (And.intro (tp_wk_rf _) (tp_E_step (And.intro rfl (h1.1 c3))))) (fun c3 => tp_Em (h1.2 c3) (fun r2 σ2 h2 => And.intro (fun c4 => Exists.intro _ (And.intro (tp_wk_rf _) (tp_E_step (And.intro rfl (h2.1 c4))))) (fun c4 => And.intro (fun c5 => Exists.intro _ (And.intro (tp_wk_rf _) (tp_E_step (And.intro (fun c6 => Exists.intro _ (And.intro (tp_wk_rf _) (tp_E_step (And.intro (((h2.2 c4).1 c5).1 c6).1 (And.intro (((h2.2 c4).1 c5).1 c6).2.1 (Exists.intro [.ref 58, .int a1, .null, .null, .int 0] (And.intro (And.intro (Or.inr rfl) (And.intro (Or.inr rfl) (And.intro (Or.inl rfl) (And.intro (Or.inl rfl) (And.intro (Or.inr rfl) (trivial)))))) (((h2.2 c4).1 c5).1 c6).2.2))))))) (fun c6 => And.intro rfl (((h2.2 c4).1 c5).2 c6)))))) (fun c5 => Exists.intro _ (And.intro (tp_wk_rf _) (tp_E_step (And.intro rfl ((h2.2 c4).2 c5))))))))))
/-- X10_sheet (III)I, 56 -/
theorem sg_114_56 {post : Int32 → tp_St → Prop} {σ : tp_St} (a1 : Int32) (a4 : Int32)  (h : (64 ≤ a4 →
post 1 σ) ∧ (¬ 64 ≤ a4 →
vp_in ((64 * a1) + a4) 256 ∧
tp_E 114 56 [.ref 58, .int a1, .null, .null, .int (a4 + 1)] [] (tp_set σ 72 (((64 * a1) + a4)).toNatClampNeg 0) post)) : tp_E 114 56 [.ref 58, .int a1, .null, .null, .int a4] [] σ post := tp_E_step (And.intro (fun c1 => Exists.intro _ (And.intro (tp_wk_rf _) (tp_E_step (And.intro rfl (h.1 c1))))) (fun c1 => And.intro (h.2 c1).1 (Exists.intro [.ref 58, .int a1, .null, .null, .int (a4 + 1)] (And.intro (And.intro (Or.inr rfl) (And.intro (Or.inr rfl) (And.intro (Or.inr rfl) (And.intro (Or.inr rfl) (And.intro (Or.inr rfl) (trivial)))))) (h.2 c1).2))))
/-- X10_lay (III)I, 0 -/
theorem sg_115_0 {post : Int32 → tp_St → Prop} {σ : tp_St} (a1 : Int32) (a2 : Int32) (a3 : Int32)  (h : tp_E 101 0 [.long (a1).toInt64, .null, .long (Int64.ofNat 0), .null, .long (Int64.ofNat 3), .null] [] σ (fun r1 σ1 =>
(r1 = 0 →
post (-1) σ1) ∧ (¬ r1 = 0 →
vp_in a1 4 ∧
((σ1.1 70 (a1).toNatClampNeg) = (-4) →
post (-11) σ1) ∧ (¬ (σ1.1 70 (a1).toNatClampNeg) = (-4) →
vp_in a1 4 ∧
tp_E 101 0 [.long (a2).toInt64, .null, .long (Int64.ofNat 0), .null, .long (((σ1.1 71 (a1).toNatClampNeg) - 1)).toInt64, .null] [] σ1 (fun r2 σ2 =>
(r2 = 0 →
post (-12) σ2) ∧ (¬ r2 = 0 →
vp_in a1 4 ∧
((σ2.1 70 (a1).toNatClampNeg) = 0 →
vp_in ((64 * a1) + a2) 256 ∧
post 1 (tp_set σ2 72 (((64 * a1) + a2)).toNatClampNeg ((a3 <<< (24 &&& 31)) >>> (24 &&& 31)))) ∧ (¬ (σ2.1 70 (a1).toNatClampNeg) = 0 →
vp_in a1 4 ∧
((σ2.1 70 (a1).toNatClampNeg) = 1 →
vp_in ((64 * a1) + a2) 256 ∧
post 1 (tp_set σ2 72 (((64 * a1) + a2)).toNatClampNeg ((a3 <<< (16 &&& 31)) >>> (16 &&& 31)))) ∧ (¬ (σ2.1 70 (a1).toNatClampNeg) = 1 →
vp_in ((64 * a1) + a2) 256 ∧
post 1 (tp_set σ2 72 (((64 * a1) + a2)).toNatClampNeg a3))))))))) : tp_E 115 0 [.ref 58, .int a1, .int a2, .int a3] [] σ post := tp_E_step (tp_Em h (fun r1 σ1 h1 => And.intro (fun c2 => And.intro rfl (h1.1 c2)) (fun c2 => Exists.intro _ (And.intro (tp_wk_rf _) (tp_E_step (And.intro (h1.2 c2).1 (And.intro (fun c3 => And.intro rfl ((h1.2 c2).2.1 c3)) (fun c3 => Exists.intro _ (And.intro (tp_wk_rf _) (tp_E_step (And.intro ((h1.2 c2).2.2 c3).1 (tp_Em ((h1.2 c2).2.2 c3).2 (fun r4 σ4 h4 => And.intro (fun c5 => And.intro rfl (h4.1 c5)) (fun c5 => Exists.intro _ (And.intro (tp_wk_rf _) (tp_E_step (And.intro (h4.2 c5).1 (And.intro (fun c6 => Exists.intro _ (And.intro (tp_wk_rf _) (tp_E_step (And.intro ((h4.2 c5).2.1 c6).1 (And.intro rfl ((h4.2 c5).2.1 c6).2))))) (fun c6 => Exists.intro _ (And.intro (tp_wk_rf _) (tp_E_step (And.intro ((h4.2 c5).2.2 c6).1 (And.intro (fun c7 => Exists.intro _ (And.intro (tp_wk_rf _) (tp_E_step (And.intro (((h4.2 c5).2.2 c6).2.1 c7).1 (And.intro rfl (((h4.2 c5).2.2 c6).2.1 c7).2))))) (fun c7 => Exists.intro _ (And.intro (tp_wk_rf _) (tp_E_step (Exists.intro _ (And.intro (tp_wk_rf _) (tp_E_step (And.intro (((h4.2 c5).2.2 c6).2.2 c7).1 (And.intro rfl (((h4.2 c5).2.2 c6).2.2 c7).2)))))))))))))))))))))))))))))))
/-- X10_scan (IIIII)I, 0 -/
theorem sg_116_0 {post : Int32 → tp_St → Prop} {σ : tp_St} (a1 : Int32) (a2 : Int32) (a3 : Int32) (a4 : Int32) (a5 : Int32)  (h : tp_E 107 0 [.ref 58, .int a1] [] σ (fun r1 σ1 =>
(r1 = 0 →
post (-1) σ1) ∧ (¬ r1 = 0 →
tp_E 101 0 [.long (a2).toInt64, .null, .long (Int64.ofNat 0), .null, .long (Int64.ofNat 3), .null] [] σ1 (fun r2 σ2 =>
(r2 = 0 →
post (-1) σ2) ∧ (¬ r2 = 0 →
tp_E 101 0 [.long (a3).toInt64, .null, .long (Int64.ofNat 0), .null, .long (Int64.ofNat 2), .null] [] σ2 (fun r3 σ3 =>
(r3 = 0 →
post (-1) σ3) ∧ (¬ r3 = 0 →
tp_E 101 0 [.long (a5).toInt64, .null, .long (Int64.ofNat 0), .null, .long (Int64.ofNat 32), .null] [] σ3 (fun r4 σ4 =>
(r4 = 0 →
post (-1) σ4) ∧ (¬ r4 = 0 →
vp_in a2 4 ∧
((σ4.1 70 (a2).toNatClampNeg) = a3 →
tp_E 116 88 [.ref 58, .int a1, .int a2, .null, .int a4, .int a5, .int (σ4.1 58 9), .int 0, .int 0, .null, .null, .null, .null] [] σ4 post) ∧ (¬ (σ4.1 70 (a2).toNatClampNeg) = a3 →
vp_in a2 4 ∧
((σ4.1 70 (a2).toNatClampNeg) = (-4) →
post (-11) σ4) ∧ (¬ (σ4.1 70 (a2).toNatClampNeg) = (-4) →
post (-13) σ4))))))))))) : tp_E 116 0 [.ref 58, .int a1, .int a2, .int a3, .int a4, .int a5, .null, .null, .null, .null, .null, .null, .null] [] σ post := tp_E_step (tp_Em h (fun r1 σ1 h1 => And.intro (fun c5 => Exists.intro _ (And.intro (tp_wk_rf _) (tp_E_step (And.intro rfl (h1.1 c5))))) (fun c5 => tp_Em (h1.2 c5) (fun r2 σ2 h2 => And.intro (fun c6 => Exists.intro _ (And.intro (tp_wk_rf _) (tp_E_step (And.intro rfl (h2.1 c6))))) (fun c6 => tp_Em (h2.2 c6) (fun r3 σ3 h3 => And.intro (fun c7 => Exists.intro _ (And.intro (tp_wk_rf _) (tp_E_step (And.intro rfl (h3.1 c7))))) (fun c7 => tp_Em (h3.2 c7) (fun r4 σ4 h4 => And.intro (fun c8 => Exists.intro _ (And.intro (tp_wk_rf _) (tp_E_step (And.intro rfl (h4.1 c8))))) (fun c8 => Exists.intro _ (And.intro (tp_wk_rf _) (tp_E_step (And.intro (h4.2 c8).1 (And.intro (fun c9 => Exists.intro _ (And.intro (tp_wk_rf _) (tp_E_step (Exists.intro [.ref 58, .int a1, .int a2, .null, .int a4, .int a5, .int (σ4.1 58 9), .int 0, .int 0, .null, .null, .null, .null] (And.intro (And.intro (Or.inr rfl) (And.intro (Or.inr rfl) (And.intro (Or.inr rfl) (And.intro (Or.inl rfl) (And.intro (Or.inr rfl) (And.intro (Or.inr rfl) (And.intro (Or.inr rfl) (And.intro (Or.inr rfl) (And.intro (Or.inr rfl) (And.intro (Or.inr rfl) (And.intro (Or.inr rfl) (And.intro (Or.inr rfl) (And.intro (Or.inr rfl) (trivial)))))))))))))) ((h4.2 c8).2.1 c9)))))) (fun c9 => And.intro ((h4.2 c8).2.2 c9).1 (And.intro (fun c10 => Exists.intro _ (And.intro (tp_wk_rf _) (tp_E_step (And.intro rfl (((h4.2 c8).2.2 c9).2.1 c10))))) (fun c10 => Exists.intro _ (And.intro (tp_wk_rf _) (tp_E_step (Exists.intro _ (And.intro (tp_wk_rf _) (tp_E_step (And.intro rfl (((h4.2 c8).2.2 c9).2.2 c10)))))))))))))))))))))))
/-- X10_scan (IIIII)I, 88 -/
theorem sg_116_88 {post : Int32 → tp_St → Prop} {σ : tp_St} (a1 : Int32) (a2 : Int32) (a4 : Int32) (a5 : Int32) (a6 : Int32) (a7 : Int32) (a8 : Int32)  (h : (a5 ≤ a8 →
tp_E 116 191 [.ref 58, .int a1, .null, .null, .null, .int a5, .int a6, .int a7, .null, .null, .null, .null, .null] [] σ post) ∧ (¬ a5 ≤ a8 →
(a7 = 0 →
vp_in a2 4 ∧
tp_E 101 0 [.long ((a4).toInt64 + ((2 * a8)).toInt64), .null, .long (Int64.ofNat 0), .null, .long (((σ.1 71 (a2).toNatClampNeg) - 2)).toInt64, .null] [] σ (fun r1 σ1 =>
(r1 = 0 →
tp_E 116 88 [.ref 58, .int a1, .int a2, .null, .int a4, .int a5, .int a6, .int (-12), .int (a8 + 1), .null, .null, .null, .null] [] σ1 post) ∧ (¬ r1 = 0 →
vp_in ((64 * a2) + (((a4).toInt64 + ((2 * a8)).toInt64)).toInt32) 256 ∧
vp_in (((64 * a2) + (((a4).toInt64 + ((2 * a8)).toInt64)).toInt32) + 1) 256 ∧
tp_E 112 0 [.ref 58, .int a1, .int (σ1.1 72 (((64 * a2) + (((a4).toInt64 + ((2 * a8)).toInt64)).toInt32)).toNatClampNeg), .int (σ1.1 72 ((((64 * a2) + (((a4).toInt64 + ((2 * a8)).toInt64)).toInt32) + 1)).toNatClampNeg), .null] [] σ1 (fun r2 σ2 =>
(0 ≤ r2 →
tp_E 116 88 [.ref 58, .int a1, .int a2, .null, .int a4, .int a5, .int a6, .int 0, .int (a8 + 1), .null, .null, .null, .null] [] σ2 post) ∧ (¬ 0 ≤ r2 →
tp_E 116 88 [.ref 58, .int a1, .int a2, .null, .int a4, .int a5, .int a6, .int ((-20) + r2), .int (a8 + 1), .null, .null, .null, .null] [] σ2 post))))) ∧ (¬ a7 = 0 →
tp_E 116 191 [.ref 58, .int a1, .null, .null, .null, .int a5, .int a6, .int a7, .null, .null, .null, .null, .null] [] σ post))) : tp_E 116 88 [.ref 58, .int a1, .int a2, .null, .int a4, .int a5, .int a6, .int a7, .int a8, .null, .null, .null, .null] [] σ post := tp_E_step (And.intro (fun c2 => Exists.intro [.ref 58, .int a1, .null, .null, .null, .int a5, .int a6, .int a7, .null, .null, .null, .null, .null] (And.intro (And.intro (Or.inr rfl) (And.intro (Or.inr rfl) (And.intro (Or.inl rfl) (And.intro (Or.inr rfl) (And.intro (Or.inl rfl) (And.intro (Or.inr rfl) (And.intro (Or.inr rfl) (And.intro (Or.inr rfl) (And.intro (Or.inl rfl) (And.intro (Or.inr rfl) (And.intro (Or.inr rfl) (And.intro (Or.inr rfl) (And.intro (Or.inr rfl) (trivial)))))))))))))) (h.1 c2))) (fun c2 => And.intro (fun c3 => And.intro ((h.2 c2).1 c3).1 (tp_Em ((h.2 c2).1 c3).2 (fun r1 σ1 h1 => And.intro (fun c4 => Exists.intro _ (And.intro (tp_wk_rf _) (tp_E_step (Exists.intro [.ref 58, .int a1, .int a2, .null, .int a4, .int a5, .int a6, .int (-12), .int (a8 + 1), .null, .null, .null, .null] (And.intro (And.intro (Or.inr rfl) (And.intro (Or.inr rfl) (And.intro (Or.inr rfl) (And.intro (Or.inr rfl) (And.intro (Or.inr rfl) (And.intro (Or.inr rfl) (And.intro (Or.inr rfl) (And.intro (Or.inr rfl) (And.intro (Or.inr rfl) (And.intro (Or.inl rfl) (And.intro (Or.inr rfl) (And.intro (Or.inr rfl) (And.intro (Or.inr rfl) (trivial)))))))))))))) (h1.1 c4)))))) (fun c4 => Exists.intro _ (And.intro (tp_wk_rf _) (tp_E_step (And.intro (h1.2 c4).1 (And.intro (h1.2 c4).2.1 (tp_Em (h1.2 c4).2.2 (fun r5 σ5 h5 => And.intro (fun c6 => Exists.intro _ (And.intro (tp_wk_rf _) (tp_E_step (Exists.intro _ (And.intro (tp_wk_rf _) (tp_E_step (Exists.intro _ (And.intro (tp_wk_rf _) (tp_E_step (Exists.intro [.ref 58, .int a1, .int a2, .null, .int a4, .int a5, .int a6, .int 0, .int (a8 + 1), .null, .null, .null, .null] (And.intro (And.intro (Or.inr rfl) (And.intro (Or.inr rfl) (And.intro (Or.inr rfl) (And.intro (Or.inr rfl) (And.intro (Or.inr rfl) (And.intro (Or.inr rfl) (And.intro (Or.inr rfl) (And.intro (Or.inr rfl) (And.intro (Or.inr rfl) (And.intro (Or.inl rfl) (And.intro (Or.inr rfl) (And.intro (Or.inl rfl) (And.intro (Or.inl rfl) (trivial)))))))))))))) (h5.1 c6)))))))))))) (fun c6 => Exists.intro _ (And.intro (tp_wk_rf _) (tp_E_step (Exists.intro _ (And.intro (tp_wk_rf _) (tp_E_step (Exists.intro [.ref 58, .int a1, .int a2, .null, .int a4, .int a5, .int a6, .int ((-20) + r5), .int (a8 + 1), .null, .null, .null, .null] (And.intro (And.intro (Or.inr rfl) (And.intro (Or.inr rfl) (And.intro (Or.inr rfl) (And.intro (Or.inr rfl) (And.intro (Or.inr rfl) (And.intro (Or.inr rfl) (And.intro (Or.inr rfl) (And.intro (Or.inr rfl) (And.intro (Or.inr rfl) (And.intro (Or.inl rfl) (And.intro (Or.inr rfl) (And.intro (Or.inl rfl) (And.intro (Or.inl rfl) (trivial)))))))))))))) (h5.2 c6))))))))))))))))))) (fun c3 => Exists.intro [.ref 58, .int a1, .null, .null, .null, .int a5, .int a6, .int a7, .null, .null, .null, .null, .null] (And.intro (And.intro (Or.inr rfl) (And.intro (Or.inr rfl) (And.intro (Or.inl rfl) (And.intro (Or.inr rfl) (And.intro (Or.inl rfl) (And.intro (Or.inr rfl) (And.intro (Or.inr rfl) (And.intro (Or.inr rfl) (And.intro (Or.inl rfl) (And.intro (Or.inr rfl) (And.intro (Or.inr rfl) (And.intro (Or.inr rfl) (And.intro (Or.inr rfl) (trivial)))))))))))))) ((h.2 c2).2 c3)))))
/-- X10_scan (IIIII)I, 191 -/
theorem sg_116_191 {post : Int32 → tp_St → Prop} {σ : tp_St} (a1 : Int32) (a5 : Int32) (a6 : Int32) (a7 : Int32)  (h : (0 ≤ a7 →
(0 ≤ a7 →
post a5 σ) ∧ (¬ 0 ≤ a7 →
post a7 σ)) ∧ (¬ 0 ≤ a7 →
((σ.1 58 9) ≤ a6 →
(0 ≤ a7 →
post a5 σ) ∧ (¬ 0 ≤ a7 →
post a7 σ)) ∧ (¬ (σ.1 58 9) ≤ a6 →
vp_in a1 16 ∧
vp_in ((σ.1 58 9) - 1) 200 ∧
vp_in ((5 * (σ.1 63 (a1).toNatClampNeg)) + (σ.1 67 (((σ.1 58 9) - 1)).toNatClampNeg)) 30 ∧
vp_in ((5 * (σ.1 63 (a1).toNatClampNeg)) + (σ.1 67 (((σ.1 58 9) - 1)).toNatClampNeg)) 30 ∧
tp_E 116 191 [.ref 58, .int a1, .null, .null, .null, .int a5, .int a6, .int a7, .null, .null, .null, .null, .null] [] (tp_set (tp_set σ 61 (((5 * (σ.1 63 (a1).toNatClampNeg)) + (σ.1 67 (((σ.1 58 9) - 1)).toNatClampNeg))).toNatClampNeg ((σ.1 61 (((5 * (σ.1 63 (a1).toNatClampNeg)) + (σ.1 67 (((σ.1 58 9) - 1)).toNatClampNeg))).toNatClampNeg) - 1)) 58 9 ((σ.1 58 9) - 1)) post))) : tp_E 116 191 [.ref 58, .int a1, .null, .null, .null, .int a5, .int a6, .int a7, .null, .null, .null, .null, .null] [] σ post := tp_E_step (And.intro (fun c1 => Exists.intro _ (And.intro (tp_wk_rf _) (tp_E_step (And.intro (fun c2 => Exists.intro _ (And.intro (tp_wk_rf _) (tp_E_step (Exists.intro _ (And.intro (tp_wk_rf _) (tp_E_step (And.intro rfl ((h.1 c1).1 c2)))))))) (fun c2 => Exists.intro _ (And.intro (tp_wk_rf _) (tp_E_step (And.intro rfl ((h.1 c1).2 c2))))))))) (fun c1 => And.intro (fun c3 => Exists.intro _ (And.intro (tp_wk_rf _) (tp_E_step (And.intro (fun c4 => Exists.intro _ (And.intro (tp_wk_rf _) (tp_E_step (Exists.intro _ (And.intro (tp_wk_rf _) (tp_E_step (And.intro rfl (((h.2 c1).1 c3).1 c4)))))))) (fun c4 => Exists.intro _ (And.intro (tp_wk_rf _) (tp_E_step (And.intro rfl (((h.2 c1).1 c3).2 c4))))))))) (fun c3 => And.intro ((h.2 c1).2 c3).1 (And.intro ((h.2 c1).2 c3).2.1 (And.intro ((h.2 c1).2 c3).2.2.1 (And.intro ((h.2 c1).2 c3).2.2.2.1 (Exists.intro [.ref 58, .int a1, .null, .null, .null, .int a5, .int a6, .int a7, .null, .null, .null, .null, .null] (And.intro (And.intro (Or.inr rfl) (And.intro (Or.inr rfl) (And.intro (Or.inr rfl) (And.intro (Or.inr rfl) (And.intro (Or.inr rfl) (And.intro (Or.inr rfl) (And.intro (Or.inr rfl) (And.intro (Or.inr rfl) (And.intro (Or.inr rfl) (And.intro (Or.inr rfl) (And.intro (Or.inr rfl) (And.intro (Or.inr rfl) (And.intro (Or.inr rfl) (trivial)))))))))))))) ((h.2 c1).2 c3).2.2.2.2))))))))
/-- X10_waybill (III)I, 0 -/
theorem sg_117_0 {post : Int32 → tp_St → Prop} {σ : tp_St} (a1 : Int32) (a2 : Int32) (a3 : Int32)  (h : tp_E 107 0 [.ref 58, .int a1] [] σ (fun r1 σ1 =>
(r1 = 0 →
post (-1) σ1) ∧ (¬ r1 = 0 →
tp_E 101 0 [.long (a2).toInt64, .null, .long (Int64.ofNat 0), .null, .long (((σ1.1 58 0) - 1)).toInt64, .null] [] σ1 (fun r2 σ2 =>
(r2 = 0 →
post (-1) σ2) ∧ (¬ r2 = 0 →
tp_E 101 0 [.long (a3).toInt64, .null, .long (Int64.ofNat 0), .null, .long (Int64.ofNat 2), .null] [] σ2 (fun r3 σ3 =>
(r3 = 0 →
post (-1) σ3) ∧ (¬ r3 = 0 →
tp_E 117 52 [.ref 58, .int a1, .int a2, .int a3, .int 0, .int (-4), .int (-4), .int 0] [] σ3 post))))))) : tp_E 117 0 [.ref 58, .int a1, .int a2, .int a3, .null, .null, .null, .null] [] σ post := tp_E_step (tp_Em h (fun r1 σ1 h1 => And.intro (fun c4 => Exists.intro _ (And.intro (tp_wk_rf _) (tp_E_step (And.intro rfl (h1.1 c4))))) (fun c4 => tp_Em (h1.2 c4) (fun r2 σ2 h2 => And.intro (fun c5 => Exists.intro _ (And.intro (tp_wk_rf _) (tp_E_step (And.intro rfl (h2.1 c5))))) (fun c5 => tp_Em (h2.2 c5) (fun r3 σ3 h3 => And.intro (fun c6 => Exists.intro _ (And.intro (tp_wk_rf _) (tp_E_step (And.intro rfl (h3.1 c6))))) (fun c6 => Exists.intro _ (And.intro (tp_wk_rf _) (tp_E_step (Exists.intro [.ref 58, .int a1, .int a2, .int a3, .int 0, .int (-4), .int (-4), .int 0] (And.intro (And.intro (Or.inr rfl) (And.intro (Or.inr rfl) (And.intro (Or.inr rfl) (And.intro (Or.inr rfl) (And.intro (Or.inr rfl) (And.intro (Or.inr rfl) (And.intro (Or.inr rfl) (And.intro (Or.inr rfl) (trivial))))))))) (h3.2 c6))))))))))))
/-- X10_waybill (III)I, 52 -/
theorem sg_117_52 {post : Int32 → tp_St → Prop} {σ : tp_St} (a1 : Int32) (a2 : Int32) (a3 : Int32) (a4 : Int32) (a5 : Int32) (a6 : Int32) (a7 : Int32)  (h : ((σ.1 58 9) ≤ a7 →
(a3 = 0 →
post a4 σ) ∧ (¬ a3 = 0 →
(a3 = 1 →
post a5 σ) ∧ (¬ a3 = 1 →
post a6 σ))) ∧ (¬ (σ.1 58 9) ≤ a7 →
vp_in a7 200 ∧
((σ.1 66 (a7).toNatClampNeg) = a1 →
vp_in a7 200 ∧
((σ.1 67 (a7).toNatClampNeg) = a2 →
(a4 = 0 →
vp_in a7 200 ∧
vp_in a7 200 ∧
tp_E 117 52 [.ref 58, .int a1, .int a2, .int a3, .int (a4 + 1), .int (σ.1 69 (a7).toNatClampNeg), .int (σ.1 69 (a7).toNatClampNeg), .int (a7 + 1)] [] σ post) ∧ (¬ a4 = 0 →
vp_in a7 200 ∧
tp_E 117 52 [.ref 58, .int a1, .int a2, .int a3, .int (a4 + 1), .int a5, .int (σ.1 69 (a7).toNatClampNeg), .int (a7 + 1)] [] σ post)) ∧ (¬ (σ.1 67 (a7).toNatClampNeg) = a2 →
tp_E 117 52 [.ref 58, .int a1, .int a2, .int a3, .int a4, .int a5, .int a6, .int (a7 + 1)] [] σ post)) ∧ (¬ (σ.1 66 (a7).toNatClampNeg) = a1 →
tp_E 117 52 [.ref 58, .int a1, .int a2, .int a3, .int a4, .int a5, .int a6, .int (a7 + 1)] [] σ post))) : tp_E 117 52 [.ref 58, .int a1, .int a2, .int a3, .int a4, .int a5, .int a6, .int a7] [] σ post := tp_E_step (And.intro (fun c1 => Exists.intro _ (And.intro (tp_wk_rf _) (tp_E_step (And.intro (fun c2 => Exists.intro _ (And.intro (tp_wk_rf _) (tp_E_step (And.intro rfl ((h.1 c1).1 c2))))) (fun c2 => Exists.intro _ (And.intro (tp_wk_rf _) (tp_E_step (And.intro (fun c3 => Exists.intro _ (And.intro (tp_wk_rf _) (tp_E_step (And.intro rfl (((h.1 c1).2 c2).1 c3))))) (fun c3 => Exists.intro _ (And.intro (tp_wk_rf _) (tp_E_step (Exists.intro _ (And.intro (tp_wk_rf _) (tp_E_step (And.intro rfl (((h.1 c1).2 c2).2 c3)))))))))))))))) (fun c1 => And.intro (h.2 c1).1 (And.intro (fun c4 => And.intro ((h.2 c1).2.1 c4).1 (And.intro (fun c5 => And.intro (fun c6 => And.intro ((((h.2 c1).2.1 c4).2.1 c5).1 c6).1 (Exists.intro _ (And.intro (tp_wk_rf _) (tp_E_step (And.intro ((((h.2 c1).2.1 c4).2.1 c5).1 c6).2.1 (Exists.intro _ (And.intro (tp_wk_rf _) (tp_E_step (Exists.intro [.ref 58, .int a1, .int a2, .int a3, .int (a4 + 1), .int (σ.1 69 (a7).toNatClampNeg), .int (σ.1 69 (a7).toNatClampNeg), .int (a7 + 1)] (And.intro (And.intro (Or.inr rfl) (And.intro (Or.inr rfl) (And.intro (Or.inr rfl) (And.intro (Or.inr rfl) (And.intro (Or.inr rfl) (And.intro (Or.inr rfl) (And.intro (Or.inr rfl) (And.intro (Or.inr rfl) (trivial))))))))) ((((h.2 c1).2.1 c4).2.1 c5).1 c6).2.2)))))))))) (fun c6 => Exists.intro _ (And.intro (tp_wk_rf _) (tp_E_step (Exists.intro _ (And.intro (tp_wk_rf _) (tp_E_step (And.intro ((((h.2 c1).2.1 c4).2.1 c5).2 c6).1 (Exists.intro _ (And.intro (tp_wk_rf _) (tp_E_step (Exists.intro [.ref 58, .int a1, .int a2, .int a3, .int (a4 + 1), .int a5, .int (σ.1 69 (a7).toNatClampNeg), .int (a7 + 1)] (And.intro (And.intro (Or.inr rfl) (And.intro (Or.inr rfl) (And.intro (Or.inr rfl) (And.intro (Or.inr rfl) (And.intro (Or.inr rfl) (And.intro (Or.inr rfl) (And.intro (Or.inr rfl) (And.intro (Or.inr rfl) (trivial))))))))) ((((h.2 c1).2.1 c4).2.1 c5).2 c6).2))))))))))))) (fun c5 => Exists.intro _ (And.intro (tp_wk_rf _) (tp_E_step (Exists.intro [.ref 58, .int a1, .int a2, .int a3, .int a4, .int a5, .int a6, .int (a7 + 1)] (And.intro (And.intro (Or.inr rfl) (And.intro (Or.inr rfl) (And.intro (Or.inr rfl) (And.intro (Or.inr rfl) (And.intro (Or.inr rfl) (And.intro (Or.inr rfl) (And.intro (Or.inr rfl) (And.intro (Or.inr rfl) (trivial))))))))) (((h.2 c1).2.1 c4).2.2 c5)))))))) (fun c4 => Exists.intro _ (And.intro (tp_wk_rf _) (tp_E_step (Exists.intro [.ref 58, .int a1, .int a2, .int a3, .int a4, .int a5, .int a6, .int (a7 + 1)] (And.intro (And.intro (Or.inr rfl) (And.intro (Or.inr rfl) (And.intro (Or.inr rfl) (And.intro (Or.inr rfl) (And.intro (Or.inr rfl) (And.intro (Or.inr rfl) (And.intro (Or.inr rfl) (And.intro (Or.inr rfl) (trivial))))))))) ((h.2 c1).2.2 c4)))))))))
/-- X10_money (I)I, 0 -/
theorem sg_118_0 {post : Int32 → tp_St → Prop} {σ : tp_St} (a1 : Int32)  (h : tp_E 107 0 [.ref 58, .int a1] [] σ (fun r1 σ1 =>
(r1 = 0 →
post (-1) σ1) ∧ (¬ r1 = 0 →
tp_E 108 0 [.ref 58, .int a1, .null, .null] [] σ1 (fun r2 σ2 =>
post r2 σ2)))) : tp_E 118 0 [.ref 58, .int a1] [] σ post := tp_E_step (tp_Em h (fun r1 σ1 h1 => And.intro (fun c3 => Exists.intro _ (And.intro (tp_wk_rf _) (tp_E_step (Exists.intro _ (And.intro (tp_wk_rf _) (tp_E_step (And.intro rfl (h1.1 c3)))))))) (fun c3 => tp_Em (h1.2 c3) (fun r2 σ2 h2 => Exists.intro _ (And.intro (tp_wk_rf _) (tp_E_step (And.intro rfl h2)))))))
/-- X10_paid (II)I, 0 -/
theorem sg_119_0 {post : Int32 → tp_St → Prop} {σ : tp_St} (a1 : Int32) (a2 : Int32)  (h : tp_E 101 0 [.long (a1).toInt64, .null, .long (Int64.ofNat 0), .null, .long (Int64.ofNat 5), .null] [] σ (fun r1 σ1 =>
(r1 = 0 →
post (-1000000) σ1) ∧ (¬ r1 = 0 →
tp_E 101 0 [.long (a2).toInt64, .null, .long (Int64.ofNat 0), .null, .long (Int64.ofNat 100000), .null] [] σ1 (fun r2 σ2 =>
(r2 = 0 →
post (-1000000) σ2) ∧ (¬ r2 = 0 →
tp_E 119 32 [.ref 58, .int a1, .null, .int a2, .int 0] [] σ2 post))))) : tp_E 119 0 [.ref 58, .int a1, .int a2, .null, .null] [] σ post := tp_E_step (tp_Em h (fun r1 σ1 h1 => And.intro (fun c3 => Exists.intro _ (And.intro (tp_wk_rf _) (tp_E_step (And.intro rfl (h1.1 c3))))) (fun c3 => tp_Em (h1.2 c3) (fun r2 σ2 h2 => And.intro (fun c4 => Exists.intro _ (And.intro (tp_wk_rf _) (tp_E_step (And.intro rfl (h2.1 c4))))) (fun c4 => Exists.intro _ (And.intro (tp_wk_rf _) (tp_E_step (Exists.intro [.ref 58, .int a1, .null, .int a2, .int 0] (And.intro (And.intro (Or.inr rfl) (And.intro (Or.inr rfl) (And.intro (Or.inl rfl) (And.intro (Or.inr rfl) (And.intro (Or.inr rfl) (trivial)))))) (h2.2 c4))))))))))
/-- X10_paid (II)I, 32 -/
theorem sg_119_32 {post : Int32 → tp_St → Prop} {σ : tp_St} (a1 : Int32) (a3 : Int32) (a4 : Int32)  (h : ((σ.1 58 5) ≤ a4 →
post a3 σ) ∧ (¬ (σ.1 58 5) ≤ a4 →
vp_in a4 16 ∧
((σ.1 63 (a4).toNatClampNeg) = a1 →
vp_in a4 16 ∧
((σ.1 65 (a4).toNatClampNeg) = 0 →
tp_E 108 0 [.ref 58, .int a4, .null, .null] [] σ (fun r1 σ1 =>
tp_E 119 32 [.ref 58, .int a1, .null, .int (a3 - r1), .int (a4 + 1)] [] σ1 post)) ∧ (¬ (σ.1 65 (a4).toNatClampNeg) = 0 →
tp_E 119 32 [.ref 58, .int a1, .null, .int (a3 - 0), .int (a4 + 1)] [] σ post)) ∧ (¬ (σ.1 63 (a4).toNatClampNeg) = a1 →
tp_E 119 32 [.ref 58, .int a1, .null, .int (a3 - 0), .int (a4 + 1)] [] σ post))) : tp_E 119 32 [.ref 58, .int a1, .null, .int a3, .int a4] [] σ post := tp_E_step (And.intro (fun c2 => Exists.intro _ (And.intro (tp_wk_rf _) (tp_E_step (And.intro rfl (h.1 c2))))) (fun c2 => And.intro (h.2 c2).1 (And.intro (fun c3 => And.intro ((h.2 c2).2.1 c3).1 (And.intro (fun c4 => tp_Em (((h.2 c2).2.1 c3).2.1 c4) (fun r1 σ1 h1 => Exists.intro _ (And.intro (tp_wk_rf _) (tp_E_step (Exists.intro [.ref 58, .int a1, .null, .int (a3 - r1), .int (a4 + 1)] (And.intro (And.intro (Or.inr rfl) (And.intro (Or.inr rfl) (And.intro (Or.inr rfl) (And.intro (Or.inr rfl) (And.intro (Or.inr rfl) (trivial)))))) h1)))))) (fun c4 => Exists.intro _ (And.intro (tp_wk_rf _) (tp_E_step (Exists.intro _ (And.intro (tp_wk_rf _) (tp_E_step (Exists.intro [.ref 58, .int a1, .null, .int (a3 - 0), .int (a4 + 1)] (And.intro (And.intro (Or.inr rfl) (And.intro (Or.inr rfl) (And.intro (Or.inr rfl) (And.intro (Or.inr rfl) (And.intro (Or.inr rfl) (trivial)))))) (((h.2 c2).2.1 c3).2.2 c4))))))))))) (fun c3 => Exists.intro _ (And.intro (tp_wk_rf _) (tp_E_step (Exists.intro _ (And.intro (tp_wk_rf _) (tp_E_step (Exists.intro [.ref 58, .int a1, .null, .int (a3 - 0), .int (a4 + 1)] (And.intro (And.intro (Or.inr rfl) (And.intro (Or.inr rfl) (And.intro (Or.inr rfl) (And.intro (Or.inr rfl) (And.intro (Or.inr rfl) (trivial)))))) ((h.2 c2).2.2 c3))))))))))))
/-- X10_beginOf (II)I, 0 -/
theorem sg_120_0 {post : Int32 → tp_St → Prop} {σ : tp_St} (a1 : Int32) (a2 : Int32)  (h : vp_in a1 16 ∧
((σ.1 64 (a1).toNatClampNeg) = 0 →
post (8 - a2) σ) ∧ (¬ (σ.1 64 (a1).toNatClampNeg) = 0 →
post a2 σ)) : tp_E 120 0 [.ref 58, .int a1, .int a2] [] σ post := tp_E_step (And.intro h.1 (And.intro (fun c1 => Exists.intro _ (And.intro (tp_wk_rf _) (tp_E_step (Exists.intro _ (And.intro (tp_wk_rf _) (tp_E_step (And.intro rfl (h.2.1 c1)))))))) (fun c1 => Exists.intro _ (And.intro (tp_wk_rf _) (tp_E_step (And.intro rfl (h.2.2 c1)))))))
/-- X10_aboardOf (IIZ)I, 0 -/
theorem sg_121_0 {post : Int32 → tp_St → Prop} {σ : tp_St} (a1 : Int32) (a2 : Int32) (a3 : Int32)  (h : tp_E 120 0 [.ref 58, .int a1, .int a2] [] σ (fun r1 σ1 =>
tp_E 121 14 [.ref 58, .int a1, .null, .int a3, .int r1, .int 0, .int 0, .null] [] σ1 post)) : tp_E 121 0 [.ref 58, .int a1, .int a2, .int a3, .null, .null, .null, .null] [] σ post := tp_E_step (tp_Em h (fun r1 σ1 h1 => Exists.intro [.ref 58, .int a1, .null, .int a3, .int r1, .int 0, .int 0, .null] (And.intro (And.intro (Or.inr rfl) (And.intro (Or.inr rfl) (And.intro (Or.inl rfl) (And.intro (Or.inr rfl) (And.intro (Or.inr rfl) (And.intro (Or.inr rfl) (And.intro (Or.inr rfl) (And.intro (Or.inr rfl) (trivial))))))))) h1)))
/-- X10_aboardOf (IIZ)I, 14 -/
theorem sg_121_14 {post : Int32 → tp_St → Prop} {σ : tp_St} (a1 : Int32) (a3 : Int32) (a4 : Int32) (a5 : Int32) (a6 : Int32)  (h : ((σ.1 58 9) ≤ a6 →
post a5 σ) ∧ (¬ (σ.1 58 9) ≤ a6 →
vp_in a6 200 ∧
((σ.1 66 (a6).toNatClampNeg) = a1 →
vp_in a6 200 ∧
tp_E 110 0 [.ref 58, .int a1, .int (σ.1 68 (a6).toNatClampNeg)] [] σ (fun r1 σ1 =>
(a3 = 0 →
(r1 = a4 →
tp_E 121 14 [.ref 58, .int a1, .null, .int a3, .int a4, .int (a5 + 1), .int (a6 + 1), .null] [] σ1 post) ∧ (¬ r1 = a4 →
tp_E 121 14 [.ref 58, .int a1, .null, .int a3, .int a4, .int (a5 + 0), .int (a6 + 1), .null] [] σ1 post)) ∧ (¬ a3 = 0 →
(a4 < r1 →
tp_E 121 14 [.ref 58, .int a1, .null, .int a3, .int a4, .int (a5 + 0), .int (a6 + 1), .null] [] σ1 post) ∧ (¬ a4 < r1 →
vp_in a6 200 ∧
vp_in (σ1.1 67 (a6).toNatClampNeg) 5 ∧
((r1 + (σ1.1 60 ((σ1.1 67 (a6).toNatClampNeg)).toNatClampNeg)) ≤ a4 →
tp_E 121 14 [.ref 58, .int a1, .null, .int a3, .int a4, .int (a5 + 0), .int (a6 + 1), .null] [] σ1 post) ∧ (¬ (r1 + (σ1.1 60 ((σ1.1 67 (a6).toNatClampNeg)).toNatClampNeg)) ≤ a4 →
tp_E 121 14 [.ref 58, .int a1, .null, .int a3, .int a4, .int (a5 + 1), .int (a6 + 1), .null] [] σ1 post))))) ∧ (¬ (σ.1 66 (a6).toNatClampNeg) = a1 →
tp_E 121 14 [.ref 58, .int a1, .null, .int a3, .int a4, .int a5, .int (a6 + 1), .null] [] σ post))) : tp_E 121 14 [.ref 58, .int a1, .null, .int a3, .int a4, .int a5, .int a6, .null] [] σ post := tp_E_step (And.intro (fun c2 => Exists.intro _ (And.intro (tp_wk_rf _) (tp_E_step (And.intro rfl (h.1 c2))))) (fun c2 => And.intro (h.2 c2).1 (And.intro (fun c3 => And.intro ((h.2 c2).2.1 c3).1 (tp_Em ((h.2 c2).2.1 c3).2 (fun r1 σ1 h1 => And.intro (fun c4 => Exists.intro _ (And.intro (tp_wk_rf _) (tp_E_step (And.intro (fun c5 => Exists.intro _ (And.intro (tp_wk_rf _) (tp_E_step (Exists.intro _ (And.intro (tp_wk_rf _) (tp_E_step (Exists.intro [.ref 58, .int a1, .null, .int a3, .int a4, .int (a5 + 1), .int (a6 + 1), .null] (And.intro (And.intro (Or.inr rfl) (And.intro (Or.inr rfl) (And.intro (Or.inr rfl) (And.intro (Or.inr rfl) (And.intro (Or.inr rfl) (And.intro (Or.inr rfl) (And.intro (Or.inr rfl) (And.intro (Or.inl rfl) (trivial))))))))) ((h1.1 c4).1 c5))))))))) (fun c5 => Exists.intro _ (And.intro (tp_wk_rf _) (tp_E_step (Exists.intro _ (And.intro (tp_wk_rf _) (tp_E_step (Exists.intro _ (And.intro (tp_wk_rf _) (tp_E_step (Exists.intro [.ref 58, .int a1, .null, .int a3, .int a4, .int (a5 + 0), .int (a6 + 1), .null] (And.intro (And.intro (Or.inr rfl) (And.intro (Or.inr rfl) (And.intro (Or.inr rfl) (And.intro (Or.inr rfl) (And.intro (Or.inr rfl) (And.intro (Or.inr rfl) (And.intro (Or.inr rfl) (And.intro (Or.inl rfl) (trivial))))))))) ((h1.1 c4).2 c5)))))))))))))))) (fun c4 => And.intro (fun c6 => Exists.intro _ (And.intro (tp_wk_rf _) (tp_E_step (Exists.intro _ (And.intro (tp_wk_rf _) (tp_E_step (Exists.intro _ (And.intro (tp_wk_rf _) (tp_E_step (Exists.intro [.ref 58, .int a1, .null, .int a3, .int a4, .int (a5 + 0), .int (a6 + 1), .null] (And.intro (And.intro (Or.inr rfl) (And.intro (Or.inr rfl) (And.intro (Or.inr rfl) (And.intro (Or.inr rfl) (And.intro (Or.inr rfl) (And.intro (Or.inr rfl) (And.intro (Or.inr rfl) (And.intro (Or.inl rfl) (trivial))))))))) ((h1.2 c4).1 c6)))))))))))) (fun c6 => And.intro ((h1.2 c4).2 c6).1 (And.intro ((h1.2 c4).2 c6).2.1 (And.intro (fun c7 => Exists.intro _ (And.intro (tp_wk_rf _) (tp_E_step (Exists.intro _ (And.intro (tp_wk_rf _) (tp_E_step (Exists.intro _ (And.intro (tp_wk_rf _) (tp_E_step (Exists.intro [.ref 58, .int a1, .null, .int a3, .int a4, .int (a5 + 0), .int (a6 + 1), .null] (And.intro (And.intro (Or.inr rfl) (And.intro (Or.inr rfl) (And.intro (Or.inr rfl) (And.intro (Or.inr rfl) (And.intro (Or.inr rfl) (And.intro (Or.inr rfl) (And.intro (Or.inr rfl) (And.intro (Or.inl rfl) (trivial))))))))) (((h1.2 c4).2 c6).2.2.1 c7)))))))))))) (fun c7 => Exists.intro _ (And.intro (tp_wk_rf _) (tp_E_step (Exists.intro _ (And.intro (tp_wk_rf _) (tp_E_step (Exists.intro [.ref 58, .int a1, .null, .int a3, .int a4, .int (a5 + 1), .int (a6 + 1), .null] (And.intro (And.intro (Or.inr rfl) (And.intro (Or.inr rfl) (And.intro (Or.inr rfl) (And.intro (Or.inr rfl) (And.intro (Or.inr rfl) (And.intro (Or.inr rfl) (And.intro (Or.inr rfl) (And.intro (Or.inl rfl) (trivial))))))))) (((h1.2 c4).2 c6).2.2.2 c7)))))))))))))))) (fun c3 => Exists.intro _ (And.intro (tp_wk_rf _) (tp_E_step (Exists.intro [.ref 58, .int a1, .null, .int a3, .int a4, .int a5, .int (a6 + 1), .null] (And.intro (And.intro (Or.inr rfl) (And.intro (Or.inr rfl) (And.intro (Or.inr rfl) (And.intro (Or.inr rfl) (And.intro (Or.inr rfl) (And.intro (Or.inr rfl) (And.intro (Or.inr rfl) (And.intro (Or.inr rfl) (trivial))))))))) ((h.2 c2).2.2 c3)))))))))
/-- X10_aboard (III)I, 0 -/
theorem sg_122_0 {post : Int32 → tp_St → Prop} {σ : tp_St} (a1 : Int32) (a2 : Int32) (a3 : Int32)  (h : tp_E 107 0 [.ref 58, .int a1] [] σ (fun r1 σ1 =>
(r1 = 0 →
post (-1) σ1) ∧ (¬ r1 = 0 →
tp_E 101 0 [.long (a2).toInt64, .null, .long (Int64.ofNat 0), .null, .long (Int64.ofNat 8), .null] [] σ1 (fun r2 σ2 =>
(r2 = 0 →
post (-1) σ2) ∧ (¬ r2 = 0 →
tp_E 101 0 [.long (a3).toInt64, .null, .long (Int64.ofNat 0), .null, .long (Int64.ofNat 1), .null] [] σ2 (fun r3 σ3 =>
(r3 = 0 →
post (-1) σ3) ∧ (¬ r3 = 0 →
(a3 = 1 →
tp_E 121 0 [.ref 58, .int a1, .int a2, .int 1, .null, .null, .null, .null] [] σ3 (fun r4 σ4 =>
post r4 σ4)) ∧ (¬ a3 = 1 →
tp_E 121 0 [.ref 58, .int a1, .int a2, .int 0, .null, .null, .null, .null] [] σ3 (fun r5 σ5 =>
post r5 σ5))))))))) : tp_E 122 0 [.ref 58, .int a1, .int a2, .int a3] [] σ post := tp_E_step (tp_Em h (fun r1 σ1 h1 => And.intro (fun c4 => Exists.intro _ (And.intro (tp_wk_rf _) (tp_E_step (Exists.intro _ (And.intro (tp_wk_rf _) (tp_E_step (And.intro rfl (h1.1 c4)))))))) (fun c4 => tp_Em (h1.2 c4) (fun r2 σ2 h2 => And.intro (fun c5 => Exists.intro _ (And.intro (tp_wk_rf _) (tp_E_step (Exists.intro _ (And.intro (tp_wk_rf _) (tp_E_step (And.intro rfl (h2.1 c5)))))))) (fun c5 => tp_Em (h2.2 c5) (fun r3 σ3 h3 => And.intro (fun c6 => Exists.intro _ (And.intro (tp_wk_rf _) (tp_E_step (Exists.intro _ (And.intro (tp_wk_rf _) (tp_E_step (And.intro rfl (h3.1 c6)))))))) (fun c6 => And.intro (fun c7 => Exists.intro _ (And.intro (tp_wk_rf _) (tp_E_step (tp_Em ((h3.2 c6).1 c7) (fun r8 σ8 h8 => Exists.intro _ (And.intro (tp_wk_rf _) (tp_E_step (And.intro rfl h8)))))))) (fun c7 => Exists.intro _ (And.intro (tp_wk_rf _) (tp_E_step (Exists.intro _ (And.intro (tp_wk_rf _) (tp_E_step (tp_Em ((h3.2 c6).2 c7) (fun r9 σ9 h9 => Exists.intro _ (And.intro (tp_wk_rf _) (tp_E_step (And.intro rfl h9))))))))))))))))))
/-- X10_riders (ZII)I, 0 -/
theorem sg_123_0 {post : Int32 → tp_St → Prop} {σ : tp_St} (a1 : Int32) (a2 : Int32) (a3 : Int32)  (h : tp_E 101 0 [.long (a2).toInt64, .null, .long (Int64.ofNat 0), .null, .long (Int64.ofNat 8), .null] [] σ (fun r1 σ1 =>
(r1 = 0 →
post (-1) σ1) ∧ (¬ r1 = 0 →
tp_E 101 0 [.long (a3).toInt64, .null, .long (Int64.ofNat 0), .null, .long (Int64.ofNat 1), .null] [] σ1 (fun r2 σ2 =>
(r2 = 0 →
post (-1) σ2) ∧ (¬ r2 = 0 →
tp_E 123 30 [.ref 58, .int a1, .int a2, .int a3, .int 0, .int 0] [] σ2 post))))) : tp_E 123 0 [.ref 58, .int a1, .int a2, .int a3, .null, .null] [] σ post := tp_E_step (tp_Em h (fun r1 σ1 h1 => And.intro (fun c3 => Exists.intro _ (And.intro (tp_wk_rf _) (tp_E_step (And.intro rfl (h1.1 c3))))) (fun c3 => tp_Em (h1.2 c3) (fun r2 σ2 h2 => And.intro (fun c4 => Exists.intro _ (And.intro (tp_wk_rf _) (tp_E_step (And.intro rfl (h2.1 c4))))) (fun c4 => Exists.intro _ (And.intro (tp_wk_rf _) (tp_E_step (Exists.intro [.ref 58, .int a1, .int a2, .int a3, .int 0, .int 0] (And.intro (And.intro (Or.inr rfl) (And.intro (Or.inr rfl) (And.intro (Or.inr rfl) (And.intro (Or.inr rfl) (And.intro (Or.inr rfl) (And.intro (Or.inr rfl) (trivial))))))) (h2.2 c4))))))))))
/-- X10_riders (ZII)I, 30 -/
theorem sg_123_30 {post : Int32 → tp_St → Prop} {σ : tp_St} (a1 : Int32) (a2 : Int32) (a3 : Int32) (a4 : Int32) (a5 : Int32)  (h : ((σ.1 58 5) ≤ a5 →
post a4 σ) ∧ (¬ (σ.1 58 5) ≤ a5 →
vp_in a5 16 ∧
((σ.1 64 (a5).toNatClampNeg) = a1 →
(a3 = 1 →
tp_E 121 0 [.ref 58, .int a5, .int a2, .int 1, .null, .null, .null, .null] [] σ (fun r1 σ1 =>
tp_E 123 30 [.ref 58, .int a1, .int a2, .int a3, .int (a4 + r1), .int (a5 + 1)] [] σ1 post)) ∧ (¬ a3 = 1 →
tp_E 121 0 [.ref 58, .int a5, .int a2, .int 0, .null, .null, .null, .null] [] σ (fun r2 σ2 =>
tp_E 123 30 [.ref 58, .int a1, .int a2, .int a3, .int (a4 + r2), .int (a5 + 1)] [] σ2 post))) ∧ (¬ (σ.1 64 (a5).toNatClampNeg) = a1 →
tp_E 123 30 [.ref 58, .int a1, .int a2, .int a3, .int (a4 + 0), .int (a5 + 1)] [] σ post))) : tp_E 123 30 [.ref 58, .int a1, .int a2, .int a3, .int a4, .int a5] [] σ post := tp_E_step (And.intro (fun c1 => Exists.intro _ (And.intro (tp_wk_rf _) (tp_E_step (And.intro rfl (h.1 c1))))) (fun c1 => And.intro (h.2 c1).1 (And.intro (fun c2 => And.intro (fun c3 => Exists.intro _ (And.intro (tp_wk_rf _) (tp_E_step (tp_Em (((h.2 c1).2.1 c2).1 c3) (fun r4 σ4 h4 => Exists.intro _ (And.intro (tp_wk_rf _) (tp_E_step (Exists.intro [.ref 58, .int a1, .int a2, .int a3, .int (a4 + r4), .int (a5 + 1)] (And.intro (And.intro (Or.inr rfl) (And.intro (Or.inr rfl) (And.intro (Or.inr rfl) (And.intro (Or.inr rfl) (And.intro (Or.inr rfl) (And.intro (Or.inr rfl) (trivial))))))) h4))))))))) (fun c3 => Exists.intro _ (And.intro (tp_wk_rf _) (tp_E_step (Exists.intro _ (And.intro (tp_wk_rf _) (tp_E_step (tp_Em (((h.2 c1).2.1 c2).2 c3) (fun r5 σ5 h5 => Exists.intro _ (And.intro (tp_wk_rf _) (tp_E_step (Exists.intro [.ref 58, .int a1, .int a2, .int a3, .int (a4 + r5), .int (a5 + 1)] (And.intro (And.intro (Or.inr rfl) (And.intro (Or.inr rfl) (And.intro (Or.inr rfl) (And.intro (Or.inr rfl) (And.intro (Or.inr rfl) (And.intro (Or.inr rfl) (trivial))))))) h5))))))))))))) (fun c2 => Exists.intro _ (And.intro (tp_wk_rf _) (tp_E_step (Exists.intro _ (And.intro (tp_wk_rf _) (tp_E_step (Exists.intro [.ref 58, .int a1, .int a2, .int a3, .int (a4 + 0), .int (a5 + 1)] (And.intro (And.intro (Or.inr rfl) (And.intro (Or.inr rfl) (And.intro (Or.inr rfl) (And.intro (Or.inr rfl) (And.intro (Or.inr rfl) (And.intro (Or.inr rfl) (trivial))))))) ((h.2 c1).2.2 c2))))))))))))
/-- X10_shown (IIII)I, 0 -/
theorem sg_124_0 {post : Int32 → tp_St → Prop} {σ : tp_St} (a1 : Int32) (a2 : Int32) (a3 : Int32) (a4 : Int32)  (h : tp_E 107 0 [.ref 58, .int a1] [] σ (fun r1 σ1 =>
(r1 = 0 →
post (-1) σ1) ∧ (¬ r1 = 0 →
tp_E 101 0 [.long (a2).toInt64, .null, .long (Int64.ofNat 0), .null, .long (Int64.ofNat 8), .null] [] σ1 (fun r2 σ2 =>
(r2 = 0 →
post (-1) σ2) ∧ (¬ r2 = 0 →
tp_E 101 0 [.long (a3).toInt64, .null, .long (Int64.ofNat 0), .null, .long (((σ2.1 58 0) - 1)).toInt64, .null] [] σ2 (fun r3 σ3 =>
(r3 = 0 →
post (-1) σ3) ∧ (¬ r3 = 0 →
(0 ≤ a4 →
tp_E 124 46 [.ref 58, .int a1, .int a2, .int a3, .int a4, .int 0, .null, .null] [] σ3 post) ∧ (¬ 0 ≤ a4 →
post (-1) σ3)))))))) : tp_E 124 0 [.ref 58, .int a1, .int a2, .int a3, .int a4, .null, .null, .null] [] σ post := tp_E_step (tp_Em h (fun r1 σ1 h1 => And.intro (fun c4 => Exists.intro _ (And.intro (tp_wk_rf _) (tp_E_step (And.intro rfl (h1.1 c4))))) (fun c4 => tp_Em (h1.2 c4) (fun r2 σ2 h2 => And.intro (fun c5 => Exists.intro _ (And.intro (tp_wk_rf _) (tp_E_step (And.intro rfl (h2.1 c5))))) (fun c5 => tp_Em (h2.2 c5) (fun r3 σ3 h3 => And.intro (fun c6 => Exists.intro _ (And.intro (tp_wk_rf _) (tp_E_step (And.intro rfl (h3.1 c6))))) (fun c6 => And.intro (fun c7 => Exists.intro _ (And.intro (tp_wk_rf _) (tp_E_step (Exists.intro [.ref 58, .int a1, .int a2, .int a3, .int a4, .int 0, .null, .null] (And.intro (And.intro (Or.inr rfl) (And.intro (Or.inr rfl) (And.intro (Or.inr rfl) (And.intro (Or.inr rfl) (And.intro (Or.inr rfl) (And.intro (Or.inr rfl) (And.intro (Or.inr rfl) (And.intro (Or.inr rfl) (trivial))))))))) ((h3.2 c6).1 c7)))))) (fun c7 => Exists.intro _ (And.intro (tp_wk_rf _) (tp_E_step (And.intro rfl ((h3.2 c6).2 c7))))))))))))
/-- X10_shown (IIII)I, 46 -/
theorem sg_124_46 {post : Int32 → tp_St → Prop} {σ : tp_St} (a1 : Int32) (a2 : Int32) (a3 : Int32) (a4 : Int32) (a5 : Int32)  (h : ((σ.1 58 9) ≤ a5 →
post 1 σ) ∧ (¬ (σ.1 58 9) ≤ a5 →
vp_in a5 200 ∧
((σ.1 67 (a5).toNatClampNeg) = a3 →
vp_in a5 200 ∧
((σ.1 69 (a5).toNatClampNeg) = a4 →
tp_E 120 0 [.ref 58, .int a1, .int a2] [] σ (fun r1 σ1 =>
vp_in a5 200 ∧
tp_E 110 0 [.ref 58, .int a1, .int (σ1.1 68 (a5).toNatClampNeg)] [] σ1 (fun r2 σ2 =>
vp_in a5 200 ∧
((σ2.1 66 (a5).toNatClampNeg) = a1 →
(r2 ≤ r1 →
vp_in a3 5 ∧
(r1 < (r2 + (σ2.1 60 (a3).toNatClampNeg)) →
post 0 σ2) ∧ (¬ r1 < (r2 + (σ2.1 60 (a3).toNatClampNeg)) →
post 4 σ2)) ∧ (¬ r2 ≤ r1 →
post 3 σ2)) ∧ (¬ (σ2.1 66 (a5).toNatClampNeg) = a1 →
post 2 σ2)))) ∧ (¬ (σ.1 69 (a5).toNatClampNeg) = a4 →
tp_E 124 46 [.ref 58, .int a1, .int a2, .int a3, .int a4, .int (a5 + 1), .null, .null] [] σ post)) ∧ (¬ (σ.1 67 (a5).toNatClampNeg) = a3 →
tp_E 124 46 [.ref 58, .int a1, .int a2, .int a3, .int a4, .int (a5 + 1), .null, .null] [] σ post))) : tp_E 124 46 [.ref 58, .int a1, .int a2, .int a3, .int a4, .int a5, .null, .null] [] σ post := tp_E_step (And.intro (fun c3 => Exists.intro _ (And.intro (tp_wk_rf _) (tp_E_step (And.intro rfl (h.1 c3))))) (fun c3 => And.intro (h.2 c3).1 (And.intro (fun c4 => And.intro ((h.2 c3).2.1 c4).1 (And.intro (fun c5 => tp_Em (((h.2 c3).2.1 c4).2.1 c5) (fun r1 σ1 h1 => And.intro h1.1 (tp_Em h1.2 (fun r2 σ2 h2 => And.intro h2.1 (And.intro (fun c6 => Exists.intro _ (And.intro (tp_wk_rf _) (tp_E_step (And.intro (fun c7 => Exists.intro _ (And.intro (tp_wk_rf _) (tp_E_step (And.intro ((h2.2.1 c6).1 c7).1 (And.intro (fun c8 => Exists.intro _ (And.intro (tp_wk_rf _) (tp_E_step (Exists.intro _ (And.intro (tp_wk_rf _) (tp_E_step (And.intro rfl (((h2.2.1 c6).1 c7).2.1 c8)))))))) (fun c8 => Exists.intro _ (And.intro (tp_wk_rf _) (tp_E_step (And.intro rfl (((h2.2.1 c6).1 c7).2.2 c8)))))))))) (fun c7 => Exists.intro _ (And.intro (tp_wk_rf _) (tp_E_step (And.intro rfl ((h2.2.1 c6).2 c7))))))))) (fun c6 => Exists.intro _ (And.intro (tp_wk_rf _) (tp_E_step (And.intro rfl (h2.2.2 c6)))))))))) (fun c5 => Exists.intro _ (And.intro (tp_wk_rf _) (tp_E_step (Exists.intro [.ref 58, .int a1, .int a2, .int a3, .int a4, .int (a5 + 1), .null, .null] (And.intro (And.intro (Or.inr rfl) (And.intro (Or.inr rfl) (And.intro (Or.inr rfl) (And.intro (Or.inr rfl) (And.intro (Or.inr rfl) (And.intro (Or.inr rfl) (And.intro (Or.inr rfl) (And.intro (Or.inr rfl) (trivial))))))))) (((h.2 c3).2.1 c4).2.2 c5)))))))) (fun c4 => Exists.intro _ (And.intro (tp_wk_rf _) (tp_E_step (Exists.intro [.ref 58, .int a1, .int a2, .int a3, .int a4, .int (a5 + 1), .null, .null] (And.intro (And.intro (Or.inr rfl) (And.intro (Or.inr rfl) (And.intro (Or.inr rfl) (And.intro (Or.inr rfl) (And.intro (Or.inr rfl) (And.intro (Or.inr rfl) (And.intro (Or.inr rfl) (And.intro (Or.inr rfl) (trivial))))))))) ((h.2 c3).2.2 c4)))))))))
/-- X10_heads (III)I, 0 -/
theorem sg_125_0 {post : Int32 → tp_St → Prop} {σ : tp_St} (a1 : Int32) (a2 : Int32) (a3 : Int32)  (h : tp_E 107 0 [.ref 58, .int a1] [] σ (fun r1 σ1 =>
(r1 = 0 →
post (-1000000) σ1) ∧ (¬ r1 = 0 →
tp_E 101 0 [.long (a2).toInt64, .null, .long (Int64.ofNat 0), .null, .long (Int64.ofNat 8), .null] [] σ1 (fun r2 σ2 =>
(r2 = 0 →
post (-1000000) σ2) ∧ (¬ r2 = 0 →
tp_E 101 0 [.long (a3).toInt64, .null, .long (Int64.ofNat 0), .null, .long (Int64.ofNat 1000), .null] [] σ2 (fun r3 σ3 =>
(r3 = 0 →
post (-1000000) σ3) ∧ (¬ r3 = 0 →
tp_E 121 0 [.ref 58, .int a1, .int a2, .int 1, .null, .null, .null, .null] [] σ3 (fun r4 σ4 =>
tp_E 121 0 [.ref 58, .int a1, .int a2, .int 0, .null, .null, .null, .null] [] σ4 (fun r5 σ5 =>
(a3 ≤ r4 →
(r5 ≤ a3 →
post 0 σ5) ∧ (¬ r5 ≤ a3 →
post (a3 - r5) σ5)) ∧ (¬ a3 ≤ r4 →
post (a3 - r4) σ5)))))))))) : tp_E 125 0 [.ref 58, .int a1, .int a2, .int a3, .null, .null] [] σ post := tp_E_step (tp_Em h (fun r1 σ1 h1 => And.intro (fun c4 => Exists.intro _ (And.intro (tp_wk_rf _) (tp_E_step (And.intro rfl (h1.1 c4))))) (fun c4 => tp_Em (h1.2 c4) (fun r2 σ2 h2 => And.intro (fun c5 => Exists.intro _ (And.intro (tp_wk_rf _) (tp_E_step (And.intro rfl (h2.1 c5))))) (fun c5 => tp_Em (h2.2 c5) (fun r3 σ3 h3 => And.intro (fun c6 => Exists.intro _ (And.intro (tp_wk_rf _) (tp_E_step (And.intro rfl (h3.1 c6))))) (fun c6 => Exists.intro _ (And.intro (tp_wk_rf _) (tp_E_step (tp_Em (h3.2 c6) (fun r7 σ7 h7 => tp_Em h7 (fun r8 σ8 h8 => And.intro (fun c9 => Exists.intro _ (And.intro (tp_wk_rf _) (tp_E_step (And.intro (fun c10 => Exists.intro _ (And.intro (tp_wk_rf _) (tp_E_step (Exists.intro _ (And.intro (tp_wk_rf _) (tp_E_step (And.intro rfl ((h8.1 c9).1 c10)))))))) (fun c10 => Exists.intro _ (And.intro (tp_wk_rf _) (tp_E_step (And.intro rfl ((h8.1 c9).2 c10))))))))) (fun c9 => Exists.intro _ (And.intro (tp_wk_rf _) (tp_E_step (And.intro rfl (h8.2 c9)))))))))))))))))
/-- X10_gap (I)I, 0 -/
theorem sg_126_0 {post : Int32 → tp_St → Prop} {σ : tp_St} (a1 : Int32)  (h : tp_E 101 0 [.long (a1).toInt64, .null, .long (Int64.ofNat 0), .null, .long (((σ.1 58 0) - 1)).toInt64, .null] [] σ (fun r1 σ1 =>
(r1 = 0 →
post (-1) σ1) ∧ (¬ r1 = 0 →
tp_E 126 22 [.ref 58, .int a1, .int (-1), .int 0, .null, .null, .null] [] σ1 post))) : tp_E 126 0 [.ref 58, .int a1, .null, .null, .null, .null, .null] [] σ post := tp_E_step (tp_Em h (fun r1 σ1 h1 => And.intro (fun c2 => And.intro rfl (h1.1 c2)) (fun c2 => Exists.intro _ (And.intro (tp_wk_rf _) (tp_E_step (Exists.intro [.ref 58, .int a1, .int (-1), .int 0, .null, .null, .null] (And.intro (And.intro (Or.inr rfl) (And.intro (Or.inr rfl) (And.intro (Or.inr rfl) (And.intro (Or.inr rfl) (And.intro (Or.inr rfl) (And.intro (Or.inr rfl) (And.intro (Or.inr rfl) (trivial)))))))) (h1.2 c2))))))))
/-- X10_gap (I)I, 22 -/
theorem sg_126_22 {post : Int32 → tp_St → Prop} {σ : tp_St} (a1 : Int32) (a2 : Int32) (a3 : Int32)  (h : ((σ.1 58 9) ≤ a3 →
tp_E 126 69 [.ref 58, .int a1, .int a2, .int 0, .null, .null, .null] [] σ post) ∧ (¬ (σ.1 58 9) ≤ a3 →
vp_in a3 200 ∧
((σ.1 67 (a3).toNatClampNeg) = a1 →
vp_in a3 200 ∧
((σ.1 69 (a3).toNatClampNeg) ≤ a2 →
tp_E 126 22 [.ref 58, .int a1, .int a2, .int (a3 + 1), .null, .null, .null] [] σ post) ∧ (¬ (σ.1 69 (a3).toNatClampNeg) ≤ a2 →
vp_in a3 200 ∧
tp_E 126 22 [.ref 58, .int a1, .int (σ.1 69 (a3).toNatClampNeg), .int (a3 + 1), .null, .null, .null] [] σ post)) ∧ (¬ (σ.1 67 (a3).toNatClampNeg) = a1 →
tp_E 126 22 [.ref 58, .int a1, .int a2, .int (a3 + 1), .null, .null, .null] [] σ post))) : tp_E 126 22 [.ref 58, .int a1, .int a2, .int a3, .null, .null, .null] [] σ post := tp_E_step (And.intro (fun c1 => Exists.intro _ (And.intro (tp_wk_rf _) (tp_E_step (Exists.intro [.ref 58, .int a1, .int a2, .int 0, .null, .null, .null] (And.intro (And.intro (Or.inr rfl) (And.intro (Or.inr rfl) (And.intro (Or.inr rfl) (And.intro (Or.inr rfl) (And.intro (Or.inr rfl) (And.intro (Or.inr rfl) (And.intro (Or.inr rfl) (trivial)))))))) (h.1 c1)))))) (fun c1 => And.intro (h.2 c1).1 (And.intro (fun c2 => And.intro ((h.2 c1).2.1 c2).1 (And.intro (fun c3 => Exists.intro _ (And.intro (tp_wk_rf _) (tp_E_step (Exists.intro _ (And.intro (tp_wk_rf _) (tp_E_step (Exists.intro [.ref 58, .int a1, .int a2, .int (a3 + 1), .null, .null, .null] (And.intro (And.intro (Or.inr rfl) (And.intro (Or.inr rfl) (And.intro (Or.inr rfl) (And.intro (Or.inr rfl) (And.intro (Or.inr rfl) (And.intro (Or.inr rfl) (And.intro (Or.inr rfl) (trivial)))))))) (((h.2 c1).2.1 c2).2.1 c3))))))))) (fun c3 => And.intro (((h.2 c1).2.1 c2).2.2 c3).1 (Exists.intro _ (And.intro (tp_wk_rf _) (tp_E_step (Exists.intro [.ref 58, .int a1, .int (σ.1 69 (a3).toNatClampNeg), .int (a3 + 1), .null, .null, .null] (And.intro (And.intro (Or.inr rfl) (And.intro (Or.inr rfl) (And.intro (Or.inr rfl) (And.intro (Or.inr rfl) (And.intro (Or.inr rfl) (And.intro (Or.inr rfl) (And.intro (Or.inr rfl) (trivial)))))))) (((h.2 c1).2.1 c2).2.2 c3).2)))))))) (fun c2 => Exists.intro _ (And.intro (tp_wk_rf _) (tp_E_step (Exists.intro _ (And.intro (tp_wk_rf _) (tp_E_step (Exists.intro [.ref 58, .int a1, .int a2, .int (a3 + 1), .null, .null, .null] (And.intro (And.intro (Or.inr rfl) (And.intro (Or.inr rfl) (And.intro (Or.inr rfl) (And.intro (Or.inr rfl) (And.intro (Or.inr rfl) (And.intro (Or.inr rfl) (And.intro (Or.inr rfl) (trivial)))))))) ((h.2 c1).2.2 c2))))))))))))
/-- X10_gap (I)I, 69 -/
theorem sg_126_69 {post : Int32 → tp_St → Prop} {σ : tp_St} (a1 : Int32) (a2 : Int32) (a3 : Int32)  (h : (a2 ≤ a3 →
post (-4) σ) ∧ (¬ a2 ≤ a3 →
tp_E 126 80 [.ref 58, .int a1, .int a2, .int a3, .int a3, .int 0, .null] [] σ post)) : tp_E 126 69 [.ref 58, .int a1, .int a2, .int a3, .null, .null, .null] [] σ post := tp_E_step (And.intro (fun c1 => Exists.intro _ (And.intro (tp_wk_rf _) (tp_E_step (And.intro rfl (h.1 c1))))) (fun c1 => Exists.intro [.ref 58, .int a1, .int a2, .int a3, .int a3, .int 0, .null] (And.intro (And.intro (Or.inr rfl) (And.intro (Or.inr rfl) (And.intro (Or.inr rfl) (And.intro (Or.inr rfl) (And.intro (Or.inr rfl) (And.intro (Or.inr rfl) (And.intro (Or.inr rfl) (trivial)))))))) (h.2 c1))))
/-- X10_gap (I)I, 80 -/
theorem sg_126_80 {post : Int32 → tp_St → Prop} {σ : tp_St} (a1 : Int32) (a2 : Int32) (a3 : Int32) (a4 : Int32) (a5 : Int32)  (h : ((σ.1 58 9) ≤ a5 →
tp_E 126 130 [.ref 58, .int a1, .int a2, .int a3, .int a4, .int 0, .null] [] σ post) ∧ (¬ (σ.1 58 9) ≤ a5 →
vp_in a5 200 ∧
((σ.1 67 (a5).toNatClampNeg) = a1 →
vp_in a5 200 ∧
((σ.1 69 (a5).toNatClampNeg) = a3 →
tp_E 126 80 [.ref 58, .int a1, .int a2, .int a3, .int (a3 + 1), .int (a5 + 1), .null] [] σ post) ∧ (¬ (σ.1 69 (a5).toNatClampNeg) = a3 →
tp_E 126 80 [.ref 58, .int a1, .int a2, .int a3, .int a4, .int (a5 + 1), .null] [] σ post)) ∧ (¬ (σ.1 67 (a5).toNatClampNeg) = a1 →
tp_E 126 80 [.ref 58, .int a1, .int a2, .int a3, .int a4, .int (a5 + 1), .null] [] σ post))) : tp_E 126 80 [.ref 58, .int a1, .int a2, .int a3, .int a4, .int a5, .null] [] σ post := tp_E_step (And.intro (fun c1 => Exists.intro _ (And.intro (tp_wk_rf _) (tp_E_step (Exists.intro [.ref 58, .int a1, .int a2, .int a3, .int a4, .int 0, .null] (And.intro (And.intro (Or.inr rfl) (And.intro (Or.inr rfl) (And.intro (Or.inr rfl) (And.intro (Or.inr rfl) (And.intro (Or.inr rfl) (And.intro (Or.inr rfl) (And.intro (Or.inr rfl) (trivial)))))))) (h.1 c1)))))) (fun c1 => And.intro (h.2 c1).1 (And.intro (fun c2 => And.intro ((h.2 c1).2.1 c2).1 (And.intro (fun c3 => Exists.intro _ (And.intro (tp_wk_rf _) (tp_E_step (Exists.intro [.ref 58, .int a1, .int a2, .int a3, .int (a3 + 1), .int (a5 + 1), .null] (And.intro (And.intro (Or.inr rfl) (And.intro (Or.inr rfl) (And.intro (Or.inr rfl) (And.intro (Or.inr rfl) (And.intro (Or.inr rfl) (And.intro (Or.inr rfl) (And.intro (Or.inr rfl) (trivial)))))))) (((h.2 c1).2.1 c2).2.1 c3)))))) (fun c3 => Exists.intro _ (And.intro (tp_wk_rf _) (tp_E_step (Exists.intro _ (And.intro (tp_wk_rf _) (tp_E_step (Exists.intro [.ref 58, .int a1, .int a2, .int a3, .int a4, .int (a5 + 1), .null] (And.intro (And.intro (Or.inr rfl) (And.intro (Or.inr rfl) (And.intro (Or.inr rfl) (And.intro (Or.inr rfl) (And.intro (Or.inr rfl) (And.intro (Or.inr rfl) (And.intro (Or.inr rfl) (trivial)))))))) (((h.2 c1).2.1 c2).2.2 c3))))))))))) (fun c2 => Exists.intro _ (And.intro (tp_wk_rf _) (tp_E_step (Exists.intro _ (And.intro (tp_wk_rf _) (tp_E_step (Exists.intro [.ref 58, .int a1, .int a2, .int a3, .int a4, .int (a5 + 1), .null] (And.intro (And.intro (Or.inr rfl) (And.intro (Or.inr rfl) (And.intro (Or.inr rfl) (And.intro (Or.inr rfl) (And.intro (Or.inr rfl) (And.intro (Or.inr rfl) (And.intro (Or.inr rfl) (trivial)))))))) ((h.2 c1).2.2 c2))))))))))))
/-- X10_gap (I)I, 130 -/
theorem sg_126_130 {post : Int32 → tp_St → Prop} {σ : tp_St} (a1 : Int32) (a2 : Int32) (a3 : Int32) (a4 : Int32) (a5 : Int32)  (h : (6 ≤ a5 →
(a4 = a3 →
post a3 σ) ∧ (¬ a4 = a3 →
tp_E 126 69 [.ref 58, .int a1, .int a2, .int a4, .null, .null, .null] [] σ post)) ∧ (¬ 6 ≤ a5 →
vp_in ((5 * a5) + a1) 30 ∧
(a3 < (σ.1 61 (((5 * a5) + a1)).toNatClampNeg) →
tp_E 126 130 [.ref 58, .int a1, .int a2, .int a3, .int a4, .int (a5 + 1), .null] [] σ post) ∧ (¬ a3 < (σ.1 61 (((5 * a5) + a1)).toNatClampNeg) →
vp_in ((5 * a5) + a1) 30 ∧
((σ.1 62 (((5 * a5) + a1)).toNatClampNeg) ≤ a3 →
tp_E 126 130 [.ref 58, .int a1, .int a2, .int a3, .int a4, .int (a5 + 1), .null] [] σ post) ∧ (¬ (σ.1 62 (((5 * a5) + a1)).toNatClampNeg) ≤ a3 →
vp_in ((5 * a5) + a1) 30 ∧
tp_E 126 130 [.ref 58, .int a1, .int a2, .int a3, .int (σ.1 62 (((5 * a5) + a1)).toNatClampNeg), .int (a5 + 1), .null] [] σ post)))) : tp_E 126 130 [.ref 58, .int a1, .int a2, .int a3, .int a4, .int a5, .null] [] σ post := tp_E_step (And.intro (fun c1 => Exists.intro _ (And.intro (tp_wk_rf _) (tp_E_step (And.intro (fun c2 => And.intro rfl ((h.1 c1).1 c2)) (fun c2 => Exists.intro _ (And.intro (tp_wk_rf _) (tp_E_step (Exists.intro [.ref 58, .int a1, .int a2, .int a4, .null, .null, .null] (And.intro (And.intro (Or.inr rfl) (And.intro (Or.inr rfl) (And.intro (Or.inr rfl) (And.intro (Or.inr rfl) (And.intro (Or.inl rfl) (And.intro (Or.inl rfl) (And.intro (Or.inr rfl) (trivial)))))))) ((h.1 c1).2 c2)))))))))) (fun c1 => And.intro (h.2 c1).1 (And.intro (fun c3 => Exists.intro _ (And.intro (tp_wk_rf _) (tp_E_step (Exists.intro _ (And.intro (tp_wk_rf _) (tp_E_step (Exists.intro [.ref 58, .int a1, .int a2, .int a3, .int a4, .int (a5 + 1), .null] (And.intro (And.intro (Or.inr rfl) (And.intro (Or.inr rfl) (And.intro (Or.inr rfl) (And.intro (Or.inr rfl) (And.intro (Or.inr rfl) (And.intro (Or.inr rfl) (And.intro (Or.inl rfl) (trivial)))))))) ((h.2 c1).2.1 c3))))))))) (fun c3 => And.intro ((h.2 c1).2.2 c3).1 (And.intro (fun c4 => Exists.intro _ (And.intro (tp_wk_rf _) (tp_E_step (Exists.intro _ (And.intro (tp_wk_rf _) (tp_E_step (Exists.intro [.ref 58, .int a1, .int a2, .int a3, .int a4, .int (a5 + 1), .null] (And.intro (And.intro (Or.inr rfl) (And.intro (Or.inr rfl) (And.intro (Or.inr rfl) (And.intro (Or.inr rfl) (And.intro (Or.inr rfl) (And.intro (Or.inr rfl) (And.intro (Or.inl rfl) (trivial)))))))) (((h.2 c1).2.2 c3).2.1 c4))))))))) (fun c4 => And.intro (((h.2 c1).2.2 c3).2.2 c4).1 (Exists.intro _ (And.intro (tp_wk_rf _) (tp_E_step (Exists.intro [.ref 58, .int a1, .int a2, .int a3, .int (σ.1 62 (((5 * a5) + a1)).toNatClampNeg), .int (a5 + 1), .null] (And.intro (And.intro (Or.inr rfl) (And.intro (Or.inr rfl) (And.intro (Or.inr rfl) (And.intro (Or.inr rfl) (And.intro (Or.inr rfl) (And.intro (Or.inr rfl) (And.intro (Or.inl rfl) (trivial)))))))) (((h.2 c1).2.2 c3).2.2 c4).2)))))))))))
/-- X10_feed (J)I, 0 -/
theorem sg_127_0 {post : Int32 → tp_St → Prop} {σ : tp_St} (a1 : Int64)  (h : (((σ.1 58 18) + 8) ≤ 200 →
tp_E 127 19 [.ref 58, .long a1, .null, .int 56] [] σ post) ∧ (¬ ((σ.1 58 18) + 8) ≤ 200 →
post (-3) σ)) : tp_E 127 0 [.ref 58, .long a1, .null, .null] [] σ post := tp_E_step (And.intro (fun c1 => Exists.intro _ (And.intro (tp_wk_rf _) (tp_E_step (Exists.intro [.ref 58, .long a1, .null, .int 56] (And.intro (And.intro (Or.inr rfl) (And.intro (Or.inr rfl) (And.intro (Or.inr rfl) (And.intro (Or.inr rfl) (trivial))))) (h.1 c1)))))) (fun c1 => And.intro rfl (h.2 c1)))
/-- X10_feed (J)I, 19 -/
theorem sg_127_19 {post : Int32 → tp_St → Prop} {σ : tp_St} (a1 : Int64) (a3 : Int32)  (h : (a3 < 0 →
post (σ.1 58 18) σ) ∧ (¬ a3 < 0 →
vp_in (σ.1 58 18) 200 ∧
tp_E 127 19 [.ref 58, .long a1, .null, .int (a3 + (-8))] [] (tp_set (tp_set σ 73 ((σ.1 58 18)).toNatClampNeg (((a1 >>> ((a3).toInt64 &&& 63))).toInt32 &&& 255)) 58 18 ((σ.1 58 18) + 1)) post)) : tp_E 127 19 [.ref 58, .long a1, .null, .int a3] [] σ post := tp_E_step (And.intro (fun c1 => Exists.intro _ (And.intro (tp_wk_rf _) (tp_E_step (And.intro rfl (h.1 c1))))) (fun c1 => And.intro (h.2 c1).1 (Exists.intro [.ref 58, .long a1, .null, .int (a3 + (-8))] (And.intro (And.intro (Or.inr rfl) (And.intro (Or.inr rfl) (And.intro (Or.inr rfl) (And.intro (Or.inr rfl) (trivial))))) (h.2 c1).2))))
/-- X10_end (I)I, 0 -/
theorem sg_128_0 {post : Int32 → tp_St → Prop} {σ : tp_St} (a1 : Int32)  (h : tp_E 101 0 [.long (a1).toInt64, .null, .long (Int64.ofNat 0), .null, .long ((σ.1 58 18)).toInt64, .null] [] σ (fun r1 σ1 =>
(r1 = 0 →
post (-1) σ1) ∧ (¬ r1 = 0 →
post (σ1.1 58 18) (tp_set σ1 58 18 a1)))) : tp_E 128 0 [.ref 58, .int a1, .null] [] σ post := tp_E_step (tp_Em h (fun r1 σ1 h1 => And.intro (fun c2 => And.intro rfl (h1.1 c2)) (fun c2 => Exists.intro _ (And.intro (tp_wk_rf _) (tp_E_step (And.intro rfl (h1.2 c2)))))))
/-- X10_byteAt (I)I, 0 -/
theorem sg_129_0 {post : Int32 → tp_St → Prop} {σ : tp_St} (a1 : Int32)  (h : ((σ.1 58 18) ≤ a1 →
post (-4) σ) ∧ (¬ (σ.1 58 18) ≤ a1 →
vp_in a1 200 ∧
post (σ.1 73 (a1).toNatClampNeg) σ)) : tp_E 129 0 [.ref 58, .int a1] [] σ post := tp_E_step (And.intro (fun c1 => Exists.intro _ (And.intro (tp_wk_rf _) (tp_E_step (Exists.intro _ (And.intro (tp_wk_rf _) (tp_E_step (And.intro rfl (h.1 c1)))))))) (fun c1 => And.intro (h.2 c1).1 (Exists.intro _ (And.intro (tp_wk_rf _) (tp_E_step (And.intro rfl (h.2 c1).2))))))
/-- X10_fails (II)V, 0 -/
theorem sg_130_0 {post : Int32 → tp_St → Prop} {σ : tp_St} (a1 : Int32) (a2 : Int32)  (h : ((σ.1 58 30) = 0 →
post 0 (tp_set (tp_set σ 58 30 a1) 58 31 a2)) ∧ (¬ (σ.1 58 30) = 0 →
post 0 σ)) : tp_E 130 0 [.ref 58, .int a1, .int a2] [] σ post := tp_E_step (And.intro (fun c1 => Exists.intro _ (And.intro (tp_wk_rf _) (tp_E_step ((h.1 c1))))) (fun c1 => Exists.intro _ (And.intro (tp_wk_rf _) (tp_E_step ((h.2 c1))))))
/-- X10_isName (IIIIIIII)Z, 0 -/
theorem sg_131_0 {post : Int32 → tp_St → Prop} {σ : tp_St} (a1 : Int32) (a2 : Int32) (a3 : Int32) (a4 : Int32) (a5 : Int32) (a6 : Int32) (a7 : Int32) (a8 : Int32)  (h : (((σ.1 58 27) - a1) = a8 →
tp_E 131 61 [.ref 58, .int a1, .null, .null, .null, .null, .null, .null, .int a8, .ref 76, .int 1, .int 0] [] (tp_set (tp_set (tp_set (tp_set (tp_set (tp_set σ 76 0 a2) 76 1 a3) 76 2 a4) 76 3 a5) 76 4 a6) 76 5 a7) post) ∧ (¬ ((σ.1 58 27) - a1) = a8 →
tp_E 131 61 [.ref 58, .int a1, .null, .null, .null, .null, .null, .null, .int a8, .ref 76, .int 0, .int 0] [] (tp_set (tp_set (tp_set (tp_set (tp_set (tp_set σ 76 0 a2) 76 1 a3) 76 2 a4) 76 3 a5) 76 4 a6) 76 5 a7) post)) : tp_E 131 0 [.ref 58, .int a1, .int a2, .int a3, .int a4, .int a5, .int a6, .int a7, .int a8, .null, .null, .null] [] σ post := tp_E_step (And.intro (show ¬ ((0 : Int32) < 0 ∨ 6 ≤ (0 : Int32).toNatClampNeg) from by decide) (And.intro (show ¬ ((1 : Int32) < 0 ∨ 6 ≤ (1 : Int32).toNatClampNeg) from by decide) (And.intro (show ¬ ((2 : Int32) < 0 ∨ 6 ≤ (2 : Int32).toNatClampNeg) from by decide) (And.intro (show ¬ ((3 : Int32) < 0 ∨ 6 ≤ (3 : Int32).toNatClampNeg) from by decide) (And.intro (show ¬ ((4 : Int32) < 0 ∨ 6 ≤ (4 : Int32).toNatClampNeg) from by decide) (And.intro (show ¬ ((5 : Int32) < 0 ∨ 6 ≤ (5 : Int32).toNatClampNeg) from by decide) (And.intro (fun c1 => Exists.intro _ (And.intro (tp_wk_rf _) (tp_E_step (Exists.intro [.ref 58, .int a1, .null, .null, .null, .null, .null, .null, .int a8, .ref 76, .int 1, .int 0] (And.intro (And.intro (Or.inr rfl) (And.intro (Or.inr rfl) (And.intro (Or.inl rfl) (And.intro (Or.inl rfl) (And.intro (Or.inl rfl) (And.intro (Or.inl rfl) (And.intro (Or.inl rfl) (And.intro (Or.inl rfl) (And.intro (Or.inr rfl) (And.intro (Or.inr rfl) (And.intro (Or.inr rfl) (And.intro (Or.inr rfl) (trivial))))))))))))) (h.1 c1)))))) (fun c1 => Exists.intro _ (And.intro (tp_wk_rf _) (tp_E_step (Exists.intro _ (And.intro (tp_wk_rf _) (tp_E_step (Exists.intro [.ref 58, .int a1, .null, .null, .null, .null, .null, .null, .int a8, .ref 76, .int 0, .int 0] (And.intro (And.intro (Or.inr rfl) (And.intro (Or.inr rfl) (And.intro (Or.inl rfl) (And.intro (Or.inl rfl) (And.intro (Or.inl rfl) (And.intro (Or.inl rfl) (And.intro (Or.inl rfl) (And.intro (Or.inl rfl) (And.intro (Or.inr rfl) (And.intro (Or.inr rfl) (And.intro (Or.inr rfl) (And.intro (Or.inr rfl) (trivial))))))))))))) (h.2 c1))))))))))))))))
/-- X10_isName (IIIIIIII)Z, 61 -/
theorem sg_131_61 {post : Int32 → tp_St → Prop} {σ : tp_St} (a1 : Int32) (a8 : Int32) (a10 : Int32) (a11 : Int32)  (h : (a8 ≤ a11 →
narrow .boolean (.int a10) = .int a10 ∧ post a10 σ) ∧ (¬ a8 ≤ a11 →
(a10 = 0 →
narrow .boolean (.int a10) = .int a10 ∧ post a10 σ) ∧ (¬ a10 = 0 →
tp_E 129 0 [.ref 58, .int (a1 + a11)] [] σ (fun r1 σ1 =>
vp_in a11 6 ∧
(r1 = (σ1.1 76 (a11).toNatClampNeg) →
tp_E 131 61 [.ref 58, .int a1, .null, .null, .null, .null, .null, .null, .int a8, .ref 76, .int 1, .int (a11 + 1)] [] σ1 post) ∧ (¬ r1 = (σ1.1 76 (a11).toNatClampNeg) →
tp_E 131 61 [.ref 58, .int a1, .null, .null, .null, .null, .null, .null, .int a8, .ref 76, .int 0, .int (a11 + 1)] [] σ1 post))))) : tp_E 131 61 [.ref 58, .int a1, .null, .null, .null, .null, .null, .null, .int a8, .ref 76, .int a10, .int a11] [] σ post := tp_E_step (And.intro (fun c2 => Exists.intro _ (And.intro (tp_wk_rf _) (tp_E_step ((h.1 c2))))) (fun c2 => And.intro (fun c3 => Exists.intro _ (And.intro (tp_wk_rf _) (tp_E_step (((h.2 c2).1 c3))))) (fun c3 => tp_Em ((h.2 c2).2 c3) (fun r1 σ1 h1 => And.intro h1.1 (And.intro (fun c4 => Exists.intro _ (And.intro (tp_wk_rf _) (tp_E_step (Exists.intro [.ref 58, .int a1, .null, .null, .null, .null, .null, .null, .int a8, .ref 76, .int 1, .int (a11 + 1)] (And.intro (And.intro (Or.inr rfl) (And.intro (Or.inr rfl) (And.intro (Or.inr rfl) (And.intro (Or.inr rfl) (And.intro (Or.inr rfl) (And.intro (Or.inr rfl) (And.intro (Or.inr rfl) (And.intro (Or.inr rfl) (And.intro (Or.inr rfl) (And.intro (Or.inr rfl) (And.intro (Or.inr rfl) (And.intro (Or.inr rfl) (trivial))))))))))))) (h1.2.1 c4)))))) (fun c4 => Exists.intro _ (And.intro (tp_wk_rf _) (tp_E_step (Exists.intro _ (And.intro (tp_wk_rf _) (tp_E_step (Exists.intro [.ref 58, .int a1, .null, .null, .null, .null, .null, .null, .int a8, .ref 76, .int 0, .int (a11 + 1)] (And.intro (And.intro (Or.inr rfl) (And.intro (Or.inr rfl) (And.intro (Or.inr rfl) (And.intro (Or.inr rfl) (And.intro (Or.inr rfl) (And.intro (Or.inr rfl) (And.intro (Or.inr rfl) (And.intro (Or.inr rfl) (And.intro (Or.inr rfl) (And.intro (Or.inr rfl) (And.intro (Or.inr rfl) (And.intro (Or.inr rfl) (trivial))))))))))))) (h1.2.2 c4))))))))))))))
/-- X10_next ()V, 0 -/
theorem sg_132_0 {post : Int32 → tp_St → Prop} {σ : tp_St}   (h : ((σ.1 58 30) ≤ 0 →
tp_E 132 8 [.ref 58, .null] [] σ post) ∧ (¬ (σ.1 58 30) ≤ 0 →
post 0 σ)) : tp_E 132 0 [.ref 58, .null] [] σ post := tp_E_step (And.intro (fun c1 => Exists.intro [.ref 58, .null] (And.intro (And.intro (Or.inr rfl) (And.intro (Or.inr rfl) (trivial))) (h.1 c1))) (fun c1 => (h.2 c1)))
/-- X10_next ()V, 8 -/
theorem sg_132_8 {post : Int32 → tp_St → Prop} {σ : tp_St}   (h : tp_E 129 0 [.ref 58, .int (σ.1 58 27)] [] σ (fun r1 σ1 =>
(r1 = 32 →
tp_E 132 8 [.ref 58, .null] [] (tp_set σ1 58 27 ((σ1.1 58 27) + 1)) post) ∧ (¬ r1 = 32 →
tp_E 129 0 [.ref 58, .int (σ1.1 58 27)] [] (tp_set σ1 58 26 (σ1.1 58 27)) (fun r2 σ2 =>
(r2 = (-4) →
post 0 (tp_set (tp_set σ2 58 29 r2) 58 28 0)) ∧ (¬ r2 = (-4) →
tp_E 101 0 [.long (r2).toInt64, .null, .long (Int64.ofNat 97), .null, .long (Int64.ofNat 122), .null] [] (tp_set σ2 58 29 r2) (fun r3 σ3 =>
(r3 = 0 →
tp_E 101 0 [.long (r2).toInt64, .null, .long (Int64.ofNat 48), .null, .long (Int64.ofNat 57), .null] [] σ3 (fun r4 σ4 =>
(r4 = 0 →
(r2 = 59 →
post 0 (tp_set (tp_set σ4 58 27 ((σ4.1 58 27) + 1)) 58 28 3)) ∧ (¬ r2 = 59 →
tp_E 130 0 [.ref 58, .int 1, .int (σ4.1 58 26)] [] σ4 (fun r5 σ5 =>
post 0 σ5))) ∧ (¬ r4 = 0 →
tp_E 132 250 [.ref 58, .null] [] (tp_set σ4 58 29 0) post))) ∧ (¬ r3 = 0 →
tp_E 132 84 [.ref 58, .null] [] σ3 post))))))) : tp_E 132 8 [.ref 58, .null] [] σ post := tp_E_step (tp_Em h (fun r1 σ1 h1 => And.intro (fun c2 => Exists.intro [.ref 58, .null] (And.intro (And.intro (Or.inr rfl) (And.intro (Or.inr rfl) (trivial))) (h1.1 c2))) (fun c2 => Exists.intro _ (And.intro (tp_wk_rf _) (tp_E_step (tp_Em (h1.2 c2) (fun r3 σ3 h3 => And.intro (fun c4 => Exists.intro _ (And.intro (tp_wk_rf _) (tp_E_step ((h3.1 c4))))) (fun c4 => Exists.intro _ (And.intro (tp_wk_rf _) (tp_E_step (tp_Em (h3.2 c4) (fun r5 σ5 h5 => And.intro (fun c6 => Exists.intro _ (And.intro (tp_wk_rf _) (tp_E_step (tp_Em (h5.1 c6) (fun r7 σ7 h7 => And.intro (fun c8 => Exists.intro _ (And.intro (tp_wk_rf _) (tp_E_step (And.intro (fun c9 => Exists.intro _ (And.intro (tp_wk_rf _) (tp_E_step (((h7.1 c8).1 c9))))) (fun c9 => Exists.intro _ (And.intro (tp_wk_rf _) (tp_E_step (tp_Em ((h7.1 c8).2 c9) (fun r10 σ10 h10 => Exists.intro _ (And.intro (tp_wk_rf _) (tp_E_step (h10)))))))))))) (fun c8 => Exists.intro [.ref 58, .null] (And.intro (And.intro (Or.inr rfl) (And.intro (Or.inl rfl) (trivial))) (h7.2 c8)))))))) (fun c6 => Exists.intro [.ref 58, .null] (And.intro (And.intro (Or.inr rfl) (And.intro (Or.inl rfl) (trivial))) (h5.2 c6)))))))))))))))
/-- X10_next ()V, 84 -/
theorem sg_132_84 {post : Int32 → tp_St → Prop} {σ : tp_St}   (h : tp_E 129 0 [.ref 58, .int (σ.1 58 27)] [] σ (fun r1 σ1 =>
tp_E 101 0 [.long (r1).toInt64, .null, .long (Int64.ofNat 97), .null, .long (Int64.ofNat 122), .null] [] σ1 (fun r2 σ2 =>
(r2 = 0 →
tp_E 131 0 [.ref 58, .int (σ2.1 58 26), .int 102, .int 97, .int 114, .int 101, .int 0, .int 0, .int 4, .null, .null, .null] [] (tp_set σ2 58 28 1) (fun r3 σ3 =>
(r3 = 0 →
tp_E 131 0 [.ref 58, .int (σ3.1 58 26), .int 119, .int 111, .int 114, .int 107, .int 0, .int 0, .int 4, .null, .null, .null] [] σ3 (fun r4 σ4 =>
(r4 = 0 →
tp_E 131 0 [.ref 58, .int (σ4.1 58 26), .int 99, .int 104, .int 97, .int 110, .int 103, .int 101, .int 6, .null, .null, .null] [] σ4 (fun r5 σ5 =>
(r5 = 0 →
tp_E 130 0 [.ref 58, .int 1, .int (σ5.1 58 26)] [] (tp_set σ5 58 29 (-4)) (fun r6 σ6 =>
post 0 σ6)) ∧ (¬ r5 = 0 →
post 0 (tp_set σ5 58 29 2)))) ∧ (¬ r4 = 0 →
post 0 (tp_set σ4 58 29 1)))) ∧ (¬ r3 = 0 →
post 0 (tp_set σ3 58 29 0)))) ∧ (¬ r2 = 0 →
tp_E 132 84 [.ref 58, .null] [] (tp_set σ2 58 27 ((σ2.1 58 27) + 1)) post)))) : tp_E 132 84 [.ref 58, .null] [] σ post := tp_E_step (tp_Em h (fun r1 σ1 h1 => tp_Em h1 (fun r2 σ2 h2 => And.intro (fun c3 => Exists.intro _ (And.intro (tp_wk_rf _) (tp_E_step (tp_Em (h2.1 c3) (fun r4 σ4 h4 => And.intro (fun c5 => Exists.intro _ (And.intro (tp_wk_rf _) (tp_E_step (tp_Em (h4.1 c5) (fun r6 σ6 h6 => And.intro (fun c7 => Exists.intro _ (And.intro (tp_wk_rf _) (tp_E_step (tp_Em (h6.1 c7) (fun r8 σ8 h8 => And.intro (fun c9 => Exists.intro _ (And.intro (tp_wk_rf _) (tp_E_step (Exists.intro _ (And.intro (tp_wk_rf _) (tp_E_step (And.intro (fun _ => tp_Em (h8.1 c9) (fun r10 σ10 h10 => Exists.intro _ (And.intro (tp_wk_rf _) (tp_E_step (h10))))) (fun hc => absurd (show ((-4) : Int32) = (-4) from by decide) hc)))))))) (fun c9 => Exists.intro _ (And.intro (tp_wk_rf _) (tp_E_step (And.intro (fun hc => absurd hc (show ¬ ((2 : Int32) = (-4)) from by decide)) (fun _ => Exists.intro _ (And.intro (tp_wk_rf _) (tp_E_step ((h8.2 c9)))))))))))))) (fun c7 => Exists.intro _ (And.intro (tp_wk_rf _) (tp_E_step (And.intro (fun hc => absurd hc (show ¬ ((1 : Int32) = (-4)) from by decide)) (fun _ => Exists.intro _ (And.intro (tp_wk_rf _) (tp_E_step ((h6.2 c7)))))))))))))) (fun c5 => Exists.intro _ (And.intro (tp_wk_rf _) (tp_E_step (And.intro (fun hc => absurd hc (show ¬ ((0 : Int32) = (-4)) from by decide)) (fun _ => Exists.intro _ (And.intro (tp_wk_rf _) (tp_E_step ((h4.2 c5)))))))))))))) (fun c3 => Exists.intro [.ref 58, .null] (And.intro (And.intro (Or.inr rfl) (And.intro (Or.inr rfl) (trivial))) (h2.2 c3))))))
/-- X10_next ()V, 250 -/
theorem sg_132_250 {post : Int32 → tp_St → Prop} {σ : tp_St}   (h : tp_E 129 0 [.ref 58, .int (σ.1 58 27)] [] σ (fun r1 σ1 =>
tp_E 101 0 [.long (r1).toInt64, .null, .long (Int64.ofNat 48), .null, .long (Int64.ofNat 57), .null] [] σ1 (fun r2 σ2 =>
(r2 = 0 →
(((σ2.1 58 27) - (σ2.1 58 26)) ≤ 4 →
post 0 (tp_set σ2 58 28 2)) ∧ (¬ ((σ2.1 58 27) - (σ2.1 58 26)) ≤ 4 →
tp_E 130 0 [.ref 58, .int 1, .int (σ2.1 58 26)] [] (tp_set σ2 58 28 2) (fun r4 σ4 =>
post 0 σ4))) ∧ (¬ r2 = 0 →
(4 ≤ ((σ2.1 58 27) - (σ2.1 58 26)) →
tp_E 132 250 [.ref 58, .null] [] (tp_set (tp_set σ2 58 29 (σ2.1 58 29)) 58 27 ((σ2.1 58 27) + 1)) post) ∧ (¬ 4 ≤ ((σ2.1 58 27) - (σ2.1 58 26)) →
tp_E 129 0 [.ref 58, .int (σ2.1 58 27)] [] σ2 (fun r3 σ3 =>
tp_E 132 250 [.ref 58, .null] [] (tp_set (tp_set σ3 58 29 (((10 * (σ2.1 58 29)) + r3) - 48)) 58 27 ((σ3.1 58 27) + 1)) post)))))) : tp_E 132 250 [.ref 58, .null] [] σ post := tp_E_step (tp_Em h (fun r1 σ1 h1 => tp_Em h1 (fun r2 σ2 h2 => And.intro (fun c4 => Exists.intro _ (And.intro (tp_wk_rf _) (tp_E_step (And.intro (fun c6 => Exists.intro _ (And.intro (tp_wk_rf _) (tp_E_step (((h2.1 c4).1 c6))))) (fun c6 => tp_Em ((h2.1 c4).2 c6) (fun r5 σ5 h5 => Exists.intro _ (And.intro (tp_wk_rf _) (tp_E_step (h5))))))))) (fun c4 => And.intro (fun c7 => Exists.intro _ (And.intro (tp_wk_rf _) (tp_E_step (Exists.intro _ (And.intro (tp_wk_rf _) (tp_E_step (Exists.intro [.ref 58, .null] (And.intro (And.intro (Or.inr rfl) (And.intro (Or.inr rfl) (trivial))) ((h2.2 c4).1 c7))))))))) (fun c7 => tp_Em ((h2.2 c4).2 c7) (fun r3 σ3 h3 => Exists.intro _ (And.intro (tp_wk_rf _) (tp_E_step (Exists.intro [.ref 58, .null] (And.intro (And.intro (Or.inr rfl) (And.intro (Or.inr rfl) (trivial))) h3))))))))))
/-- X10_number (II)I, 0 -/
theorem sg_133_0 {post : Int32 → tp_St → Prop} {σ : tp_St} (a1 : Int32) (a2 : Int32)  (h : ((σ.1 58 30) ≤ 0 →
((σ.1 58 28) = 2 →
tp_E 101 0 [.long ((σ.1 58 29)).toInt64, .null, .long (a1).toInt64, .null, .long (a2).toInt64, .null] [] σ (fun r2 σ2 =>
(r2 = 0 →
tp_E 130 0 [.ref 58, .int 3, .int (σ2.1 58 26)] [] σ2 (fun r3 σ3 =>
tp_E 132 0 [.ref 58, .null] [] σ3 (fun r4 σ4 =>
post (σ3.1 58 29) σ4))) ∧ (¬ r2 = 0 →
tp_E 132 0 [.ref 58, .null] [] σ2 (fun r5 σ5 =>
post (σ2.1 58 29) σ5)))) ∧ (¬ (σ.1 58 28) = 2 →
tp_E 130 0 [.ref 58, .int 2, .int (σ.1 58 26)] [] σ (fun r1 σ1 =>
tp_E 132 0 [.ref 58, .null] [] σ1 (fun r6 σ6 =>
post (σ1.1 58 29) σ6)))) ∧ (¬ (σ.1 58 30) ≤ 0 →
post 0 σ)) : tp_E 133 0 [.ref 58, .int a1, .int a2, .null] [] σ post := tp_E_step (And.intro (fun c1 => Exists.intro _ (And.intro (tp_wk_rf _) (tp_E_step (And.intro (fun c3 => Exists.intro _ (And.intro (tp_wk_rf _) (tp_E_step (tp_Em ((h.1 c1).1 c3) (fun r4 σ4 h4 => And.intro (fun c6 => tp_Em (h4.1 c6) (fun r5 σ5 h5 => Exists.intro _ (And.intro (tp_wk_rf _) (tp_E_step (tp_Em h5 (fun r7 σ7 h7 => And.intro rfl h7)))))) (fun c6 => Exists.intro _ (And.intro (tp_wk_rf _) (tp_E_step (tp_Em (h4.2 c6) (fun r8 σ8 h8 => And.intro rfl h8)))))))))) (fun c3 => tp_Em ((h.1 c1).2 c3) (fun r2 σ2 h2 => Exists.intro _ (And.intro (tp_wk_rf _) (tp_E_step (tp_Em h2 (fun r9 σ9 h9 => And.intro rfl h9)))))))))) (fun c1 => And.intro rfl (h.2 c1)))
/-- X10_above (III)I, 0 -/
theorem sg_134_0 {post : Int32 → tp_St → Prop} {σ : tp_St} (a1 : Int32) (a2 : Int32) (a3 : Int32)  (h : ((σ.1 58 30) = 0 →
((σ.1 58 28) = 2 →
tp_E 101 0 [.long ((σ.1 58 29)).toInt64, .null, .long (a1).toInt64, .null, .long (a2).toInt64, .null] [] σ (fun r1 σ1 =>
(r1 = 0 →
tp_E 133 0 [.ref 58, .int a1, .int a2, .null] [] σ1 (fun r3 σ3 =>
post r3 σ3)) ∧ (¬ r1 = 0 →
(a3 < (σ1.1 58 29) →
tp_E 133 0 [.ref 58, .int a1, .int a2, .null] [] σ1 (fun r4 σ4 =>
post r4 σ4)) ∧ (¬ a3 < (σ1.1 58 29) →
tp_E 130 0 [.ref 58, .int 4, .int (σ1.1 58 26)] [] σ1 (fun r2 σ2 =>
tp_E 133 0 [.ref 58, .int a1, .int a2, .null] [] σ2 (fun r5 σ5 =>
post r5 σ5)))))) ∧ (¬ (σ.1 58 28) = 2 →
tp_E 133 0 [.ref 58, .int a1, .int a2, .null] [] σ (fun r6 σ6 =>
post r6 σ6))) ∧ (¬ (σ.1 58 30) = 0 →
tp_E 133 0 [.ref 58, .int a1, .int a2, .null] [] σ (fun r7 σ7 =>
post r7 σ7))) : tp_E 134 0 [.ref 58, .int a1, .int a2, .int a3] [] σ post := tp_E_step (And.intro (fun c3 => And.intro (fun c4 => tp_Em ((h.1 c3).1 c4) (fun r1 σ1 h1 => And.intro (fun c5 => Exists.intro _ (And.intro (tp_wk_rf _) (tp_E_step (tp_Em (h1.1 c5) (fun r6 σ6 h6 => And.intro rfl h6))))) (fun c5 => And.intro (fun c7 => Exists.intro _ (And.intro (tp_wk_rf _) (tp_E_step (tp_Em ((h1.2 c5).1 c7) (fun r8 σ8 h8 => And.intro rfl h8))))) (fun c7 => tp_Em ((h1.2 c5).2 c7) (fun r2 σ2 h2 => Exists.intro _ (And.intro (tp_wk_rf _) (tp_E_step (tp_Em h2 (fun r9 σ9 h9 => And.intro rfl h9))))))))) (fun c4 => Exists.intro _ (And.intro (tp_wk_rf _) (tp_E_step (tp_Em ((h.1 c3).2 c4) (fun r10 σ10 h10 => And.intro rfl h10)))))) (fun c3 => Exists.intro _ (And.intro (tp_wk_rf _) (tp_E_step (tp_Em (h.2 c3) (fun r11 σ11 h11 => And.intro rfl h11))))))
/-- X10_law ()V, 0 -/
theorem sg_135_0 {post : Int32 → tp_St → Prop} {σ : tp_St}   (h : ((σ.1 58 28) = 1 →
((σ.1 58 29) = 0 →
((σ.1 58 33) = 9 →
tp_E 135 63 [.ref 58, .null, .null] [] σ post) ∧ (¬ (σ.1 58 33) = 9 →
tp_E 135 36 [.ref 58, .int (σ.1 58 29), .null] [] σ post)) ∧ (¬ (σ.1 58 29) = 0 →
tp_E 135 36 [.ref 58, .int (σ.1 58 29), .null] [] σ post)) ∧ (¬ (σ.1 58 28) = 1 →
tp_E 130 0 [.ref 58, .int 2, .int (σ.1 58 26)] [] σ (fun r1 σ1 =>
post 0 σ1))) : tp_E 135 0 [.ref 58, .null, .null] [] σ post := tp_E_step (And.intro (fun c2 => Exists.intro _ (And.intro (tp_wk_rf _) (tp_E_step (And.intro (fun c3 => And.intro (fun c4 => Exists.intro [.ref 58, .null, .null] (And.intro (And.intro (Or.inr rfl) (And.intro (Or.inl rfl) (And.intro (Or.inr rfl) (trivial)))) (((h.1 c2).1 c3).1 c4))) (fun c4 => Exists.intro [.ref 58, .int (σ.1 58 29), .null] (And.intro (And.intro (Or.inr rfl) (And.intro (Or.inr rfl) (And.intro (Or.inr rfl) (trivial)))) (((h.1 c2).1 c3).2 c4)))) (fun c3 => Exists.intro [.ref 58, .int (σ.1 58 29), .null] (And.intro (And.intro (Or.inr rfl) (And.intro (Or.inr rfl) (And.intro (Or.inr rfl) (trivial)))) ((h.1 c2).2 c3))))))) (fun c2 => tp_Em (h.2 c2) (fun r1 σ1 h1 => h1)))
/-- X10_law ()V, 36 -/
theorem sg_135_36 {post : Int32 → tp_St → Prop} {σ : tp_St} (a1 : Int32)  (h : (a1 = 1 →
((σ.1 58 34) = 4 →
tp_E 135 63 [.ref 58, .null, .null] [] σ post) ∧ (¬ (σ.1 58 34) = 4 →
tp_E 135 49 [.ref 58, .int a1, .null] [] σ post)) ∧ (¬ a1 = 1 →
tp_E 135 49 [.ref 58, .int a1, .null] [] σ post)) : tp_E 135 36 [.ref 58, .int a1, .null] [] σ post := tp_E_step (And.intro (fun c1 => And.intro (fun c2 => Exists.intro [.ref 58, .null, .null] (And.intro (And.intro (Or.inr rfl) (And.intro (Or.inl rfl) (And.intro (Or.inr rfl) (trivial)))) ((h.1 c1).1 c2))) (fun c2 => Exists.intro [.ref 58, .int a1, .null] (And.intro (And.intro (Or.inr rfl) (And.intro (Or.inr rfl) (And.intro (Or.inr rfl) (trivial)))) ((h.1 c1).2 c2)))) (fun c1 => Exists.intro [.ref 58, .int a1, .null] (And.intro (And.intro (Or.inr rfl) (And.intro (Or.inr rfl) (And.intro (Or.inr rfl) (trivial)))) (h.2 c1))))
/-- X10_law ()V, 49 -/
theorem sg_135_49 {post : Int32 → tp_St → Prop} {σ : tp_St} (a1 : Int32)  (h : (a1 = 2 →
((σ.1 58 35) = (-4) →
tp_E 135 73 [.ref 58, .int a1, .null] [] σ post) ∧ (¬ (σ.1 58 35) = (-4) →
tp_E 135 63 [.ref 58, .null, .null] [] σ post)) ∧ (¬ a1 = 2 →
tp_E 135 73 [.ref 58, .int a1, .null] [] σ post)) : tp_E 135 49 [.ref 58, .int a1, .null] [] σ post := tp_E_step (And.intro (fun c1 => And.intro (fun c2 => Exists.intro [.ref 58, .int a1, .null] (And.intro (And.intro (Or.inr rfl) (And.intro (Or.inr rfl) (And.intro (Or.inr rfl) (trivial)))) ((h.1 c1).1 c2))) (fun c2 => Exists.intro [.ref 58, .null, .null] (And.intro (And.intro (Or.inr rfl) (And.intro (Or.inl rfl) (And.intro (Or.inr rfl) (trivial)))) ((h.1 c1).2 c2)))) (fun c1 => Exists.intro [.ref 58, .int a1, .null] (And.intro (And.intro (Or.inr rfl) (And.intro (Or.inr rfl) (And.intro (Or.inr rfl) (trivial)))) (h.2 c1))))
/-- X10_law ()V, 63 -/
theorem sg_135_63 {post : Int32 → tp_St → Prop} {σ : tp_St}   (h : tp_E 130 0 [.ref 58, .int 5, .int (σ.1 58 26)] [] σ (fun r1 σ1 =>
post 0 σ1)) : tp_E 135 63 [.ref 58, .null, .null] [] σ post := tp_E_step (tp_Em h (fun r1 σ1 h1 => h1))
/-- X10_law ()V, 73 -/
theorem sg_135_73 {post : Int32 → tp_St → Prop} {σ : tp_St} (a1 : Int32)  (h : tp_E 132 0 [.ref 58, .null] [] σ (fun r1 σ1 =>
(a1 = 0 →
((σ1.1 58 33) = 0 →
tp_E 135 116 [.ref 58, .null, .int (2 * (σ1.1 58 33))] [.int 0, .int 9, .int 1, .ref 58, .int (2 * (σ1.1 58 33)), .ref 77] σ1 post) ∧ (¬ (σ1.1 58 33) = 0 →
vp_in ((2 * (σ1.1 58 33)) - 2) 18 ∧
tp_E 135 116 [.ref 58, .null, .int (2 * (σ1.1 58 33))] [.int (σ1.1 77 (((2 * (σ1.1 58 33)) - 2)).toNatClampNeg), .int 9, .int 1, .ref 58, .int (2 * (σ1.1 58 33)), .ref 77] σ1 post)) ∧ (¬ a1 = 0 →
(a1 = 1 →
tp_E 133 0 [.ref 58, .int 0, .int 23, .null] [] σ1 (fun r2 σ2 =>
vp_in (3 * (σ1.1 58 34)) 12 ∧
vp_in (3 * (σ1.1 58 34)) 12 ∧
tp_E 133 0 [.ref 58, .int (((tp_set σ2 78 ((3 * (σ1.1 58 34))).toNatClampNeg r2).1 78 ((3 * (σ1.1 58 34))).toNatClampNeg) + 1), .int 24, .null] [] (tp_set σ2 78 ((3 * (σ1.1 58 34))).toNatClampNeg r2) (fun r3 σ3 =>
vp_in ((3 * (σ1.1 58 34)) + 1) 12 ∧
tp_E 133 0 [.ref 58, .int 0, .int 100, .null] [] (tp_set σ3 78 (((3 * (σ1.1 58 34)) + 1)).toNatClampNeg r3) (fun r4 σ4 =>
vp_in ((3 * (σ1.1 58 34)) + 2) 12 ∧
tp_E 135 254 [.ref 58, .null, .null] [] (tp_set (tp_set σ4 78 (((3 * (σ1.1 58 34)) + 2)).toNatClampNeg r4) 58 34 ((σ4.1 58 34) + 1)) post)))) ∧ (¬ a1 = 1 →
tp_E 133 0 [.ref 58, .int 0, .int 120, .null] [] σ1 (fun r5 σ5 =>
tp_E 135 254 [.ref 58, .null, .null] [] (tp_set σ5 58 35 r5) post))))) : tp_E 135 73 [.ref 58, .int a1, .null] [] σ post := tp_E_step (tp_Em h (fun r1 σ1 h1 => And.intro (fun c2 => And.intro (fun c3 => Exists.intro [.ref 58, .null, .int (2 * (σ1.1 58 33))] (And.intro (And.intro (Or.inr rfl) (And.intro (Or.inl rfl) (And.intro (Or.inr rfl) (trivial)))) ((h1.1 c2).1 c3))) (fun c3 => Exists.intro _ (And.intro (tp_wk_rf _) (tp_E_step (And.intro ((h1.1 c2).2 c3).1 (Exists.intro [.ref 58, .null, .int (2 * (σ1.1 58 33))] (And.intro (And.intro (Or.inr rfl) (And.intro (Or.inl rfl) (And.intro (Or.inr rfl) (trivial)))) ((h1.1 c2).2 c3).2))))))) (fun c2 => Exists.intro _ (And.intro (tp_wk_rf _) (tp_E_step (And.intro (fun c7 => tp_Em ((h1.2 c2).1 c7) (fun r4 σ4 h4 => And.intro h4.1 (And.intro h4.2.1 (tp_Em h4.2.2 (fun r5 σ5 h5 => And.intro h5.1 (tp_Em h5.2 (fun r6 σ6 h6 => And.intro h6.1 (Exists.intro [.ref 58, .null, .null] (And.intro (And.intro (Or.inr rfl) (And.intro (Or.inl rfl) (And.intro (Or.inl rfl) (trivial)))) h6.2))))))))) (fun c7 => Exists.intro _ (And.intro (tp_wk_rf _) (tp_E_step (tp_Em ((h1.2 c2).2 c7) (fun r8 σ8 h8 => Exists.intro [.ref 58, .null, .null] (And.intro (And.intro (Or.inr rfl) (And.intro (Or.inl rfl) (And.intro (Or.inr rfl) (trivial)))) h8))))))))))))
/-- X10_law ()V, 116 -/
theorem sg_135_116 {post : Int32 → tp_St → Prop} {σ : tp_St} (a2 : Int32) (s1 : Int32) (s3 : Int32) (s4 : Int32) (s5 : Int32)  (h : tp_E 134 0 [.ref 58, .int s3, .int s4, .int s5] [] σ (fun r1 σ1 =>
vp_in s1 18 ∧
((σ1.1 58 33) = 0 →
tp_E 135 151 [.ref 58, .null, .null] [.int 0, .int 999, .int 1, .ref 58, .int (a2 + 1), .ref 77] (tp_set σ1 77 (s1).toNatClampNeg r1) post) ∧ (¬ (σ1.1 58 33) = 0 →
vp_in (a2 - 1) 18 ∧
tp_E 135 151 [.ref 58, .null, .null] [.int ((tp_set σ1 77 (s1).toNatClampNeg r1).1 77 ((a2 - 1)).toNatClampNeg), .int 999, .int 1, .ref 58, .int (a2 + 1), .ref 77] (tp_set σ1 77 (s1).toNatClampNeg r1) post))) : tp_E 135 116 [.ref 58, .null, .int a2] [.int s5, .int s4, .int s3, .ref 58, .int s1, .ref 77] σ post := tp_E_step (tp_Em h (fun r1 σ1 h1 => And.intro h1.1 (And.intro (fun c2 => Exists.intro [.ref 58, .null, .null] (And.intro (And.intro (Or.inr rfl) (And.intro (Or.inr rfl) (And.intro (Or.inl rfl) (trivial)))) (h1.2.1 c2))) (fun c2 => Exists.intro _ (And.intro (tp_wk_rf _) (tp_E_step (And.intro (h1.2.2 c2).1 (Exists.intro [.ref 58, .null, .null] (And.intro (And.intro (Or.inr rfl) (And.intro (Or.inr rfl) (And.intro (Or.inl rfl) (trivial)))) (h1.2.2 c2).2)))))))))
/-- X10_law ()V, 151 -/
theorem sg_135_151 {post : Int32 → tp_St → Prop} {σ : tp_St} (s1 : Int32) (s3 : Int32) (s4 : Int32) (s5 : Int32)  (h : tp_E 134 0 [.ref 58, .int s3, .int s4, .int s5] [] σ (fun r1 σ1 =>
vp_in s1 18 ∧
tp_E 135 254 [.ref 58, .null, .null] [] (tp_set (tp_set σ1 77 (s1).toNatClampNeg r1) 58 33 ((σ1.1 58 33) + 1)) post)) : tp_E 135 151 [.ref 58, .null, .null] [.int s5, .int s4, .int s3, .ref 58, .int s1, .ref 77] σ post := tp_E_step (tp_Em h (fun r1 σ1 h1 => And.intro h1.1 (Exists.intro [.ref 58, .null, .null] (And.intro (And.intro (Or.inr rfl) (And.intro (Or.inr rfl) (And.intro (Or.inr rfl) (trivial)))) h1.2))))
/-- X10_law ()V, 254 -/
theorem sg_135_254 {post : Int32 → tp_St → Prop} {σ : tp_St}   (h : ((σ.1 58 30) = 0 →
((σ.1 58 28) = 3 →
tp_E 135 278 [.ref 58, .null, .null] [] σ post) ∧ (¬ (σ.1 58 28) = 3 →
tp_E 130 0 [.ref 58, .int 2, .int (σ.1 58 26)] [] σ (fun r1 σ1 =>
tp_E 135 278 [.ref 58, .null, .null] [] σ1 post))) ∧ (¬ (σ.1 58 30) = 0 →
tp_E 135 278 [.ref 58, .null, .null] [] σ post)) : tp_E 135 254 [.ref 58, .null, .null] [] σ post := tp_E_step (And.intro (fun c2 => And.intro (fun c3 => Exists.intro [.ref 58, .null, .null] (And.intro (And.intro (Or.inr rfl) (And.intro (Or.inr rfl) (And.intro (Or.inr rfl) (trivial)))) ((h.1 c2).1 c3))) (fun c3 => tp_Em ((h.1 c2).2 c3) (fun r1 σ1 h1 => Exists.intro [.ref 58, .null, .null] (And.intro (And.intro (Or.inr rfl) (And.intro (Or.inr rfl) (And.intro (Or.inr rfl) (trivial)))) h1)))) (fun c2 => Exists.intro [.ref 58, .null, .null] (And.intro (And.intro (Or.inr rfl) (And.intro (Or.inr rfl) (And.intro (Or.inr rfl) (trivial)))) (h.2 c2))))
/-- X10_law ()V, 278 -/
theorem sg_135_278 {post : Int32 → tp_St → Prop} {σ : tp_St}   (h : tp_E 132 0 [.ref 58, .null] [] σ (fun r1 σ1 =>
post 0 σ1)) : tp_E 135 278 [.ref 58, .null, .null] [] σ post := tp_E_step (tp_Em h (fun r1 σ1 h1 => h1))
/-- X10_laws ()I, 0 -/
theorem sg_136_0 {post : Int32 → tp_St → Prop} {σ : tp_St}   (h : tp_E 132 0 [.ref 58, .null] [] (tp_set (tp_set (tp_set (tp_set (tp_set σ 58 30 0) 58 27 0) 58 33 0) 58 34 0) 58 35 (-4)) (fun r1 σ1 =>
tp_E 136 30 [.ref 58, .null] [] σ1 post)) : tp_E 136 0 [.ref 58, .null] [] σ post := tp_E_step (tp_Em h (fun r1 σ1 h1 => Exists.intro [.ref 58, .null] (And.intro (And.intro (Or.inr rfl) (And.intro (Or.inr rfl) (trivial))) h1)))
/-- X10_laws ()I, 30 -/
theorem sg_136_30 {post : Int32 → tp_St → Prop} {σ : tp_St}   (h : ((σ.1 58 30) = 0 →
((σ.1 58 28) = 0 →
((σ.1 58 30) ≤ 0 →
tp_E 136 105 [.ref 58, .int 0] [] (tp_set (tp_set (tp_set (tp_set (tp_set σ 58 18 0) 58 19 (σ.1 58 30)) 58 20 (σ.1 58 33)) 58 22 (σ.1 58 34)) 58 24 (σ.1 58 35)) post) ∧ (¬ (σ.1 58 30) ≤ 0 →
post ((-10) - (σ.1 58 31)) (tp_set (tp_set σ 58 18 0) 58 19 (σ.1 58 30)))) ∧ (¬ (σ.1 58 28) = 0 →
tp_E 135 0 [.ref 58, .null, .null] [] σ (fun r1 σ1 =>
tp_E 136 30 [.ref 58, .null] [] σ1 post))) ∧ (¬ (σ.1 58 30) = 0 →
((σ.1 58 30) ≤ 0 →
tp_E 136 105 [.ref 58, .int 0] [] (tp_set (tp_set (tp_set (tp_set (tp_set σ 58 18 0) 58 19 (σ.1 58 30)) 58 20 (σ.1 58 33)) 58 22 (σ.1 58 34)) 58 24 (σ.1 58 35)) post) ∧ (¬ (σ.1 58 30) ≤ 0 →
post ((-10) - (σ.1 58 31)) (tp_set (tp_set σ 58 18 0) 58 19 (σ.1 58 30))))) : tp_E 136 30 [.ref 58, .null] [] σ post := tp_E_step (And.intro (fun c2 => And.intro (fun c3 => Exists.intro _ (And.intro (tp_wk_rf _) (tp_E_step (And.intro (fun c4 => Exists.intro _ (And.intro (tp_wk_rf _) (tp_E_step (Exists.intro [.ref 58, .int 0] (And.intro (And.intro (Or.inr rfl) (And.intro (Or.inr rfl) (trivial))) (((h.1 c2).1 c3).1 c4)))))) (fun c4 => And.intro rfl (((h.1 c2).1 c3).2 c4)))))) (fun c3 => tp_Em ((h.1 c2).2 c3) (fun r1 σ1 h1 => Exists.intro [.ref 58, .null] (And.intro (And.intro (Or.inr rfl) (And.intro (Or.inr rfl) (trivial))) h1)))) (fun c2 => Exists.intro _ (And.intro (tp_wk_rf _) (tp_E_step (And.intro (fun c5 => Exists.intro _ (And.intro (tp_wk_rf _) (tp_E_step (Exists.intro [.ref 58, .int 0] (And.intro (And.intro (Or.inr rfl) (And.intro (Or.inr rfl) (trivial))) ((h.2 c2).1 c5)))))) (fun c5 => And.intro rfl ((h.2 c2).2 c5)))))))
/-- X10_laws ()I, 105 -/
theorem sg_136_105 {post : Int32 → tp_St → Prop} {σ : tp_St} (a1 : Int32)  (h : (18 ≤ a1 →
tp_E 136 131 [.ref 58, .int 0] [] σ post) ∧ (¬ 18 ≤ a1 →
vp_in a1 18 ∧
vp_in a1 18 ∧
tp_E 136 105 [.ref 58, .int (a1 + 1)] [] (tp_set σ 74 (a1).toNatClampNeg (σ.1 77 (a1).toNatClampNeg)) post)) : tp_E 136 105 [.ref 58, .int a1] [] σ post := tp_E_step (And.intro (fun c1 => Exists.intro _ (And.intro (tp_wk_rf _) (tp_E_step (Exists.intro [.ref 58, .int 0] (And.intro (And.intro (Or.inr rfl) (And.intro (Or.inr rfl) (trivial))) (h.1 c1)))))) (fun c1 => And.intro (h.2 c1).1 (And.intro (h.2 c1).2.1 (Exists.intro [.ref 58, .int (a1 + 1)] (And.intro (And.intro (Or.inr rfl) (And.intro (Or.inr rfl) (trivial))) (h.2 c1).2.2)))))
/-- X10_laws ()I, 131 -/
theorem sg_136_131 {post : Int32 → tp_St → Prop} {σ : tp_St} (a1 : Int32)  (h : (12 ≤ a1 →
((σ.1 58 24) = (-4) →
post (((σ.1 58 20) + (σ.1 58 22)) + 0) (tp_set σ 58 25 (((σ.1 58 20) + (σ.1 58 22)) + 0))) ∧ (¬ (σ.1 58 24) = (-4) →
post (((σ.1 58 20) + (σ.1 58 22)) + 1) (tp_set σ 58 25 (((σ.1 58 20) + (σ.1 58 22)) + 1)))) ∧ (¬ 12 ≤ a1 →
vp_in a1 12 ∧
vp_in a1 12 ∧
tp_E 136 131 [.ref 58, .int (a1 + 1)] [] (tp_set σ 75 (a1).toNatClampNeg (σ.1 78 (a1).toNatClampNeg)) post)) : tp_E 136 131 [.ref 58, .int a1] [] σ post := tp_E_step (And.intro (fun c1 => Exists.intro _ (And.intro (tp_wk_rf _) (tp_E_step (And.intro (fun c2 => Exists.intro _ (And.intro (tp_wk_rf _) (tp_E_step (And.intro rfl ((h.1 c1).1 c2))))) (fun c2 => Exists.intro _ (And.intro (tp_wk_rf _) (tp_E_step (Exists.intro _ (And.intro (tp_wk_rf _) (tp_E_step (And.intro rfl ((h.1 c1).2 c2)))))))))))) (fun c1 => And.intro (h.2 c1).1 (And.intro (h.2 c1).2.1 (Exists.intro [.ref 58, .int (a1 + 1)] (And.intro (And.intro (Or.inr rfl) (And.intro (Or.inr rfl) (trivial))) (h.2 c1).2.2)))))
/-- X10_fault ()I, 0 -/
theorem sg_137_0 {post : Int32 → tp_St → Prop} {σ : tp_St}   (h : post (σ.1 58 19) σ) : tp_E 137 0 [.ref 58] [] σ post := tp_E_step (And.intro rfl h)
/-- X10_fare (II)I, 0 -/
theorem sg_138_0 {post : Int32 → tp_St → Prop} {σ : tp_St} (a1 : Int32) (a2 : Int32)  (h : tp_E 101 0 [.long (a1).toInt64, .null, .long (Int64.ofNat 1), .null, .long (Int64.ofNat 9), .null] [] σ (fun r1 σ1 =>
(r1 = 0 →
post (-1) σ1) ∧ (¬ r1 = 0 →
tp_E 101 0 [.long (a2).toInt64, .null, .long (Int64.ofNat 0), .null, .long (Int64.ofNat 1439), .null] [] σ1 (fun r2 σ2 =>
(r2 = 0 →
post (-1) σ2) ∧ (¬ r2 = 0 →
tp_E 138 37 [.ref 58, .int a1, .int a2, .int (-4), .int ((σ2.1 58 20) - 1)] [] σ2 post))))) : tp_E 138 0 [.ref 58, .int a1, .int a2, .null, .null] [] σ post := tp_E_step (tp_Em h (fun r1 σ1 h1 => And.intro (fun c3 => Exists.intro _ (And.intro (tp_wk_rf _) (tp_E_step (And.intro rfl (h1.1 c3))))) (fun c3 => tp_Em (h1.2 c3) (fun r2 σ2 h2 => And.intro (fun c4 => Exists.intro _ (And.intro (tp_wk_rf _) (tp_E_step (And.intro rfl (h2.1 c4))))) (fun c4 => Exists.intro _ (And.intro (tp_wk_rf _) (tp_E_step (Exists.intro [.ref 58, .int a1, .int a2, .int (-4), .int ((σ2.1 58 20) - 1)] (And.intro (And.intro (Or.inr rfl) (And.intro (Or.inr rfl) (And.intro (Or.inr rfl) (And.intro (Or.inr rfl) (And.intro (Or.inr rfl) (trivial)))))) (h2.2 c4))))))))))
/-- X10_fare (II)I, 37 -/
theorem sg_138_37 {post : Int32 → tp_St → Prop} {σ : tp_St} (a1 : Int32) (a2 : Int32) (a3 : Int32) (a4 : Int32)  (h : (a4 < 0 →
tp_E 138 80 [.ref 58, .null, .int a2, .int a3, .int 0] [] σ post) ∧ (¬ a4 < 0 →
vp_in (2 * a4) 18 ∧
((σ.1 74 ((2 * a4)).toNatClampNeg) < a1 →
tp_E 138 37 [.ref 58, .int a1, .int a2, .int a3, .int (a4 + (-1))] [] σ post) ∧ (¬ (σ.1 74 ((2 * a4)).toNatClampNeg) < a1 →
vp_in ((2 * a4) + 1) 18 ∧
tp_E 138 37 [.ref 58, .int a1, .int a2, .int (σ.1 74 (((2 * a4) + 1)).toNatClampNeg), .int (a4 + (-1))] [] σ post))) : tp_E 138 37 [.ref 58, .int a1, .int a2, .int a3, .int a4] [] σ post := tp_E_step (And.intro (fun c1 => Exists.intro _ (And.intro (tp_wk_rf _) (tp_E_step (Exists.intro [.ref 58, .null, .int a2, .int a3, .int 0] (And.intro (And.intro (Or.inr rfl) (And.intro (Or.inl rfl) (And.intro (Or.inr rfl) (And.intro (Or.inr rfl) (And.intro (Or.inr rfl) (trivial)))))) (h.1 c1)))))) (fun c1 => And.intro (h.2 c1).1 (And.intro (fun c2 => Exists.intro _ (And.intro (tp_wk_rf _) (tp_E_step (Exists.intro _ (And.intro (tp_wk_rf _) (tp_E_step (Exists.intro [.ref 58, .int a1, .int a2, .int a3, .int (a4 + (-1))] (And.intro (And.intro (Or.inr rfl) (And.intro (Or.inr rfl) (And.intro (Or.inr rfl) (And.intro (Or.inr rfl) (And.intro (Or.inr rfl) (trivial)))))) ((h.2 c1).2.1 c2))))))))) (fun c2 => And.intro ((h.2 c1).2.2 c2).1 (Exists.intro _ (And.intro (tp_wk_rf _) (tp_E_step (Exists.intro [.ref 58, .int a1, .int a2, .int (σ.1 74 (((2 * a4) + 1)).toNatClampNeg), .int (a4 + (-1))] (And.intro (And.intro (Or.inr rfl) (And.intro (Or.inr rfl) (And.intro (Or.inr rfl) (And.intro (Or.inr rfl) (And.intro (Or.inr rfl) (trivial)))))) ((h.2 c1).2.2 c2).2)))))))))
/-- X10_fare (II)I, 80 -/
theorem sg_138_80 {post : Int32 → tp_St → Prop} {σ : tp_St} (a2 : Int32) (a3 : Int32) (a4 : Int32)  (h : ((σ.1 58 22) ≤ a4 →
post a3 σ) ∧ (¬ (σ.1 58 22) ≤ a4 →
(a3 = (-4) →
post a3 σ) ∧ (¬ a3 = (-4) →
vp_in (3 * a4) 12 ∧
vp_in ((3 * a4) + 1) 12 ∧
tp_E 101 0 [.long ((a2 / 60)).toInt64, .null, .long ((σ.1 75 ((3 * a4)).toNatClampNeg)).toInt64, .null, .long (((σ.1 75 (((3 * a4) + 1)).toNatClampNeg) - 1)).toInt64, .null] [] σ (fun r1 σ1 =>
(r1 = 0 →
tp_E 138 80 [.ref 58, .null, .int a2, .int a3, .int (a4 + 1)] [] σ1 post) ∧ (¬ r1 = 0 →
vp_in ((3 * a4) + 2) 12 ∧
post (((a3 * (σ1.1 75 (((3 * a4) + 2)).toNatClampNeg)) + 99) / 100) σ1))))) : tp_E 138 80 [.ref 58, .null, .int a2, .int a3, .int a4] [] σ post := tp_E_step (And.intro (fun c2 => Exists.intro _ (And.intro (tp_wk_rf _) (tp_E_step (And.intro rfl (h.1 c2))))) (fun c2 => And.intro (fun c3 => Exists.intro _ (And.intro (tp_wk_rf _) (tp_E_step (And.intro rfl ((h.2 c2).1 c3))))) (fun c3 => And.intro (by decide) (And.intro ((h.2 c2).2 c3).1 (And.intro ((h.2 c2).2 c3).2.1 (tp_Em ((h.2 c2).2 c3).2.2 (fun r1 σ1 h1 => And.intro (fun c4 => Exists.intro _ (And.intro (tp_wk_rf _) (tp_E_step (Exists.intro [.ref 58, .null, .int a2, .int a3, .int (a4 + 1)] (And.intro (And.intro (Or.inr rfl) (And.intro (Or.inr rfl) (And.intro (Or.inr rfl) (And.intro (Or.inr rfl) (And.intro (Or.inr rfl) (trivial)))))) (h1.1 c4)))))) (fun c4 => And.intro (h1.2 c4).1 (And.intro (by decide) (And.intro rfl (h1.2 c4).2))))))))))
/-- X10_change (II)I, 0 -/
theorem sg_139_0 {post : Int32 → tp_St → Prop} {σ : tp_St} (a1 : Int32) (a2 : Int32)  (h : tp_E 101 0 [.long (a1).toInt64, .null, .long (Int64.ofNat 0), .null, .long (Int64.ofNat 1439), .null] [] σ (fun r1 σ1 =>
(r1 = 0 →
post (-1) σ1) ∧ (¬ r1 = 0 →
tp_E 101 0 [.long (a2).toInt64, .null, .long (a1).toInt64, .null, .long (Int64.ofNat 1439), .null] [] σ1 (fun r2 σ2 =>
(r2 = 0 →
post (-1) σ2) ∧ (¬ r2 = 0 →
((σ2.1 58 24) = (-4) →
post 0 σ2) ∧ (¬ (σ2.1 58 24) = (-4) →
((σ2.1 58 24) < (a2 - a1) →
post 0 σ2) ∧ (¬ (σ2.1 58 24) < (a2 - a1) →
post 1 σ2))))))) : tp_E 139 0 [.ref 58, .int a1, .int a2] [] σ post := tp_E_step (tp_Em h (fun r1 σ1 h1 => And.intro (fun c3 => Exists.intro _ (And.intro (tp_wk_rf _) (tp_E_step (And.intro rfl (h1.1 c3))))) (fun c3 => tp_Em (h1.2 c3) (fun r2 σ2 h2 => And.intro (fun c4 => Exists.intro _ (And.intro (tp_wk_rf _) (tp_E_step (And.intro rfl (h2.1 c4))))) (fun c4 => Exists.intro _ (And.intro (tp_wk_rf _) (tp_E_step (And.intro (fun c5 => Exists.intro _ (And.intro (tp_wk_rf _) (tp_E_step (Exists.intro _ (And.intro (tp_wk_rf _) (tp_E_step (And.intro rfl ((h2.2 c4).1 c5)))))))) (fun c5 => And.intro (fun c6 => Exists.intro _ (And.intro (tp_wk_rf _) (tp_E_step (Exists.intro _ (And.intro (tp_wk_rf _) (tp_E_step (And.intro rfl (((h2.2 c4).2 c5).1 c6)))))))) (fun c6 => Exists.intro _ (And.intro (tp_wk_rf _) (tp_E_step (And.intro rfl (((h2.2 c4).2 c5).2 c6))))))))))))))
/-- X10_duty (II)I, 0 -/
theorem sg_140_0 {post : Int32 → tp_St → Prop} {σ : tp_St} (a1 : Int32) (a2 : Int32)  (h : tp_E 101 0 [.long (a1).toInt64, .null, .long (Int64.ofNat 0), .null, .long (Int64.ofNat 1440), .null] [] σ (fun r1 σ1 =>
(r1 = 0 →
post (-1) σ1) ∧ (¬ r1 = 0 →
tp_E 101 0 [.long (a2).toInt64, .null, .long ((a1).toInt64 + (Int64.ofNat 1)), .null, .long (Int64.ofNat 1440), .null] [] σ1 (fun r2 σ2 =>
(r2 = 0 →
post (-1) σ2) ∧ (¬ r2 = 0 →
((σ2.1 58 38) = 10 →
post (-3) σ2) ∧ (¬ (σ2.1 58 38) = 10 →
vp_in (σ2.1 58 38) 10 ∧
vp_in (σ2.1 58 38) 10 ∧
post (((σ2.1 58 38) + 1) - 1) (tp_set (tp_set (tp_set σ2 79 ((σ2.1 58 38)).toNatClampNeg a1) 80 ((σ2.1 58 38)).toNatClampNeg a2) 58 38 ((σ2.1 58 38) + 1)))))))) : tp_E 140 0 [.ref 58, .int a1, .int a2] [] σ post := tp_E_step (tp_Em h (fun r1 σ1 h1 => And.intro (fun c3 => Exists.intro _ (And.intro (tp_wk_rf _) (tp_E_step (And.intro rfl (h1.1 c3))))) (fun c3 => tp_Em (h1.2 c3) (fun r2 σ2 h2 => And.intro (fun c4 => Exists.intro _ (And.intro (tp_wk_rf _) (tp_E_step (And.intro rfl (h2.1 c4))))) (fun c4 => Exists.intro _ (And.intro (tp_wk_rf _) (tp_E_step (And.intro (fun c5 => And.intro rfl ((h2.2 c4).1 c5)) (fun c5 => Exists.intro _ (And.intro (tp_wk_rf _) (tp_E_step (And.intro ((h2.2 c4).2 c5).1 (And.intro ((h2.2 c4).2 c5).2.1 (And.intro rfl ((h2.2 c4).2 c5).2.2))))))))))))))
/-- X10_rest (I)I, 0 -/
theorem sg_141_0 {post : Int32 → tp_St → Prop} {σ : tp_St} (a1 : Int32)  (h : tp_E 101 0 [.long (a1).toInt64, .null, .long (Int64.ofNat 0), .null, .long (Int64.ofNat 600), .null] [] σ (fun r1 σ1 =>
(r1 = 0 →
post (-1) σ1) ∧ (¬ r1 = 0 →
post (σ1.1 58 41) (tp_set σ1 58 41 a1)))) : tp_E 141 0 [.ref 58, .int a1, .null] [] σ post := tp_E_step (tp_Em h (fun r1 σ1 h1 => And.intro (fun c2 => And.intro rfl (h1.1 c2)) (fun c2 => Exists.intro _ (And.intro (tp_wk_rf _) (tp_E_step (And.intro rfl (h1.2 c2)))))))
/-- X10_layCrews ()V, 0 -/
theorem sg_142_0 {post : Int32 → tp_St → Prop} {σ : tp_St}   (h : tp_E 142 7 [.ref 58, .int 0, .null, .null] [] (tp_set σ 58 43 0) post) : tp_E 142 0 [.ref 58, .null, .null, .null] [] σ post := tp_E_step (Exists.intro [.ref 58, .int 0, .null, .null] (And.intro (And.intro (Or.inr rfl) (And.intro (Or.inr rfl) (And.intro (Or.inr rfl) (And.intro (Or.inr rfl) (trivial))))) h))
/-- X10_layCrews ()V, 7 -/
theorem sg_142_7 {post : Int32 → tp_St → Prop} {σ : tp_St} (a1 : Int32)  (h : ((σ.1 58 38) ≤ a1 →
tp_E 142 31 [.ref 58, .int 0, .null, .null] [] σ post) ∧ (¬ (σ.1 58 38) ≤ a1 →
vp_in a1 10 ∧
tp_E 142 7 [.ref 58, .int (a1 + 1), .null, .null] [] (tp_set σ 81 (a1).toNatClampNeg (-4)) post)) : tp_E 142 7 [.ref 58, .int a1, .null, .null] [] σ post := tp_E_step (And.intro (fun c1 => Exists.intro _ (And.intro (tp_wk_rf _) (tp_E_step (Exists.intro [.ref 58, .int 0, .null, .null] (And.intro (And.intro (Or.inr rfl) (And.intro (Or.inr rfl) (And.intro (Or.inr rfl) (And.intro (Or.inr rfl) (trivial))))) (h.1 c1)))))) (fun c1 => And.intro (h.2 c1).1 (Exists.intro [.ref 58, .int (a1 + 1), .null, .null] (And.intro (And.intro (Or.inr rfl) (And.intro (Or.inr rfl) (And.intro (Or.inr rfl) (And.intro (Or.inr rfl) (trivial))))) (h.2 c1).2))))
/-- X10_layCrews ()V, 31 -/
theorem sg_142_31 {post : Int32 → tp_St → Prop} {σ : tp_St} (a1 : Int32)  (h : ((σ.1 58 38) ≤ a1 →
post 0 σ) ∧ (¬ (σ.1 58 38) ≤ a1 →
tp_E 142 44 [.ref 58, .int a1, .int (-4), .int 0] [] σ post)) : tp_E 142 31 [.ref 58, .int a1, .null, .null] [] σ post := tp_E_step (And.intro (fun c1 => Exists.intro _ (And.intro (tp_wk_rf _) (tp_E_step ((h.1 c1))))) (fun c1 => Exists.intro [.ref 58, .int a1, .int (-4), .int 0] (And.intro (And.intro (Or.inr rfl) (And.intro (Or.inr rfl) (And.intro (Or.inr rfl) (And.intro (Or.inr rfl) (trivial))))) (h.2 c1))))
/-- X10_layCrews ()V, 44 -/
theorem sg_142_44 {post : Int32 → tp_St → Prop} {σ : tp_St} (a1 : Int32) (a2 : Int32) (a3 : Int32)  (h : ((σ.1 58 38) ≤ a3 →
tp_E 142 98 [.ref 58, .int a1, .int a2, .int 0] [] σ post) ∧ (¬ (σ.1 58 38) ≤ a3 →
vp_in a3 10 ∧
((σ.1 81 (a3).toNatClampNeg) = (-4) →
(a2 = (-4) →
tp_E 142 44 [.ref 58, .int a1, .int a3, .int (a3 + 1)] [] σ post) ∧ (¬ a2 = (-4) →
vp_in a3 10 ∧
vp_in a2 10 ∧
((σ.1 79 (a2).toNatClampNeg) ≤ (σ.1 79 (a3).toNatClampNeg) →
tp_E 142 44 [.ref 58, .int a1, .int a2, .int (a3 + 1)] [] σ post) ∧ (¬ (σ.1 79 (a2).toNatClampNeg) ≤ (σ.1 79 (a3).toNatClampNeg) →
tp_E 142 44 [.ref 58, .int a1, .int a3, .int (a3 + 1)] [] σ post))) ∧ (¬ (σ.1 81 (a3).toNatClampNeg) = (-4) →
tp_E 142 44 [.ref 58, .int a1, .int a2, .int (a3 + 1)] [] σ post))) : tp_E 142 44 [.ref 58, .int a1, .int a2, .int a3] [] σ post := tp_E_step (And.intro (fun c1 => Exists.intro _ (And.intro (tp_wk_rf _) (tp_E_step (Exists.intro [.ref 58, .int a1, .int a2, .int 0] (And.intro (And.intro (Or.inr rfl) (And.intro (Or.inr rfl) (And.intro (Or.inr rfl) (And.intro (Or.inr rfl) (trivial))))) (h.1 c1)))))) (fun c1 => And.intro (h.2 c1).1 (And.intro (fun c2 => And.intro (fun c3 => Exists.intro _ (And.intro (tp_wk_rf _) (tp_E_step (Exists.intro _ (And.intro (tp_wk_rf _) (tp_E_step (Exists.intro [.ref 58, .int a1, .int a3, .int (a3 + 1)] (And.intro (And.intro (Or.inr rfl) (And.intro (Or.inr rfl) (And.intro (Or.inr rfl) (And.intro (Or.inr rfl) (trivial))))) (((h.2 c1).2.1 c2).1 c3))))))))) (fun c3 => And.intro (((h.2 c1).2.1 c2).2 c3).1 (And.intro (((h.2 c1).2.1 c2).2 c3).2.1 (And.intro (fun c4 => Exists.intro _ (And.intro (tp_wk_rf _) (tp_E_step (Exists.intro _ (And.intro (tp_wk_rf _) (tp_E_step (Exists.intro [.ref 58, .int a1, .int a2, .int (a3 + 1)] (And.intro (And.intro (Or.inr rfl) (And.intro (Or.inr rfl) (And.intro (Or.inr rfl) (And.intro (Or.inr rfl) (trivial))))) ((((h.2 c1).2.1 c2).2 c3).2.2.1 c4))))))))) (fun c4 => Exists.intro _ (And.intro (tp_wk_rf _) (tp_E_step (Exists.intro _ (And.intro (tp_wk_rf _) (tp_E_step (Exists.intro [.ref 58, .int a1, .int a3, .int (a3 + 1)] (And.intro (And.intro (Or.inr rfl) (And.intro (Or.inr rfl) (And.intro (Or.inr rfl) (And.intro (Or.inr rfl) (trivial))))) ((((h.2 c1).2.1 c2).2 c3).2.2.2 c4))))))))))))) (fun c2 => Exists.intro _ (And.intro (tp_wk_rf _) (tp_E_step (Exists.intro _ (And.intro (tp_wk_rf _) (tp_E_step (Exists.intro [.ref 58, .int a1, .int a2, .int (a3 + 1)] (And.intro (And.intro (Or.inr rfl) (And.intro (Or.inr rfl) (And.intro (Or.inr rfl) (And.intro (Or.inr rfl) (trivial))))) ((h.2 c1).2.2 c2))))))))))))
/-- X10_layCrews ()V, 98 -/
theorem sg_142_98 {post : Int32 → tp_St → Prop} {σ : tp_St} (a1 : Int32) (a2 : Int32) (a3 : Int32)  (h : tp_E 143 0 [.ref 58, .int a3, .int a2, .null, .null] [] σ (fun r1 σ1 =>
(r1 = 0 →
tp_E 142 98 [.ref 58, .int a1, .int a2, .int (a3 + 1)] [] σ1 post) ∧ (¬ r1 = 0 →
vp_in a2 10 ∧
((a3 + 1) ≤ (σ1.1 58 43) →
tp_E 142 31 [.ref 58, .int (a1 + 1), .null, .null] [] (tp_set (tp_set σ1 81 (a2).toNatClampNeg a3) 58 43 (σ1.1 58 43)) post) ∧ (¬ (a3 + 1) ≤ (σ1.1 58 43) →
tp_E 142 31 [.ref 58, .int (a1 + 1), .null, .null] [] (tp_set (tp_set σ1 81 (a2).toNatClampNeg a3) 58 43 (a3 + 1)) post)))) : tp_E 142 98 [.ref 58, .int a1, .int a2, .int a3] [] σ post := tp_E_step (tp_Em h (fun r1 σ1 h1 => And.intro (fun c2 => Exists.intro [.ref 58, .int a1, .int a2, .int (a3 + 1)] (And.intro (And.intro (Or.inr rfl) (And.intro (Or.inr rfl) (And.intro (Or.inr rfl) (And.intro (Or.inr rfl) (trivial))))) (h1.1 c2))) (fun c2 => Exists.intro _ (And.intro (tp_wk_rf _) (tp_E_step (And.intro (h1.2 c2).1 (And.intro (fun c3 => Exists.intro _ (And.intro (tp_wk_rf _) (tp_E_step (Exists.intro _ (And.intro (tp_wk_rf _) (tp_E_step (Exists.intro [.ref 58, .int (a1 + 1), .null, .null] (And.intro (And.intro (Or.inr rfl) (And.intro (Or.inr rfl) (And.intro (Or.inl rfl) (And.intro (Or.inl rfl) (trivial))))) ((h1.2 c2).2.1 c3))))))))) (fun c3 => Exists.intro _ (And.intro (tp_wk_rf _) (tp_E_step (Exists.intro [.ref 58, .int (a1 + 1), .null, .null] (And.intro (And.intro (Or.inr rfl) (And.intro (Or.inr rfl) (And.intro (Or.inl rfl) (And.intro (Or.inl rfl) (trivial))))) ((h1.2 c2).2.2 c3)))))))))))))
/-- X10_mayHave (II)Z, 0 -/
theorem sg_143_0 {post : Int32 → tp_St → Prop} {σ : tp_St} (a1 : Int32) (a2 : Int32)  (h : tp_E 143 5 [.ref 58, .int a1, .int a2, .int 1, .int 0] [] σ post) : tp_E 143 0 [.ref 58, .int a1, .int a2, .null, .null] [] σ post := tp_E_step (Exists.intro [.ref 58, .int a1, .int a2, .int 1, .int 0] (And.intro (And.intro (Or.inr rfl) (And.intro (Or.inr rfl) (And.intro (Or.inr rfl) (And.intro (Or.inr rfl) (And.intro (Or.inr rfl) (trivial)))))) h))
/-- X10_mayHave (II)Z, 5 -/
theorem sg_143_5 {post : Int32 → tp_St → Prop} {σ : tp_St} (a1 : Int32) (a2 : Int32) (a3 : Int32) (a4 : Int32)  (h : ((σ.1 58 38) ≤ a4 →
narrow .boolean (.int a3) = .int a3 ∧ post a3 σ) ∧ (¬ (σ.1 58 38) ≤ a4 →
(a3 = 0 →
tp_E 143 5 [.ref 58, .int a1, .int a2, .int 0, .int (a4 + 1)] [] σ post) ∧ (¬ a3 = 0 →
vp_in a4 10 ∧
((σ.1 81 (a4).toNatClampNeg) = a1 →
vp_in a4 10 ∧
vp_in a2 10 ∧
((σ.1 79 (a2).toNatClampNeg) < ((σ.1 80 (a4).toNatClampNeg) + (σ.1 58 41)) →
tp_E 143 5 [.ref 58, .int a1, .int a2, .int 0, .int (a4 + 1)] [] σ post) ∧ (¬ (σ.1 79 (a2).toNatClampNeg) < ((σ.1 80 (a4).toNatClampNeg) + (σ.1 58 41)) →
tp_E 143 5 [.ref 58, .int a1, .int a2, .int 1, .int (a4 + 1)] [] σ post)) ∧ (¬ (σ.1 81 (a4).toNatClampNeg) = a1 →
tp_E 143 5 [.ref 58, .int a1, .int a2, .int 1, .int (a4 + 1)] [] σ post)))) : tp_E 143 5 [.ref 58, .int a1, .int a2, .int a3, .int a4] [] σ post := tp_E_step (And.intro (fun c1 => Exists.intro _ (And.intro (tp_wk_rf _) (tp_E_step ((h.1 c1))))) (fun c1 => And.intro (fun c2 => Exists.intro _ (And.intro (tp_wk_rf _) (tp_E_step (Exists.intro _ (And.intro (tp_wk_rf _) (tp_E_step (Exists.intro [.ref 58, .int a1, .int a2, .int 0, .int (a4 + 1)] (And.intro (And.intro (Or.inr rfl) (And.intro (Or.inr rfl) (And.intro (Or.inr rfl) (And.intro (Or.inr rfl) (And.intro (Or.inr rfl) (trivial)))))) ((h.2 c1).1 c2))))))))) (fun c2 => And.intro ((h.2 c1).2 c2).1 (And.intro (fun c3 => And.intro (((h.2 c1).2 c2).2.1 c3).1 (And.intro (((h.2 c1).2 c2).2.1 c3).2.1 (And.intro (fun c4 => Exists.intro _ (And.intro (tp_wk_rf _) (tp_E_step (Exists.intro _ (And.intro (tp_wk_rf _) (tp_E_step (Exists.intro [.ref 58, .int a1, .int a2, .int 0, .int (a4 + 1)] (And.intro (And.intro (Or.inr rfl) (And.intro (Or.inr rfl) (And.intro (Or.inr rfl) (And.intro (Or.inr rfl) (And.intro (Or.inr rfl) (trivial)))))) ((((h.2 c1).2 c2).2.1 c3).2.2.1 c4))))))))) (fun c4 => Exists.intro _ (And.intro (tp_wk_rf _) (tp_E_step (Exists.intro _ (And.intro (tp_wk_rf _) (tp_E_step (Exists.intro [.ref 58, .int a1, .int a2, .int 1, .int (a4 + 1)] (And.intro (And.intro (Or.inr rfl) (And.intro (Or.inr rfl) (And.intro (Or.inr rfl) (And.intro (Or.inr rfl) (And.intro (Or.inr rfl) (trivial)))))) ((((h.2 c1).2 c2).2.1 c3).2.2.2 c4)))))))))))) (fun c3 => Exists.intro _ (And.intro (tp_wk_rf _) (tp_E_step (Exists.intro _ (And.intro (tp_wk_rf _) (tp_E_step (Exists.intro [.ref 58, .int a1, .int a2, .int 1, .int (a4 + 1)] (And.intro (And.intro (Or.inr rfl) (And.intro (Or.inr rfl) (And.intro (Or.inr rfl) (And.intro (Or.inr rfl) (And.intro (Or.inr rfl) (trivial)))))) (((h.2 c1).2 c2).2.2 c3)))))))))))))
/-- X10_crew (I)I, 0 -/
theorem sg_144_0 {post : Int32 → tp_St → Prop} {σ : tp_St} (a1 : Int32)  (h : tp_E 101 0 [.long (a1).toInt64, .null, .long (Int64.ofNat 0), .null, .long (((σ.1 58 38) - 1)).toInt64, .null] [] σ (fun r1 σ1 =>
(r1 = 0 →
post (-1) σ1) ∧ (¬ r1 = 0 →
tp_E 142 0 [.ref 58, .null, .null, .null] [] σ1 (fun r2 σ2 =>
vp_in a1 10 ∧
post (σ2.1 81 (a1).toNatClampNeg) σ2)))) : tp_E 144 0 [.ref 58, .int a1] [] σ post := tp_E_step (tp_Em h (fun r1 σ1 h1 => And.intro (fun c2 => And.intro rfl (h1.1 c2)) (fun c2 => Exists.intro _ (And.intro (tp_wk_rf _) (tp_E_step (tp_Em (h1.2 c2) (fun r3 σ3 h3 => And.intro h3.1 (And.intro rfl h3.2))))))))
/-- X10_minutesOf (I)I, 0 -/
theorem sg_145_0 {post : Int32 → tp_St → Prop} {σ : tp_St} (a1 : Int32)  (h : tp_E 145 4 [.ref 58, .int a1, .int 0, .int 0] [] σ post) : tp_E 145 0 [.ref 58, .int a1, .null, .null] [] σ post := tp_E_step (Exists.intro [.ref 58, .int a1, .int 0, .int 0] (And.intro (And.intro (Or.inr rfl) (And.intro (Or.inr rfl) (And.intro (Or.inr rfl) (And.intro (Or.inr rfl) (trivial))))) h))
/-- X10_minutesOf (I)I, 4 -/
theorem sg_145_4 {post : Int32 → tp_St → Prop} {σ : tp_St} (a1 : Int32) (a2 : Int32) (a3 : Int32)  (h : ((σ.1 58 38) ≤ a3 →
post a2 σ) ∧ (¬ (σ.1 58 38) ≤ a3 →
vp_in a3 10 ∧
((σ.1 81 (a3).toNatClampNeg) = a1 →
vp_in a3 10 ∧
vp_in a3 10 ∧
tp_E 145 4 [.ref 58, .int a1, .int (a2 + ((σ.1 80 (a3).toNatClampNeg) - (σ.1 79 (a3).toNatClampNeg))), .int (a3 + 1)] [] σ post) ∧ (¬ (σ.1 81 (a3).toNatClampNeg) = a1 →
tp_E 145 4 [.ref 58, .int a1, .int (a2 + 0), .int (a3 + 1)] [] σ post))) : tp_E 145 4 [.ref 58, .int a1, .int a2, .int a3] [] σ post := tp_E_step (And.intro (fun c1 => Exists.intro _ (And.intro (tp_wk_rf _) (tp_E_step (And.intro rfl (h.1 c1))))) (fun c1 => And.intro (h.2 c1).1 (And.intro (fun c2 => And.intro ((h.2 c1).2.1 c2).1 (And.intro ((h.2 c1).2.1 c2).2.1 (Exists.intro _ (And.intro (tp_wk_rf _) (tp_E_step (Exists.intro [.ref 58, .int a1, .int (a2 + ((σ.1 80 (a3).toNatClampNeg) - (σ.1 79 (a3).toNatClampNeg))), .int (a3 + 1)] (And.intro (And.intro (Or.inr rfl) (And.intro (Or.inr rfl) (And.intro (Or.inr rfl) (And.intro (Or.inr rfl) (trivial))))) ((h.2 c1).2.1 c2).2.2))))))) (fun c2 => Exists.intro _ (And.intro (tp_wk_rf _) (tp_E_step (Exists.intro _ (And.intro (tp_wk_rf _) (tp_E_step (Exists.intro [.ref 58, .int a1, .int (a2 + 0), .int (a3 + 1)] (And.intro (And.intro (Or.inr rfl) (And.intro (Or.inr rfl) (And.intro (Or.inr rfl) (And.intro (Or.inr rfl) (trivial))))) ((h.2 c1).2.2 c2))))))))))))
/-- X10_crews (I)I, 0 -/
theorem sg_146_0 {post : Int32 → tp_St → Prop} {σ : tp_St} (a1 : Int32)  (h : tp_E 101 0 [.long (a1).toInt64, .null, .long (Int64.ofNat 0), .null, .long (Int64.ofNat 2), .null] [] σ (fun r1 σ1 =>
(r1 = 0 →
post (-1) σ1) ∧ (¬ r1 = 0 →
tp_E 142 0 [.ref 58, .null, .null, .null] [] σ1 (fun r2 σ2 =>
tp_E 146 28 [.ref 58, .int a1, .int (-4), .int ((σ2.1 58 43) - 1)] [] σ2 post)))) : tp_E 146 0 [.ref 58, .int a1, .null, .null] [] σ post := tp_E_step (tp_Em h (fun r1 σ1 h1 => And.intro (fun c2 => And.intro rfl (h1.1 c2)) (fun c2 => Exists.intro _ (And.intro (tp_wk_rf _) (tp_E_step (tp_Em (h1.2 c2) (fun r3 σ3 h3 => Exists.intro [.ref 58, .int a1, .int (-4), .int ((σ3.1 58 43) - 1)] (And.intro (And.intro (Or.inr rfl) (And.intro (Or.inr rfl) (And.intro (Or.inr rfl) (And.intro (Or.inr rfl) (trivial))))) h3))))))))
/-- X10_crews (I)I, 28 -/
theorem sg_146_28 {post : Int32 → tp_St → Prop} {σ : tp_St} (a1 : Int32) (a2 : Int32) (a3 : Int32)  (h : (a3 < 0 →
(a1 = 0 →
post (σ.1 58 43) σ) ∧ (¬ a1 = 0 →
(a1 = 2 →
post a2 σ) ∧ (¬ a1 = 2 →
(a2 = (-4) →
post 0 σ) ∧ (¬ a2 = (-4) →
tp_E 145 0 [.ref 58, .int a2, .null, .null] [] σ (fun r3 σ3 =>
post r3 σ3))))) ∧ (¬ a3 < 0 →
(a2 = (-4) →
tp_E 146 28 [.ref 58, .int a1, .int a3, .int (a3 + (-1))] [] σ post) ∧ (¬ a2 = (-4) →
tp_E 145 0 [.ref 58, .int a3, .null, .null] [] σ (fun r1 σ1 =>
tp_E 145 0 [.ref 58, .int a2, .null, .null] [] σ1 (fun r2 σ2 =>
(r1 < r2 →
tp_E 146 28 [.ref 58, .int a1, .int a2, .int (a3 + (-1))] [] σ2 post) ∧ (¬ r1 < r2 →
tp_E 146 28 [.ref 58, .int a1, .int a3, .int (a3 + (-1))] [] σ2 post)))))) : tp_E 146 28 [.ref 58, .int a1, .int a2, .int a3] [] σ post := tp_E_step (And.intro (fun c3 => Exists.intro _ (And.intro (tp_wk_rf _) (tp_E_step (And.intro (fun c4 => Exists.intro _ (And.intro (tp_wk_rf _) (tp_E_step (And.intro rfl ((h.1 c3).1 c4))))) (fun c4 => Exists.intro _ (And.intro (tp_wk_rf _) (tp_E_step (And.intro (fun c5 => Exists.intro _ (And.intro (tp_wk_rf _) (tp_E_step (And.intro rfl (((h.1 c3).2 c4).1 c5))))) (fun c5 => Exists.intro _ (And.intro (tp_wk_rf _) (tp_E_step (And.intro (fun c6 => Exists.intro _ (And.intro (tp_wk_rf _) (tp_E_step (And.intro rfl ((((h.1 c3).2 c4).2 c5).1 c6))))) (fun c6 => Exists.intro _ (And.intro (tp_wk_rf _) (tp_E_step (tp_Em ((((h.1 c3).2 c4).2 c5).2 c6) (fun r7 σ7 h7 => Exists.intro _ (And.intro (tp_wk_rf _) (tp_E_step (And.intro rfl h7)))))))))))))))))))) (fun c3 => And.intro (fun c8 => Exists.intro _ (And.intro (tp_wk_rf _) (tp_E_step (Exists.intro _ (And.intro (tp_wk_rf _) (tp_E_step (Exists.intro [.ref 58, .int a1, .int a3, .int (a3 + (-1))] (And.intro (And.intro (Or.inr rfl) (And.intro (Or.inr rfl) (And.intro (Or.inr rfl) (And.intro (Or.inr rfl) (trivial))))) ((h.2 c3).1 c8))))))))) (fun c8 => tp_Em ((h.2 c3).2 c8) (fun r1 σ1 h1 => tp_Em h1 (fun r2 σ2 h2 => And.intro (fun c9 => Exists.intro _ (And.intro (tp_wk_rf _) (tp_E_step (Exists.intro _ (And.intro (tp_wk_rf _) (tp_E_step (Exists.intro [.ref 58, .int a1, .int a2, .int (a3 + (-1))] (And.intro (And.intro (Or.inr rfl) (And.intro (Or.inr rfl) (And.intro (Or.inr rfl) (And.intro (Or.inr rfl) (trivial))))) (h2.1 c9))))))))) (fun c9 => Exists.intro _ (And.intro (tp_wk_rf _) (tp_E_step (Exists.intro _ (And.intro (tp_wk_rf _) (tp_E_step (Exists.intro [.ref 58, .int a1, .int a3, .int (a3 + (-1))] (And.intro (And.intro (Or.inr rfl) (And.intro (Or.inr rfl) (And.intro (Or.inr rfl) (And.intro (Or.inr rfl) (trivial))))) (h2.2 c9))))))))))))))
/-- X10_ill (I)I, 0 -/
theorem sg_147_0 {post : Int32 → tp_St → Prop} {σ : tp_St} (a1 : Int32)  (h : tp_E 142 0 [.ref 58, .null, .null, .null] [] σ (fun r1 σ1 =>
tp_E 101 0 [.long (a1).toInt64, .null, .long (Int64.ofNat 0), .null, .long (((σ1.1 58 43) - 1)).toInt64, .null] [] σ1 (fun r2 σ2 =>
(r2 = 0 →
post (-1) σ2) ∧ (¬ r2 = 0 →
tp_E 147 26 [.ref 58, .int a1, .int 0, .int 0, .null, .null, .null, .null] [] σ2 post)))) : tp_E 147 0 [.ref 58, .int a1, .null, .null, .null, .null, .null, .null] [] σ post := tp_E_step (tp_Em h (fun r1 σ1 h1 => tp_Em h1 (fun r2 σ2 h2 => And.intro (fun c3 => And.intro rfl (h2.1 c3)) (fun c3 => Exists.intro _ (And.intro (tp_wk_rf _) (tp_E_step (Exists.intro [.ref 58, .int a1, .int 0, .int 0, .null, .null, .null, .null] (And.intro (And.intro (Or.inr rfl) (And.intro (Or.inr rfl) (And.intro (Or.inr rfl) (And.intro (Or.inr rfl) (And.intro (Or.inr rfl) (And.intro (Or.inr rfl) (And.intro (Or.inr rfl) (And.intro (Or.inr rfl) (trivial))))))))) (h2.2 c3)))))))))
/-- X10_ill (I)I, 26 -/
theorem sg_147_26 {post : Int32 → tp_St → Prop} {σ : tp_St} (a1 : Int32) (a2 : Int32) (a3 : Int32)  (h : ((σ.1 58 38) ≤ a3 →
post a2 σ) ∧ (¬ (σ.1 58 38) ≤ a3 →
vp_in a3 10 ∧
((σ.1 81 (a3).toNatClampNeg) = a1 →
tp_E 147 54 [.ref 58, .int a1, .int a2, .int a3, .int 0, .int 0, .null, .null] [] σ post) ∧ (¬ (σ.1 81 (a3).toNatClampNeg) = a1 →
tp_E 147 54 [.ref 58, .int a1, .int a2, .int a3, .int 1, .int 0, .null, .null] [] σ post))) : tp_E 147 26 [.ref 58, .int a1, .int a2, .int a3, .null, .null, .null, .null] [] σ post := tp_E_step (And.intro (fun c1 => Exists.intro _ (And.intro (tp_wk_rf _) (tp_E_step (And.intro rfl (h.1 c1))))) (fun c1 => And.intro (h.2 c1).1 (And.intro (fun c2 => Exists.intro _ (And.intro (tp_wk_rf _) (tp_E_step (Exists.intro _ (And.intro (tp_wk_rf _) (tp_E_step (Exists.intro [.ref 58, .int a1, .int a2, .int a3, .int 0, .int 0, .null, .null] (And.intro (And.intro (Or.inr rfl) (And.intro (Or.inr rfl) (And.intro (Or.inr rfl) (And.intro (Or.inr rfl) (And.intro (Or.inr rfl) (And.intro (Or.inr rfl) (And.intro (Or.inr rfl) (And.intro (Or.inr rfl) (trivial))))))))) ((h.2 c1).2.1 c2))))))))) (fun c2 => Exists.intro _ (And.intro (tp_wk_rf _) (tp_E_step (Exists.intro [.ref 58, .int a1, .int a2, .int a3, .int 1, .int 0, .null, .null] (And.intro (And.intro (Or.inr rfl) (And.intro (Or.inr rfl) (And.intro (Or.inr rfl) (And.intro (Or.inr rfl) (And.intro (Or.inr rfl) (And.intro (Or.inr rfl) (And.intro (Or.inr rfl) (And.intro (Or.inr rfl) (trivial))))))))) ((h.2 c1).2.2 c2)))))))))
/-- X10_ill (I)I, 54 -/
theorem sg_147_54 {post : Int32 → tp_St → Prop} {σ : tp_St} (a1 : Int32) (a2 : Int32) (a3 : Int32) (a4 : Int32) (a5 : Int32)  (h : ((σ.1 58 43) ≤ a5 →
(a4 = 0 →
tp_E 147 26 [.ref 58, .int a1, .int (a2 + 1), .int (a3 + 1), .null, .null, .null, .null] [] σ post) ∧ (¬ a4 = 0 →
tp_E 147 26 [.ref 58, .int a1, .int (a2 + 0), .int (a3 + 1), .null, .null, .null, .null] [] σ post)) ∧ (¬ (σ.1 58 43) ≤ a5 →
(a4 = 0 →
(a5 = a1 →
tp_E 147 84 [.ref 58, .int a1, .int a2, .int a3, .null, .int a5, .int 0, .int 0] [] σ post) ∧ (¬ a5 = a1 →
tp_E 147 84 [.ref 58, .int a1, .int a2, .int a3, .null, .int a5, .int 1, .int 0] [] σ post)) ∧ (¬ a4 = 0 →
(a4 = 0 →
tp_E 147 26 [.ref 58, .int a1, .int (a2 + 1), .int (a3 + 1), .null, .null, .null, .null] [] σ post) ∧ (¬ a4 = 0 →
tp_E 147 26 [.ref 58, .int a1, .int (a2 + 0), .int (a3 + 1), .null, .null, .null, .null] [] σ post)))) : tp_E 147 54 [.ref 58, .int a1, .int a2, .int a3, .int a4, .int a5, .null, .null] [] σ post := tp_E_step (And.intro (fun c1 => Exists.intro _ (And.intro (tp_wk_rf _) (tp_E_step (And.intro (fun c2 => Exists.intro _ (And.intro (tp_wk_rf _) (tp_E_step (Exists.intro _ (And.intro (tp_wk_rf _) (tp_E_step (Exists.intro [.ref 58, .int a1, .int (a2 + 1), .int (a3 + 1), .null, .null, .null, .null] (And.intro (And.intro (Or.inr rfl) (And.intro (Or.inr rfl) (And.intro (Or.inr rfl) (And.intro (Or.inr rfl) (And.intro (Or.inl rfl) (And.intro (Or.inl rfl) (And.intro (Or.inr rfl) (And.intro (Or.inr rfl) (trivial))))))))) ((h.1 c1).1 c2))))))))) (fun c2 => Exists.intro _ (And.intro (tp_wk_rf _) (tp_E_step (Exists.intro [.ref 58, .int a1, .int (a2 + 0), .int (a3 + 1), .null, .null, .null, .null] (And.intro (And.intro (Or.inr rfl) (And.intro (Or.inr rfl) (And.intro (Or.inr rfl) (And.intro (Or.inr rfl) (And.intro (Or.inl rfl) (And.intro (Or.inl rfl) (And.intro (Or.inr rfl) (And.intro (Or.inr rfl) (trivial))))))))) ((h.1 c1).2 c2)))))))))) (fun c1 => And.intro (fun c3 => And.intro (fun c4 => Exists.intro _ (And.intro (tp_wk_rf _) (tp_E_step (Exists.intro _ (And.intro (tp_wk_rf _) (tp_E_step (Exists.intro [.ref 58, .int a1, .int a2, .int a3, .null, .int a5, .int 0, .int 0] (And.intro (And.intro (Or.inr rfl) (And.intro (Or.inr rfl) (And.intro (Or.inr rfl) (And.intro (Or.inr rfl) (And.intro (Or.inl rfl) (And.intro (Or.inr rfl) (And.intro (Or.inr rfl) (And.intro (Or.inr rfl) (trivial))))))))) (((h.2 c1).1 c3).1 c4))))))))) (fun c4 => Exists.intro _ (And.intro (tp_wk_rf _) (tp_E_step (Exists.intro [.ref 58, .int a1, .int a2, .int a3, .null, .int a5, .int 1, .int 0] (And.intro (And.intro (Or.inr rfl) (And.intro (Or.inr rfl) (And.intro (Or.inr rfl) (And.intro (Or.inr rfl) (And.intro (Or.inl rfl) (And.intro (Or.inr rfl) (And.intro (Or.inr rfl) (And.intro (Or.inr rfl) (trivial))))))))) (((h.2 c1).1 c3).2 c4))))))) (fun c3 => Exists.intro _ (And.intro (tp_wk_rf _) (tp_E_step (And.intro (fun c5 => Exists.intro _ (And.intro (tp_wk_rf _) (tp_E_step (Exists.intro _ (And.intro (tp_wk_rf _) (tp_E_step (Exists.intro [.ref 58, .int a1, .int (a2 + 1), .int (a3 + 1), .null, .null, .null, .null] (And.intro (And.intro (Or.inr rfl) (And.intro (Or.inr rfl) (And.intro (Or.inr rfl) (And.intro (Or.inr rfl) (And.intro (Or.inl rfl) (And.intro (Or.inl rfl) (And.intro (Or.inr rfl) (And.intro (Or.inr rfl) (trivial))))))))) (((h.2 c1).2 c3).1 c5))))))))) (fun c5 => Exists.intro _ (And.intro (tp_wk_rf _) (tp_E_step (Exists.intro [.ref 58, .int a1, .int (a2 + 0), .int (a3 + 1), .null, .null, .null, .null] (And.intro (And.intro (Or.inr rfl) (And.intro (Or.inr rfl) (And.intro (Or.inr rfl) (And.intro (Or.inr rfl) (And.intro (Or.inl rfl) (And.intro (Or.inl rfl) (And.intro (Or.inr rfl) (And.intro (Or.inr rfl) (trivial))))))))) (((h.2 c1).2 c3).2 c5))))))))))))
/-- X10_ill (I)I, 84 -/
theorem sg_147_84 {post : Int32 → tp_St → Prop} {σ : tp_St} (a1 : Int32) (a2 : Int32) (a3 : Int32) (a5 : Int32) (a6 : Int32) (a7 : Int32)  (h : ((σ.1 58 38) ≤ a7 →
tp_E 147 54 [.ref 58, .int a1, .int a2, .int a3, .int a6, .int (a5 + 1), .null, .null] [] σ post) ∧ (¬ (σ.1 58 38) ≤ a7 →
(a6 = 0 →
tp_E 147 84 [.ref 58, .int a1, .int a2, .int a3, .null, .int a5, .int 0, .int (a7 + 1)] [] σ post) ∧ (¬ a6 = 0 →
vp_in a7 10 ∧
((σ.1 81 (a7).toNatClampNeg) = a5 →
vp_in a7 10 ∧
vp_in a3 10 ∧
(((σ.1 80 (a7).toNatClampNeg) + (σ.1 58 41)) ≤ (σ.1 79 (a3).toNatClampNeg) →
tp_E 147 84 [.ref 58, .int a1, .int a2, .int a3, .null, .int a5, .int 1, .int (a7 + 1)] [] σ post) ∧ (¬ ((σ.1 80 (a7).toNatClampNeg) + (σ.1 58 41)) ≤ (σ.1 79 (a3).toNatClampNeg) →
vp_in a3 10 ∧
vp_in a7 10 ∧
((σ.1 79 (a7).toNatClampNeg) < ((σ.1 80 (a3).toNatClampNeg) + (σ.1 58 41)) →
tp_E 147 84 [.ref 58, .int a1, .int a2, .int a3, .null, .int a5, .int 0, .int (a7 + 1)] [] σ post) ∧ (¬ (σ.1 79 (a7).toNatClampNeg) < ((σ.1 80 (a3).toNatClampNeg) + (σ.1 58 41)) →
tp_E 147 84 [.ref 58, .int a1, .int a2, .int a3, .null, .int a5, .int 1, .int (a7 + 1)] [] σ post))) ∧ (¬ (σ.1 81 (a7).toNatClampNeg) = a5 →
tp_E 147 84 [.ref 58, .int a1, .int a2, .int a3, .null, .int a5, .int 1, .int (a7 + 1)] [] σ post)))) : tp_E 147 84 [.ref 58, .int a1, .int a2, .int a3, .null, .int a5, .int a6, .int a7] [] σ post := tp_E_step (And.intro (fun c1 => Exists.intro _ (And.intro (tp_wk_rf _) (tp_E_step (Exists.intro [.ref 58, .int a1, .int a2, .int a3, .int a6, .int (a5 + 1), .null, .null] (And.intro (And.intro (Or.inr rfl) (And.intro (Or.inr rfl) (And.intro (Or.inr rfl) (And.intro (Or.inr rfl) (And.intro (Or.inr rfl) (And.intro (Or.inr rfl) (And.intro (Or.inl rfl) (And.intro (Or.inl rfl) (trivial))))))))) (h.1 c1)))))) (fun c1 => And.intro (fun c2 => Exists.intro _ (And.intro (tp_wk_rf _) (tp_E_step (Exists.intro _ (And.intro (tp_wk_rf _) (tp_E_step (Exists.intro [.ref 58, .int a1, .int a2, .int a3, .null, .int a5, .int 0, .int (a7 + 1)] (And.intro (And.intro (Or.inr rfl) (And.intro (Or.inr rfl) (And.intro (Or.inr rfl) (And.intro (Or.inr rfl) (And.intro (Or.inr rfl) (And.intro (Or.inr rfl) (And.intro (Or.inr rfl) (And.intro (Or.inr rfl) (trivial))))))))) ((h.2 c1).1 c2))))))))) (fun c2 => And.intro ((h.2 c1).2 c2).1 (And.intro (fun c3 => And.intro (((h.2 c1).2 c2).2.1 c3).1 (And.intro (((h.2 c1).2 c2).2.1 c3).2.1 (And.intro (fun c4 => Exists.intro _ (And.intro (tp_wk_rf _) (tp_E_step (Exists.intro _ (And.intro (tp_wk_rf _) (tp_E_step (Exists.intro [.ref 58, .int a1, .int a2, .int a3, .null, .int a5, .int 1, .int (a7 + 1)] (And.intro (And.intro (Or.inr rfl) (And.intro (Or.inr rfl) (And.intro (Or.inr rfl) (And.intro (Or.inr rfl) (And.intro (Or.inr rfl) (And.intro (Or.inr rfl) (And.intro (Or.inr rfl) (And.intro (Or.inr rfl) (trivial))))))))) ((((h.2 c1).2 c2).2.1 c3).2.2.1 c4))))))))) (fun c4 => And.intro ((((h.2 c1).2 c2).2.1 c3).2.2.2 c4).1 (And.intro ((((h.2 c1).2 c2).2.1 c3).2.2.2 c4).2.1 (And.intro (fun c5 => Exists.intro _ (And.intro (tp_wk_rf _) (tp_E_step (Exists.intro _ (And.intro (tp_wk_rf _) (tp_E_step (Exists.intro [.ref 58, .int a1, .int a2, .int a3, .null, .int a5, .int 0, .int (a7 + 1)] (And.intro (And.intro (Or.inr rfl) (And.intro (Or.inr rfl) (And.intro (Or.inr rfl) (And.intro (Or.inr rfl) (And.intro (Or.inr rfl) (And.intro (Or.inr rfl) (And.intro (Or.inr rfl) (And.intro (Or.inr rfl) (trivial))))))))) (((((h.2 c1).2 c2).2.1 c3).2.2.2 c4).2.2.1 c5))))))))) (fun c5 => Exists.intro _ (And.intro (tp_wk_rf _) (tp_E_step (Exists.intro _ (And.intro (tp_wk_rf _) (tp_E_step (Exists.intro [.ref 58, .int a1, .int a2, .int a3, .null, .int a5, .int 1, .int (a7 + 1)] (And.intro (And.intro (Or.inr rfl) (And.intro (Or.inr rfl) (And.intro (Or.inr rfl) (And.intro (Or.inr rfl) (And.intro (Or.inr rfl) (And.intro (Or.inr rfl) (And.intro (Or.inr rfl) (And.intro (Or.inr rfl) (trivial))))))))) (((((h.2 c1).2 c2).2.1 c3).2.2.2 c4).2.2.2 c5))))))))))))))) (fun c3 => Exists.intro _ (And.intro (tp_wk_rf _) (tp_E_step (Exists.intro _ (And.intro (tp_wk_rf _) (tp_E_step (Exists.intro [.ref 58, .int a1, .int a2, .int a3, .null, .int a5, .int 1, .int (a7 + 1)] (And.intro (And.intro (Or.inr rfl) (And.intro (Or.inr rfl) (And.intro (Or.inr rfl) (And.intro (Or.inr rfl) (And.intro (Or.inr rfl) (And.intro (Or.inr rfl) (And.intro (Or.inr rfl) (And.intro (Or.inr rfl) (trivial))))))))) (((h.2 c1).2 c2).2.2 c3)))))))))))))
/-- X10_count (I)I, 0 -/
theorem sg_148_0 {post : Int32 → tp_St → Prop} {σ : tp_St} (a1 : Int32)  (h : ((a1.toInt < 0 ∨ 7 < a1.toInt) →
post (-1) σ) ∧ (a1.toInt = 0 →
post (σ.1 58 0) σ) ∧ (a1.toInt = 1 →
post (σ.1 58 5) σ) ∧ (a1.toInt = 2 →
post (σ.1 58 9) σ) ∧ (a1.toInt = 3 →
tp_E 148 65 [.ref 58, .null, .int 0, .int 0] [] σ post) ∧ (a1.toInt = 4 →
post (σ.1 58 38) σ) ∧ (a1.toInt = 5 →
post (σ.1 58 25) σ) ∧ (a1.toInt = 6 →
((σ.1 70 0) = (-4) →
post (-4) σ) ∧ (¬ (σ.1 70 0) = (-4) →
post (σ.1 71 0) σ)) ∧ (a1.toInt = 7 →
post (σ.1 58 18) σ)) : tp_E 148 0 [.ref 58, .int a1, .null, .null] [] σ post := tp_E_step (And.intro (fun c1 => Exists.intro _ (And.intro (tp_wk_rf _) (tp_E_step (And.intro rfl (h.1 c1))))) (And.intro (fun c1 => Exists.intro _ (And.intro (tp_wk_rf _) (tp_E_step (And.intro rfl (h.2.1 c1))))) (And.intro (fun c1 => Exists.intro _ (And.intro (tp_wk_rf _) (tp_E_step (And.intro rfl (h.2.2.1 c1))))) (And.intro (fun c1 => Exists.intro _ (And.intro (tp_wk_rf _) (tp_E_step (And.intro rfl (h.2.2.2.1 c1))))) (And.intro (fun c1 => Exists.intro _ (And.intro (tp_wk_rf _) (tp_E_step (Exists.intro [.ref 58, .null, .int 0, .int 0] (And.intro (And.intro (Or.inr rfl) (And.intro (Or.inl rfl) (And.intro (Or.inr rfl) (And.intro (Or.inr rfl) (trivial))))) (h.2.2.2.2.1 c1)))))) (And.intro (fun c1 => Exists.intro _ (And.intro (tp_wk_rf _) (tp_E_step (And.intro rfl (h.2.2.2.2.2.1 c1))))) (And.intro (fun c1 => Exists.intro _ (And.intro (tp_wk_rf _) (tp_E_step (And.intro rfl (h.2.2.2.2.2.2.1 c1))))) (And.intro (fun c1 => Exists.intro _ (And.intro (tp_wk_rf _) (tp_E_step (And.intro (show ¬ ((0 : Int32) < 0 ∨ 4 ≤ (0 : Int32).toNatClampNeg) from by decide) (And.intro (fun c2 => Exists.intro _ (And.intro (tp_wk_rf _) (tp_E_step (And.intro rfl ((h.2.2.2.2.2.2.2.1 c1).1 c2))))) (fun c2 => Exists.intro _ (And.intro (tp_wk_rf _) (tp_E_step (And.intro (show ¬ ((0 : Int32) < 0 ∨ 4 ≤ (0 : Int32).toNatClampNeg) from by decide) (Exists.intro _ (And.intro (tp_wk_rf _) (tp_E_step (And.intro rfl ((h.2.2.2.2.2.2.2.1 c1).2 c2)))))))))))))) (And.intro (fun c1 => Exists.intro _ (And.intro (tp_wk_rf _) (tp_E_step (And.intro rfl (h.2.2.2.2.2.2.2.2 c1))))) (trivial))))))))))
/-- X10_count (I)I, 65 -/
theorem sg_148_65 {post : Int32 → tp_St → Prop} {σ : tp_St} (a2 : Int32) (a3 : Int32)  (h : ((σ.1 58 5) ≤ a3 →
post a2 σ) ∧ (¬ (σ.1 58 5) ≤ a3 →
vp_in a3 16 ∧
((σ.1 65 (a3).toNatClampNeg) = 0 →
tp_E 148 65 [.ref 58, .null, .int (a2 + 0), .int (a3 + 1)] [] σ post) ∧ (¬ (σ.1 65 (a3).toNatClampNeg) = 0 →
tp_E 148 65 [.ref 58, .null, .int (a2 + 1), .int (a3 + 1)] [] σ post))) : tp_E 148 65 [.ref 58, .null, .int a2, .int a3] [] σ post := tp_E_step (And.intro (fun c1 => Exists.intro _ (And.intro (tp_wk_rf _) (tp_E_step (And.intro rfl (h.1 c1))))) (fun c1 => And.intro (h.2 c1).1 (And.intro (fun c2 => Exists.intro _ (And.intro (tp_wk_rf _) (tp_E_step (Exists.intro _ (And.intro (tp_wk_rf _) (tp_E_step (Exists.intro [.ref 58, .null, .int (a2 + 0), .int (a3 + 1)] (And.intro (And.intro (Or.inr rfl) (And.intro (Or.inr rfl) (And.intro (Or.inr rfl) (And.intro (Or.inr rfl) (trivial))))) ((h.2 c1).2.1 c2))))))))) (fun c2 => Exists.intro _ (And.intro (tp_wk_rf _) (tp_E_step (Exists.intro [.ref 58, .null, .int (a2 + 1), .int (a3 + 1)] (And.intro (And.intro (Or.inr rfl) (And.intro (Or.inr rfl) (And.intro (Or.inr rfl) (And.intro (Or.inr rfl) (trivial))))) ((h.2 c1).2.2 c2)))))))))
/-- J0_length_8abf5 ()I, 0 -/
theorem sg_149_0 {post : Int32 → tp_St → Prop} {σ : tp_St} (q0 : Nat) (hq0 : q0 = 94 ∨ q0 = 95 ∨ q0 = 96) (h : tp_E 151 0 [.ref q0] [] σ (fun r1 σ1 =>
post ((Int32.ofNat (tp_ln (tp_rr σ q0 0))) >>> (r1 &&& 31)) σ1)) : tp_E 149 0 [.ref q0] [] σ post := by
  rcases hq0 with rfl | rfl | rfl
  · exact tp_E_step (tp_Em h (fun r1 σ1 h1 => And.intro rfl h1))
  · exact tp_E_step (tp_Em h (fun r1 σ1 h1 => And.intro rfl h1))
  · exact tp_E_step (tp_Em h (fun r1 σ1 h1 => And.intro rfl h1))
/-- J0_charAt_5068e (I)C, 0 -/
theorem sg_150_0 {post : Int32 → tp_St → Prop} {σ : tp_St} (q0 : Nat) (a1 : Int32) (hq0 : q0 = 94 ∨ q0 = 95 ∨ q0 = 96) (h : tp_E 152 0 [.ref q0] [] σ (fun r1 σ1 =>
(r1 = 0 →
False) ∧ (¬ r1 = 0 →
tp_E 154 0 [.ref (tp_rr σ1 q0 0), .int a1] [] σ1 (fun r2 σ2 =>
narrow .char (.int r2) = .int r2 ∧ post r2 σ2)))) : tp_E 150 0 [.ref q0, .int a1] [] σ post := by
  rcases hq0 with rfl | rfl | rfl
  · exact tp_E_step (tp_Em h (fun r1 σ1 h1 => And.intro (fun c3 => False.elim (h1.1 c3)) (fun c3 => tp_Em (h1.2 c3) (fun r2 σ2 h2 => h2))))
  · exact tp_E_step (tp_Em h (fun r1 σ1 h1 => And.intro (fun c3 => False.elim (h1.1 c3)) (fun c3 => tp_Em (h1.2 c3) (fun r2 σ2 h2 => h2))))
  · exact tp_E_step (tp_Em h (fun r1 σ1 h1 => And.intro (fun c3 => False.elim (h1.1 c3)) (fun c3 => tp_Em (h1.2 c3) (fun r2 σ2 h2 => h2))))
/-- J0_coder_7d493 ()B, 0 -/
theorem sg_151_0 {post : Int32 → tp_St → Prop} {σ : tp_St} (q0 : Nat) (hq0 : q0 = 94 ∨ q0 = 95 ∨ q0 = 96) (h : post 0 σ) : tp_E 151 0 [.ref q0] [] σ post := by
  rcases hq0 with rfl | rfl | rfl
  · exact tp_E_step (And.intro (fun hc => absurd hc (show ¬ ((1 : Int32) = 0) from by decide)) (fun _ => Exists.intro _ (And.intro (tp_wk_rf _) (tp_E_step (And.intro rfl h)))))
  · exact tp_E_step (And.intro (fun hc => absurd hc (show ¬ ((1 : Int32) = 0) from by decide)) (fun _ => Exists.intro _ (And.intro (tp_wk_rf _) (tp_E_step (And.intro rfl h)))))
  · exact tp_E_step (And.intro (fun hc => absurd hc (show ¬ ((1 : Int32) = 0) from by decide)) (fun _ => Exists.intro _ (And.intro (tp_wk_rf _) (tp_E_step (And.intro rfl h)))))
/-- J0_isLatin1_aae02 ()Z, 0 -/
theorem sg_152_0 {post : Int32 → tp_St → Prop} {σ : tp_St} (q0 : Nat) (hq0 : q0 = 94 ∨ q0 = 95 ∨ q0 = 96) (h : post 1 σ) : tp_E 152 0 [.ref q0] [] σ post := by
  rcases hq0 with rfl | rfl | rfl
  · exact tp_E_step (And.intro (fun hc => absurd hc (show ¬ ((1 : Int32) = 0) from by decide)) (fun _ => And.intro (fun _ => Exists.intro _ (And.intro (tp_wk_rf _) (tp_E_step (And.intro rfl h)))) (fun hc => absurd (show (0 : Int32) = 0 from by decide) hc)))
  · exact tp_E_step (And.intro (fun hc => absurd hc (show ¬ ((1 : Int32) = 0) from by decide)) (fun _ => And.intro (fun _ => Exists.intro _ (And.intro (tp_wk_rf _) (tp_E_step (And.intro rfl h)))) (fun hc => absurd (show (0 : Int32) = 0 from by decide) hc)))
  · exact tp_E_step (And.intro (fun hc => absurd hc (show ¬ ((1 : Int32) = 0) from by decide)) (fun _ => And.intro (fun _ => Exists.intro _ (And.intro (tp_wk_rf _) (tp_E_step (And.intro rfl h)))) (fun hc => absurd (show (0 : Int32) = 0 from by decide) hc)))
/-- J0_checkIndex_df160 (II)V, 0 -/
theorem sg_153_0 {post : Int32 → tp_St → Prop} {σ : tp_St} (a0 : Int32) (a1 : Int32)  (h : (tp_E 155 0 [.int a0, .int a1, .null] [] σ (fun r1 σ1 =>
post 0 σ1)) ∧ (tp_E 155 0 [.int a0, .int a1, .ref 100] [] σ (fun r2 σ2 =>
post 0 σ2))) : tp_E 153 0 [.int a0, .int a1] [] σ post := tp_E_step (And.intro (tp_Em h.1 (fun r1 σ1 h1 => h1)) (tp_Em h.2 (fun r2 σ2 h2 => h2)))
/-- J1_charAt_3b067 ([BI)C, 0 -/
theorem sg_154_0 {post : Int32 → tp_St → Prop} {σ : tp_St} (q0 : Nat) (a1 : Int32) (hq0 : q0 = 97 ∨ q0 = 98 ∨ q0 = 99) (h : tp_E 153 0 [.int a1, .int (Int32.ofNat (tp_ln q0))] [] σ (fun r1 σ1 =>
vp_in a1 (tp_ln q0) ∧
narrow .char (.int ((((tp_rob q0 (a1).toNatClampNeg) &&& 255)).toUInt32 % 65536).toInt32) = .int ((((tp_rob q0 (a1).toNatClampNeg) &&& 255)).toUInt32 % 65536).toInt32 ∧ post ((((tp_rob q0 (a1).toNatClampNeg) &&& 255)).toUInt32 % 65536).toInt32 σ1)) : tp_E 154 0 [.ref q0, .int a1] [] σ post := by
  rcases hq0 with rfl | rfl | rfl
  · exact tp_E_step (tp_Em h (fun r1 σ1 h1 => And.intro h1.1 (h1.2)))
  · exact tp_E_step (tp_Em h (fun r1 σ1 h1 => And.intro h1.1 (h1.2)))
  · exact tp_E_step (tp_Em h (fun r1 σ1 h1 => And.intro h1.1 (h1.2)))
/-- J3_checkIndex_8e157 (IILjava/util/function/BiFunction;)I, 0 -/
theorem sg_155_0 {post : Int32 → tp_St → Prop} {σ : tp_St} (a0 : Int32) (a1 : Int32)  (h : (a0 < 0 →
False) ∧ (¬ a0 < 0 →
(a0 < a1 →
post a0 σ) ∧ (¬ a0 < a1 →
False))) : tp_E 155 0 [.int a0, .int a1, .null] [] σ post := tp_E_step (And.intro (fun c1 => False.elim (h.1 c1)) (fun c1 => And.intro (fun c2 => Exists.intro _ (And.intro (tp_wk_rf _) (tp_E_step (And.intro rfl ((h.2 c1).1 c2))))) (fun c2 => False.elim ((h.2 c1).2 c2))))
/-- L_law ([I)Z, 18 -/
theorem sg_156_18 {post : Int32 → tp_St → Prop} {σ : tp_St} (a3 : Int32)  (h : (((Int32.ofNat ((σ.1 89 0)).toNatClampNeg) - 6) < a3 →
post 1 σ) ∧ (¬ ((Int32.ofNat ((σ.1 89 0)).toNatClampNeg) - 6) < a3 →
vp_in a3 ((σ.1 89 0)).toNatClampNeg ∧
((((σ.1 90 (a3).toNatClampNeg) &&& 31).toInt < 0 ∨ 29 < ((σ.1 90 (a3).toNatClampNeg) &&& 31).toInt) →
tp_E 156 18 [.ref 90, .ref 0, .ref 58, .int (a3 + 6)] [] σ post) ∧ (((σ.1 90 (a3).toNatClampNeg) &&& 31).toInt = 0 →
vp_in (a3 + 1) ((σ.1 89 0)).toNatClampNeg ∧
vp_in (a3 + 2) ((σ.1 89 0)).toNatClampNeg ∧
tp_E 61 0 [.ref 0, .int (σ.1 90 ((a3 + 1)).toNatClampNeg), .int (σ.1 90 ((a3 + 2)).toNatClampNeg)] [] σ (fun r1 σ1 =>
vp_in (a3 + 1) ((σ1.1 89 0)).toNatClampNeg ∧
vp_in (a3 + 2) ((σ1.1 89 0)).toNatClampNeg ∧
tp_E 102 0 [.ref 58, .int (σ1.1 90 ((a3 + 1)).toNatClampNeg), .int (σ1.1 90 ((a3 + 2)).toNatClampNeg)] [] σ1 (fun r2 σ2 =>
(r1 = r2 →
tp_E 156 18 [.ref 90, .ref 0, .ref 58, .int (a3 + 6)] [] σ2 post) ∧ (¬ r1 = r2 →
post 0 σ2)))) ∧ (((σ.1 90 (a3).toNatClampNeg) &&& 31).toInt = 1 →
vp_in (a3 + 1) ((σ.1 89 0)).toNatClampNeg ∧
vp_in (a3 + 2) ((σ.1 89 0)).toNatClampNeg ∧
vp_in (a3 + 3) ((σ.1 89 0)).toNatClampNeg ∧
vp_in (a3 + 4) ((σ.1 89 0)).toNatClampNeg ∧
tp_E 62 0 [.ref 0, .int (σ.1 90 ((a3 + 1)).toNatClampNeg), .int (σ.1 90 ((a3 + 2)).toNatClampNeg), .int (σ.1 90 ((a3 + 3)).toNatClampNeg), .int (σ.1 90 ((a3 + 4)).toNatClampNeg), .null] [] σ (fun r3 σ3 =>
vp_in (a3 + 1) ((σ3.1 89 0)).toNatClampNeg ∧
vp_in (a3 + 2) ((σ3.1 89 0)).toNatClampNeg ∧
vp_in (a3 + 3) ((σ3.1 89 0)).toNatClampNeg ∧
vp_in (a3 + 4) ((σ3.1 89 0)).toNatClampNeg ∧
tp_E 104 0 [.ref 58, .int (σ3.1 90 ((a3 + 1)).toNatClampNeg), .int (σ3.1 90 ((a3 + 2)).toNatClampNeg), .int (σ3.1 90 ((a3 + 3)).toNatClampNeg), .int (σ3.1 90 ((a3 + 4)).toNatClampNeg), .null, .null, .null] [] σ3 (fun r4 σ4 =>
(r3 = r4 →
tp_E 156 18 [.ref 90, .ref 0, .ref 58, .int (a3 + 6)] [] σ4 post) ∧ (¬ r3 = r4 →
post 0 σ4)))) ∧ (((σ.1 90 (a3).toNatClampNeg) &&& 31).toInt = 2 →
vp_in (a3 + 1) ((σ.1 89 0)).toNatClampNeg ∧
vp_in (a3 + 2) ((σ.1 89 0)).toNatClampNeg ∧
vp_in (a3 + 3) ((σ.1 89 0)).toNatClampNeg ∧
tp_E 63 0 [.ref 0, .int (σ.1 90 ((a3 + 1)).toNatClampNeg), .int (σ.1 90 ((a3 + 2)).toNatClampNeg), .int (σ.1 90 ((a3 + 3)).toNatClampNeg), .null] [] σ (fun r5 σ5 =>
vp_in (a3 + 1) ((σ5.1 89 0)).toNatClampNeg ∧
vp_in (a3 + 2) ((σ5.1 89 0)).toNatClampNeg ∧
vp_in (a3 + 3) ((σ5.1 89 0)).toNatClampNeg ∧
tp_E 105 0 [.ref 58, .int (σ5.1 90 ((a3 + 1)).toNatClampNeg), .int (σ5.1 90 ((a3 + 2)).toNatClampNeg), .int (σ5.1 90 ((a3 + 3)).toNatClampNeg), .null] [] σ5 (fun r6 σ6 =>
(r5 = r6 →
tp_E 156 18 [.ref 90, .ref 0, .ref 58, .int (a3 + 6)] [] σ6 post) ∧ (¬ r5 = r6 →
post 0 σ6)))) ∧ (((σ.1 90 (a3).toNatClampNeg) &&& 31).toInt = 3 →
vp_in (a3 + 1) ((σ.1 89 0)).toNatClampNeg ∧
vp_in (a3 + 2) ((σ.1 89 0)).toNatClampNeg ∧
((σ.1 90 ((a3 + 2)).toNatClampNeg) = 0 →
tp_E 64 0 [.ref 0, .int (σ.1 90 ((a3 + 1)).toNatClampNeg), .int 0] [] σ (fun r7 σ7 =>
vp_in (a3 + 1) ((σ7.1 89 0)).toNatClampNeg ∧
vp_in (a3 + 2) ((σ7.1 89 0)).toNatClampNeg ∧
((σ7.1 90 ((a3 + 2)).toNatClampNeg) = 0 →
tp_E 106 0 [.ref 58, .int (σ7.1 90 ((a3 + 1)).toNatClampNeg), .int 0, .null] [] σ7 (fun r8 σ8 =>
(r7 = r8 →
tp_E 156 18 [.ref 90, .ref 0, .ref 58, .int (a3 + 6)] [] σ8 post) ∧ (¬ r7 = r8 →
post 0 σ8))) ∧ (¬ (σ7.1 90 ((a3 + 2)).toNatClampNeg) = 0 →
tp_E 106 0 [.ref 58, .int (σ7.1 90 ((a3 + 1)).toNatClampNeg), .int 1, .null] [] σ7 (fun r9 σ9 =>
(r7 = r9 →
tp_E 156 18 [.ref 90, .ref 0, .ref 58, .int (a3 + 6)] [] σ9 post) ∧ (¬ r7 = r9 →
post 0 σ9))))) ∧ (¬ (σ.1 90 ((a3 + 2)).toNatClampNeg) = 0 →
tp_E 64 0 [.ref 0, .int (σ.1 90 ((a3 + 1)).toNatClampNeg), .int 1] [] σ (fun r10 σ10 =>
vp_in (a3 + 1) ((σ10.1 89 0)).toNatClampNeg ∧
vp_in (a3 + 2) ((σ10.1 89 0)).toNatClampNeg ∧
((σ10.1 90 ((a3 + 2)).toNatClampNeg) = 0 →
tp_E 106 0 [.ref 58, .int (σ10.1 90 ((a3 + 1)).toNatClampNeg), .int 0, .null] [] σ10 (fun r11 σ11 =>
(r10 = r11 →
tp_E 156 18 [.ref 90, .ref 0, .ref 58, .int (a3 + 6)] [] σ11 post) ∧ (¬ r10 = r11 →
post 0 σ11))) ∧ (¬ (σ10.1 90 ((a3 + 2)).toNatClampNeg) = 0 →
tp_E 106 0 [.ref 58, .int (σ10.1 90 ((a3 + 1)).toNatClampNeg), .int 1, .null] [] σ10 (fun r12 σ12 =>
(r10 = r12 →
tp_E 156 18 [.ref 90, .ref 0, .ref 58, .int (a3 + 6)] [] σ12 post) ∧ (¬ r10 = r12 →
post 0 σ12)))))) ∧ (((σ.1 90 (a3).toNatClampNeg) &&& 31).toInt = 4 →
vp_in (a3 + 1) ((σ.1 89 0)).toNatClampNeg ∧
tp_E 65 0 [.ref 0, .int (σ.1 90 ((a3 + 1)).toNatClampNeg)] [] σ (fun r13 σ13 =>
vp_in (a3 + 1) ((σ13.1 89 0)).toNatClampNeg ∧
tp_E 109 0 [.ref 58, .int (σ13.1 90 ((a3 + 1)).toNatClampNeg)] [] σ13 (fun r14 σ14 =>
(r13 = r14 →
tp_E 156 18 [.ref 90, .ref 0, .ref 58, .int (a3 + 6)] [] σ14 post) ∧ (¬ r13 = r14 →
post 0 σ14)))) ∧ (((σ.1 90 (a3).toNatClampNeg) &&& 31).toInt = 5 →
vp_in (a3 + 1) ((σ.1 89 0)).toNatClampNeg ∧
vp_in (a3 + 2) ((σ.1 89 0)).toNatClampNeg ∧
vp_in (a3 + 3) ((σ.1 89 0)).toNatClampNeg ∧
tp_E 66 0 [.ref 0, .int (σ.1 90 ((a3 + 1)).toNatClampNeg), .int (σ.1 90 ((a3 + 2)).toNatClampNeg), .int (σ.1 90 ((a3 + 3)).toNatClampNeg), .null, .null, .null] [] σ (fun r15 σ15 =>
vp_in (a3 + 1) ((σ15.1 89 0)).toNatClampNeg ∧
vp_in (a3 + 2) ((σ15.1 89 0)).toNatClampNeg ∧
vp_in (a3 + 3) ((σ15.1 89 0)).toNatClampNeg ∧
tp_E 112 0 [.ref 58, .int (σ15.1 90 ((a3 + 1)).toNatClampNeg), .int (σ15.1 90 ((a3 + 2)).toNatClampNeg), .int (σ15.1 90 ((a3 + 3)).toNatClampNeg), .null] [] σ15 (fun r16 σ16 =>
(r15 = r16 →
tp_E 156 18 [.ref 90, .ref 0, .ref 58, .int (a3 + 6)] [] σ16 post) ∧ (¬ r15 = r16 →
post 0 σ16)))) ∧ (((σ.1 90 (a3).toNatClampNeg) &&& 31).toInt = 6 →
tp_E 67 0 [.ref 0, .null, .null, .null] [] σ (fun r17 σ17 =>
tp_E 113 0 [.ref 58, .null, .null] [] σ17 (fun r18 σ18 =>
(r17 = r18 →
tp_E 156 18 [.ref 90, .ref 0, .ref 58, .int (a3 + 6)] [] σ18 post) ∧ (¬ r17 = r18 →
post 0 σ18)))) ∧ (((σ.1 90 (a3).toNatClampNeg) &&& 31).toInt = 7 →
vp_in (a3 + 1) ((σ.1 89 0)).toNatClampNeg ∧
vp_in (a3 + 2) ((σ.1 89 0)).toNatClampNeg ∧
vp_in (a3 + 3) ((σ.1 89 0)).toNatClampNeg ∧
tp_E 68 0 [.ref 0, .int (σ.1 90 ((a3 + 1)).toNatClampNeg), .int (σ.1 90 ((a3 + 2)).toNatClampNeg), .int (σ.1 90 ((a3 + 3)).toNatClampNeg)] [] σ (fun r19 σ19 =>
vp_in (a3 + 1) ((σ19.1 89 0)).toNatClampNeg ∧
vp_in (a3 + 2) ((σ19.1 89 0)).toNatClampNeg ∧
vp_in (a3 + 3) ((σ19.1 89 0)).toNatClampNeg ∧
tp_E 114 0 [.ref 58, .int (σ19.1 90 ((a3 + 1)).toNatClampNeg), .int (σ19.1 90 ((a3 + 2)).toNatClampNeg), .int (σ19.1 90 ((a3 + 3)).toNatClampNeg), .null] [] σ19 (fun r20 σ20 =>
(r19 = r20 →
tp_E 156 18 [.ref 90, .ref 0, .ref 58, .int (a3 + 6)] [] σ20 post) ∧ (¬ r19 = r20 →
post 0 σ20)))) ∧ (((σ.1 90 (a3).toNatClampNeg) &&& 31).toInt = 8 →
vp_in (a3 + 1) ((σ.1 89 0)).toNatClampNeg ∧
vp_in (a3 + 2) ((σ.1 89 0)).toNatClampNeg ∧
vp_in (a3 + 3) ((σ.1 89 0)).toNatClampNeg ∧
tp_E 69 0 [.ref 0, .int (σ.1 90 ((a3 + 1)).toNatClampNeg), .int (σ.1 90 ((a3 + 2)).toNatClampNeg), .int (σ.1 90 ((a3 + 3)).toNatClampNeg), .null] [] σ (fun r21 σ21 =>
vp_in (a3 + 1) ((σ21.1 89 0)).toNatClampNeg ∧
vp_in (a3 + 2) ((σ21.1 89 0)).toNatClampNeg ∧
vp_in (a3 + 3) ((σ21.1 89 0)).toNatClampNeg ∧
tp_E 115 0 [.ref 58, .int (σ21.1 90 ((a3 + 1)).toNatClampNeg), .int (σ21.1 90 ((a3 + 2)).toNatClampNeg), .int (σ21.1 90 ((a3 + 3)).toNatClampNeg)] [] σ21 (fun r22 σ22 =>
(r21 = r22 →
tp_E 156 18 [.ref 90, .ref 0, .ref 58, .int (a3 + 6)] [] σ22 post) ∧ (¬ r21 = r22 →
post 0 σ22)))) ∧ (((σ.1 90 (a3).toNatClampNeg) &&& 31).toInt = 9 →
vp_in (a3 + 1) ((σ.1 89 0)).toNatClampNeg ∧
vp_in (a3 + 2) ((σ.1 89 0)).toNatClampNeg ∧
vp_in (a3 + 3) ((σ.1 89 0)).toNatClampNeg ∧
vp_in (a3 + 4) ((σ.1 89 0)).toNatClampNeg ∧
vp_in (a3 + 5) ((σ.1 89 0)).toNatClampNeg ∧
tp_E 70 0 [.ref 0, .int (σ.1 90 ((a3 + 1)).toNatClampNeg), .int (σ.1 90 ((a3 + 2)).toNatClampNeg), .int (σ.1 90 ((a3 + 3)).toNatClampNeg), .int (σ.1 90 ((a3 + 4)).toNatClampNeg), .int (σ.1 90 ((a3 + 5)).toNatClampNeg), .null, .null, .null] [] σ (fun r23 σ23 =>
vp_in (a3 + 1) ((σ23.1 89 0)).toNatClampNeg ∧
vp_in (a3 + 2) ((σ23.1 89 0)).toNatClampNeg ∧
vp_in (a3 + 3) ((σ23.1 89 0)).toNatClampNeg ∧
vp_in (a3 + 4) ((σ23.1 89 0)).toNatClampNeg ∧
vp_in (a3 + 5) ((σ23.1 89 0)).toNatClampNeg ∧
tp_E 116 0 [.ref 58, .int (σ23.1 90 ((a3 + 1)).toNatClampNeg), .int (σ23.1 90 ((a3 + 2)).toNatClampNeg), .int (σ23.1 90 ((a3 + 3)).toNatClampNeg), .int (σ23.1 90 ((a3 + 4)).toNatClampNeg), .int (σ23.1 90 ((a3 + 5)).toNatClampNeg), .null, .null, .null, .null, .null, .null, .null] [] σ23 (fun r24 σ24 =>
(r23 = r24 →
tp_E 156 18 [.ref 90, .ref 0, .ref 58, .int (a3 + 6)] [] σ24 post) ∧ (¬ r23 = r24 →
post 0 σ24)))) ∧ (((σ.1 90 (a3).toNatClampNeg) &&& 31).toInt = 10 →
vp_in (a3 + 1) ((σ.1 89 0)).toNatClampNeg ∧
vp_in (a3 + 2) ((σ.1 89 0)).toNatClampNeg ∧
vp_in (a3 + 3) ((σ.1 89 0)).toNatClampNeg ∧
tp_E 71 0 [.ref 0, .int (σ.1 90 ((a3 + 1)).toNatClampNeg), .int (σ.1 90 ((a3 + 2)).toNatClampNeg), .int (σ.1 90 ((a3 + 3)).toNatClampNeg), .null] [] σ (fun r25 σ25 =>
vp_in (a3 + 1) ((σ25.1 89 0)).toNatClampNeg ∧
vp_in (a3 + 2) ((σ25.1 89 0)).toNatClampNeg ∧
vp_in (a3 + 3) ((σ25.1 89 0)).toNatClampNeg ∧
tp_E 117 0 [.ref 58, .int (σ25.1 90 ((a3 + 1)).toNatClampNeg), .int (σ25.1 90 ((a3 + 2)).toNatClampNeg), .int (σ25.1 90 ((a3 + 3)).toNatClampNeg), .null, .null, .null, .null] [] σ25 (fun r26 σ26 =>
(r25 = r26 →
tp_E 156 18 [.ref 90, .ref 0, .ref 58, .int (a3 + 6)] [] σ26 post) ∧ (¬ r25 = r26 →
post 0 σ26)))) ∧ (((σ.1 90 (a3).toNatClampNeg) &&& 31).toInt = 11 →
vp_in (a3 + 1) ((σ.1 89 0)).toNatClampNeg ∧
tp_E 72 0 [.ref 0, .int (σ.1 90 ((a3 + 1)).toNatClampNeg)] [] σ (fun r27 σ27 =>
vp_in (a3 + 1) ((σ27.1 89 0)).toNatClampNeg ∧
tp_E 118 0 [.ref 58, .int (σ27.1 90 ((a3 + 1)).toNatClampNeg)] [] σ27 (fun r28 σ28 =>
(r27 = r28 →
tp_E 156 18 [.ref 90, .ref 0, .ref 58, .int (a3 + 6)] [] σ28 post) ∧ (¬ r27 = r28 →
post 0 σ28)))) ∧ (((σ.1 90 (a3).toNatClampNeg) &&& 31).toInt = 12 →
vp_in (a3 + 1) ((σ.1 89 0)).toNatClampNeg ∧
vp_in (a3 + 2) ((σ.1 89 0)).toNatClampNeg ∧
tp_E 73 0 [.ref 0, .int (σ.1 90 ((a3 + 1)).toNatClampNeg), .int (σ.1 90 ((a3 + 2)).toNatClampNeg), .null, .null] [] σ (fun r29 σ29 =>
vp_in (a3 + 1) ((σ29.1 89 0)).toNatClampNeg ∧
vp_in (a3 + 2) ((σ29.1 89 0)).toNatClampNeg ∧
tp_E 119 0 [.ref 58, .int (σ29.1 90 ((a3 + 1)).toNatClampNeg), .int (σ29.1 90 ((a3 + 2)).toNatClampNeg), .null, .null] [] σ29 (fun r30 σ30 =>
(r29 = r30 →
tp_E 156 18 [.ref 90, .ref 0, .ref 58, .int (a3 + 6)] [] σ30 post) ∧ (¬ r29 = r30 →
post 0 σ30)))) ∧ (((σ.1 90 (a3).toNatClampNeg) &&& 31).toInt = 13 →
vp_in (a3 + 1) ((σ.1 89 0)).toNatClampNeg ∧
vp_in (a3 + 2) ((σ.1 89 0)).toNatClampNeg ∧
vp_in (a3 + 3) ((σ.1 89 0)).toNatClampNeg ∧
tp_E 74 0 [.ref 0, .int (σ.1 90 ((a3 + 1)).toNatClampNeg), .int (σ.1 90 ((a3 + 2)).toNatClampNeg), .int (σ.1 90 ((a3 + 3)).toNatClampNeg)] [] σ (fun r31 σ31 =>
vp_in (a3 + 1) ((σ31.1 89 0)).toNatClampNeg ∧
vp_in (a3 + 2) ((σ31.1 89 0)).toNatClampNeg ∧
vp_in (a3 + 3) ((σ31.1 89 0)).toNatClampNeg ∧
tp_E 122 0 [.ref 58, .int (σ31.1 90 ((a3 + 1)).toNatClampNeg), .int (σ31.1 90 ((a3 + 2)).toNatClampNeg), .int (σ31.1 90 ((a3 + 3)).toNatClampNeg)] [] σ31 (fun r32 σ32 =>
(r31 = r32 →
tp_E 156 18 [.ref 90, .ref 0, .ref 58, .int (a3 + 6)] [] σ32 post) ∧ (¬ r31 = r32 →
post 0 σ32)))) ∧ (((σ.1 90 (a3).toNatClampNeg) &&& 31).toInt = 14 →
vp_in (a3 + 1) ((σ.1 89 0)).toNatClampNeg ∧
((σ.1 90 ((a3 + 1)).toNatClampNeg) = 0 →
vp_in (a3 + 2) ((σ.1 89 0)).toNatClampNeg ∧
vp_in (a3 + 3) ((σ.1 89 0)).toNatClampNeg ∧
tp_E 75 0 [.ref 0, .int 0, .int (σ.1 90 ((a3 + 2)).toNatClampNeg), .int (σ.1 90 ((a3 + 3)).toNatClampNeg), .null, .null] [] σ (fun r33 σ33 =>
vp_in (a3 + 1) ((σ33.1 89 0)).toNatClampNeg ∧
((σ33.1 90 ((a3 + 1)).toNatClampNeg) = 0 →
vp_in (a3 + 2) ((σ33.1 89 0)).toNatClampNeg ∧
vp_in (a3 + 3) ((σ33.1 89 0)).toNatClampNeg ∧
tp_E 123 0 [.ref 58, .int 0, .int (σ33.1 90 ((a3 + 2)).toNatClampNeg), .int (σ33.1 90 ((a3 + 3)).toNatClampNeg), .null, .null] [] σ33 (fun r34 σ34 =>
(r33 = r34 →
tp_E 156 18 [.ref 90, .ref 0, .ref 58, .int (a3 + 6)] [] σ34 post) ∧ (¬ r33 = r34 →
post 0 σ34))) ∧ (¬ (σ33.1 90 ((a3 + 1)).toNatClampNeg) = 0 →
vp_in (a3 + 2) ((σ33.1 89 0)).toNatClampNeg ∧
vp_in (a3 + 3) ((σ33.1 89 0)).toNatClampNeg ∧
tp_E 123 0 [.ref 58, .int 1, .int (σ33.1 90 ((a3 + 2)).toNatClampNeg), .int (σ33.1 90 ((a3 + 3)).toNatClampNeg), .null, .null] [] σ33 (fun r35 σ35 =>
(r33 = r35 →
tp_E 156 18 [.ref 90, .ref 0, .ref 58, .int (a3 + 6)] [] σ35 post) ∧ (¬ r33 = r35 →
post 0 σ35))))) ∧ (¬ (σ.1 90 ((a3 + 1)).toNatClampNeg) = 0 →
vp_in (a3 + 2) ((σ.1 89 0)).toNatClampNeg ∧
vp_in (a3 + 3) ((σ.1 89 0)).toNatClampNeg ∧
tp_E 75 0 [.ref 0, .int 1, .int (σ.1 90 ((a3 + 2)).toNatClampNeg), .int (σ.1 90 ((a3 + 3)).toNatClampNeg), .null, .null] [] σ (fun r36 σ36 =>
vp_in (a3 + 1) ((σ36.1 89 0)).toNatClampNeg ∧
((σ36.1 90 ((a3 + 1)).toNatClampNeg) = 0 →
vp_in (a3 + 2) ((σ36.1 89 0)).toNatClampNeg ∧
vp_in (a3 + 3) ((σ36.1 89 0)).toNatClampNeg ∧
tp_E 123 0 [.ref 58, .int 0, .int (σ36.1 90 ((a3 + 2)).toNatClampNeg), .int (σ36.1 90 ((a3 + 3)).toNatClampNeg), .null, .null] [] σ36 (fun r37 σ37 =>
(r36 = r37 →
tp_E 156 18 [.ref 90, .ref 0, .ref 58, .int (a3 + 6)] [] σ37 post) ∧ (¬ r36 = r37 →
post 0 σ37))) ∧ (¬ (σ36.1 90 ((a3 + 1)).toNatClampNeg) = 0 →
vp_in (a3 + 2) ((σ36.1 89 0)).toNatClampNeg ∧
vp_in (a3 + 3) ((σ36.1 89 0)).toNatClampNeg ∧
tp_E 123 0 [.ref 58, .int 1, .int (σ36.1 90 ((a3 + 2)).toNatClampNeg), .int (σ36.1 90 ((a3 + 3)).toNatClampNeg), .null, .null] [] σ36 (fun r38 σ38 =>
(r36 = r38 →
tp_E 156 18 [.ref 90, .ref 0, .ref 58, .int (a3 + 6)] [] σ38 post) ∧ (¬ r36 = r38 →
post 0 σ38)))))) ∧ (((σ.1 90 (a3).toNatClampNeg) &&& 31).toInt = 15 →
vp_in (a3 + 1) ((σ.1 89 0)).toNatClampNeg ∧
vp_in (a3 + 2) ((σ.1 89 0)).toNatClampNeg ∧
vp_in (a3 + 3) ((σ.1 89 0)).toNatClampNeg ∧
vp_in (a3 + 4) ((σ.1 89 0)).toNatClampNeg ∧
tp_E 76 0 [.ref 0, .int (σ.1 90 ((a3 + 1)).toNatClampNeg), .int (σ.1 90 ((a3 + 2)).toNatClampNeg), .int (σ.1 90 ((a3 + 3)).toNatClampNeg), .int (σ.1 90 ((a3 + 4)).toNatClampNeg), .null, .null] [] σ (fun r39 σ39 =>
vp_in (a3 + 1) ((σ39.1 89 0)).toNatClampNeg ∧
vp_in (a3 + 2) ((σ39.1 89 0)).toNatClampNeg ∧
vp_in (a3 + 3) ((σ39.1 89 0)).toNatClampNeg ∧
vp_in (a3 + 4) ((σ39.1 89 0)).toNatClampNeg ∧
tp_E 124 0 [.ref 58, .int (σ39.1 90 ((a3 + 1)).toNatClampNeg), .int (σ39.1 90 ((a3 + 2)).toNatClampNeg), .int (σ39.1 90 ((a3 + 3)).toNatClampNeg), .int (σ39.1 90 ((a3 + 4)).toNatClampNeg), .null, .null, .null] [] σ39 (fun r40 σ40 =>
(r39 = r40 →
tp_E 156 18 [.ref 90, .ref 0, .ref 58, .int (a3 + 6)] [] σ40 post) ∧ (¬ r39 = r40 →
post 0 σ40)))) ∧ (((σ.1 90 (a3).toNatClampNeg) &&& 31).toInt = 16 →
vp_in (a3 + 1) ((σ.1 89 0)).toNatClampNeg ∧
vp_in (a3 + 2) ((σ.1 89 0)).toNatClampNeg ∧
vp_in (a3 + 3) ((σ.1 89 0)).toNatClampNeg ∧
tp_E 77 0 [.ref 0, .int (σ.1 90 ((a3 + 1)).toNatClampNeg), .int (σ.1 90 ((a3 + 2)).toNatClampNeg), .int (σ.1 90 ((a3 + 3)).toNatClampNeg), .null, .null] [] σ (fun r41 σ41 =>
vp_in (a3 + 1) ((σ41.1 89 0)).toNatClampNeg ∧
vp_in (a3 + 2) ((σ41.1 89 0)).toNatClampNeg ∧
vp_in (a3 + 3) ((σ41.1 89 0)).toNatClampNeg ∧
tp_E 125 0 [.ref 58, .int (σ41.1 90 ((a3 + 1)).toNatClampNeg), .int (σ41.1 90 ((a3 + 2)).toNatClampNeg), .int (σ41.1 90 ((a3 + 3)).toNatClampNeg), .null, .null] [] σ41 (fun r42 σ42 =>
(r41 = r42 →
tp_E 156 18 [.ref 90, .ref 0, .ref 58, .int (a3 + 6)] [] σ42 post) ∧ (¬ r41 = r42 →
post 0 σ42)))) ∧ (((σ.1 90 (a3).toNatClampNeg) &&& 31).toInt = 17 →
vp_in (a3 + 1) ((σ.1 89 0)).toNatClampNeg ∧
tp_E 78 0 [.ref 0, .int (σ.1 90 ((a3 + 1)).toNatClampNeg), .null, .null, .null, .null] [] σ (fun r43 σ43 =>
vp_in (a3 + 1) ((σ43.1 89 0)).toNatClampNeg ∧
tp_E 126 0 [.ref 58, .int (σ43.1 90 ((a3 + 1)).toNatClampNeg), .null, .null, .null, .null, .null] [] σ43 (fun r44 σ44 =>
(r43 = r44 →
tp_E 156 18 [.ref 90, .ref 0, .ref 58, .int (a3 + 6)] [] σ44 post) ∧ (¬ r43 = r44 →
post 0 σ44)))) ∧ (((σ.1 90 (a3).toNatClampNeg) &&& 31).toInt = 18 →
vp_in (a3 + 1) ((σ.1 89 0)).toNatClampNeg ∧
vp_in (a3 + 2) ((σ.1 89 0)).toNatClampNeg ∧
tp_E 79 0 [.ref 0, .long ((((σ.1 90 ((a3 + 1)).toNatClampNeg)).toInt64 <<< ((32).toInt64 &&& 63)) ||| (((σ.1 90 ((a3 + 2)).toNatClampNeg)).toInt64 &&& (Int64.ofNat 4294967295))), .null] [] σ (fun r45 σ45 =>
vp_in (a3 + 1) ((σ45.1 89 0)).toNatClampNeg ∧
vp_in (a3 + 2) ((σ45.1 89 0)).toNatClampNeg ∧
tp_E 127 0 [.ref 58, .long ((((σ45.1 90 ((a3 + 1)).toNatClampNeg)).toInt64 <<< ((32).toInt64 &&& 63)) ||| (((σ45.1 90 ((a3 + 2)).toNatClampNeg)).toInt64 &&& (Int64.ofNat 4294967295))), .null, .null] [] σ45 (fun r46 σ46 =>
(r45 = r46 →
tp_E 156 18 [.ref 90, .ref 0, .ref 58, .int (a3 + 6)] [] σ46 post) ∧ (¬ r45 = r46 →
post 0 σ46)))) ∧ (((σ.1 90 (a3).toNatClampNeg) &&& 31).toInt = 19 →
vp_in (a3 + 1) ((σ.1 89 0)).toNatClampNeg ∧
tp_E 80 0 [.ref 0, .int (σ.1 90 ((a3 + 1)).toNatClampNeg), .null] [] σ (fun r47 σ47 =>
vp_in (a3 + 1) ((σ47.1 89 0)).toNatClampNeg ∧
tp_E 128 0 [.ref 58, .int (σ47.1 90 ((a3 + 1)).toNatClampNeg), .null] [] σ47 (fun r48 σ48 =>
(r47 = r48 →
tp_E 156 18 [.ref 90, .ref 0, .ref 58, .int (a3 + 6)] [] σ48 post) ∧ (¬ r47 = r48 →
post 0 σ48)))) ∧ (((σ.1 90 (a3).toNatClampNeg) &&& 31).toInt = 20 →
tp_E 81 0 [.ref 0] [] σ (fun r49 σ49 =>
tp_E 136 0 [.ref 58, .null] [] σ49 (fun r50 σ50 =>
(r49 = r50 →
tp_E 156 18 [.ref 90, .ref 0, .ref 58, .int (a3 + 6)] [] σ50 post) ∧ (¬ r49 = r50 →
post 0 σ50)))) ∧ (((σ.1 90 (a3).toNatClampNeg) &&& 31).toInt = 21 →
tp_E 82 0 [.ref 0] [] σ (fun r51 σ51 =>
tp_E 137 0 [.ref 58] [] σ51 (fun r52 σ52 =>
(r51 = r52 →
tp_E 156 18 [.ref 90, .ref 0, .ref 58, .int (a3 + 6)] [] σ52 post) ∧ (¬ r51 = r52 →
post 0 σ52)))) ∧ (((σ.1 90 (a3).toNatClampNeg) &&& 31).toInt = 22 →
vp_in (a3 + 1) ((σ.1 89 0)).toNatClampNeg ∧
vp_in (a3 + 2) ((σ.1 89 0)).toNatClampNeg ∧
tp_E 83 0 [.ref 0, .int (σ.1 90 ((a3 + 1)).toNatClampNeg), .int (σ.1 90 ((a3 + 2)).toNatClampNeg)] [] σ (fun r53 σ53 =>
vp_in (a3 + 1) ((σ53.1 89 0)).toNatClampNeg ∧
vp_in (a3 + 2) ((σ53.1 89 0)).toNatClampNeg ∧
tp_E 138 0 [.ref 58, .int (σ53.1 90 ((a3 + 1)).toNatClampNeg), .int (σ53.1 90 ((a3 + 2)).toNatClampNeg), .null, .null] [] σ53 (fun r54 σ54 =>
(r53 = r54 →
tp_E 156 18 [.ref 90, .ref 0, .ref 58, .int (a3 + 6)] [] σ54 post) ∧ (¬ r53 = r54 →
post 0 σ54)))) ∧ (((σ.1 90 (a3).toNatClampNeg) &&& 31).toInt = 23 →
vp_in (a3 + 1) ((σ.1 89 0)).toNatClampNeg ∧
vp_in (a3 + 2) ((σ.1 89 0)).toNatClampNeg ∧
tp_E 84 0 [.ref 0, .int (σ.1 90 ((a3 + 1)).toNatClampNeg), .int (σ.1 90 ((a3 + 2)).toNatClampNeg)] [] σ (fun r55 σ55 =>
vp_in (a3 + 1) ((σ55.1 89 0)).toNatClampNeg ∧
vp_in (a3 + 2) ((σ55.1 89 0)).toNatClampNeg ∧
tp_E 139 0 [.ref 58, .int (σ55.1 90 ((a3 + 1)).toNatClampNeg), .int (σ55.1 90 ((a3 + 2)).toNatClampNeg)] [] σ55 (fun r56 σ56 =>
(r55 = r56 →
tp_E 156 18 [.ref 90, .ref 0, .ref 58, .int (a3 + 6)] [] σ56 post) ∧ (¬ r55 = r56 →
post 0 σ56)))) ∧ (((σ.1 90 (a3).toNatClampNeg) &&& 31).toInt = 24 →
vp_in (a3 + 1) ((σ.1 89 0)).toNatClampNeg ∧
vp_in (a3 + 2) ((σ.1 89 0)).toNatClampNeg ∧
tp_E 85 0 [.ref 0, .int (σ.1 90 ((a3 + 1)).toNatClampNeg), .int (σ.1 90 ((a3 + 2)).toNatClampNeg)] [] σ (fun r57 σ57 =>
vp_in (a3 + 1) ((σ57.1 89 0)).toNatClampNeg ∧
vp_in (a3 + 2) ((σ57.1 89 0)).toNatClampNeg ∧
tp_E 140 0 [.ref 58, .int (σ57.1 90 ((a3 + 1)).toNatClampNeg), .int (σ57.1 90 ((a3 + 2)).toNatClampNeg)] [] σ57 (fun r58 σ58 =>
(r57 = r58 →
tp_E 156 18 [.ref 90, .ref 0, .ref 58, .int (a3 + 6)] [] σ58 post) ∧ (¬ r57 = r58 →
post 0 σ58)))) ∧ (((σ.1 90 (a3).toNatClampNeg) &&& 31).toInt = 25 →
vp_in (a3 + 1) ((σ.1 89 0)).toNatClampNeg ∧
tp_E 86 0 [.ref 0, .int (σ.1 90 ((a3 + 1)).toNatClampNeg)] [] σ (fun r59 σ59 =>
vp_in (a3 + 1) ((σ59.1 89 0)).toNatClampNeg ∧
tp_E 141 0 [.ref 58, .int (σ59.1 90 ((a3 + 1)).toNatClampNeg), .null] [] σ59 (fun r60 σ60 =>
(r59 = r60 →
tp_E 156 18 [.ref 90, .ref 0, .ref 58, .int (a3 + 6)] [] σ60 post) ∧ (¬ r59 = r60 →
post 0 σ60)))) ∧ (((σ.1 90 (a3).toNatClampNeg) &&& 31).toInt = 26 →
vp_in (a3 + 1) ((σ.1 89 0)).toNatClampNeg ∧
tp_E 87 0 [.ref 0, .int (σ.1 90 ((a3 + 1)).toNatClampNeg)] [] σ (fun r61 σ61 =>
vp_in (a3 + 1) ((σ61.1 89 0)).toNatClampNeg ∧
tp_E 144 0 [.ref 58, .int (σ61.1 90 ((a3 + 1)).toNatClampNeg)] [] σ61 (fun r62 σ62 =>
(r61 = r62 →
tp_E 156 18 [.ref 90, .ref 0, .ref 58, .int (a3 + 6)] [] σ62 post) ∧ (¬ r61 = r62 →
post 0 σ62)))) ∧ (((σ.1 90 (a3).toNatClampNeg) &&& 31).toInt = 27 →
vp_in (a3 + 1) ((σ.1 89 0)).toNatClampNeg ∧
tp_E 88 0 [.ref 0, .int (σ.1 90 ((a3 + 1)).toNatClampNeg), .null] [] σ (fun r63 σ63 =>
vp_in (a3 + 1) ((σ63.1 89 0)).toNatClampNeg ∧
tp_E 146 0 [.ref 58, .int (σ63.1 90 ((a3 + 1)).toNatClampNeg), .null, .null] [] σ63 (fun r64 σ64 =>
(r63 = r64 →
tp_E 156 18 [.ref 90, .ref 0, .ref 58, .int (a3 + 6)] [] σ64 post) ∧ (¬ r63 = r64 →
post 0 σ64)))) ∧ (((σ.1 90 (a3).toNatClampNeg) &&& 31).toInt = 28 →
vp_in (a3 + 1) ((σ.1 89 0)).toNatClampNeg ∧
tp_E 89 0 [.ref 0, .int (σ.1 90 ((a3 + 1)).toNatClampNeg)] [] σ (fun r65 σ65 =>
vp_in (a3 + 1) ((σ65.1 89 0)).toNatClampNeg ∧
tp_E 147 0 [.ref 58, .int (σ65.1 90 ((a3 + 1)).toNatClampNeg), .null, .null, .null, .null, .null, .null] [] σ65 (fun r66 σ66 =>
(r65 = r66 →
tp_E 156 18 [.ref 90, .ref 0, .ref 58, .int (a3 + 6)] [] σ66 post) ∧ (¬ r65 = r66 →
post 0 σ66)))) ∧ (((σ.1 90 (a3).toNatClampNeg) &&& 31).toInt = 29 →
vp_in (a3 + 1) ((σ.1 89 0)).toNatClampNeg ∧
tp_E 90 0 [.ref 0, .int (σ.1 90 ((a3 + 1)).toNatClampNeg)] [] σ (fun r67 σ67 =>
vp_in (a3 + 1) ((σ67.1 89 0)).toNatClampNeg ∧
tp_E 148 0 [.ref 58, .int (σ67.1 90 ((a3 + 1)).toNatClampNeg), .null, .null] [] σ67 (fun r68 σ68 =>
(r67 = r68 →
tp_E 156 18 [.ref 90, .ref 0, .ref 58, .int (a3 + 6)] [] σ68 post) ∧ (¬ r67 = r68 →
post 0 σ68)))))) : tp_E 156 18 [.ref 90, .ref 0, .ref 58, .int a3] [] σ post := tp_E_step (And.intro (fun c1 => Exists.intro _ (And.intro (tp_wk_rf _) (tp_E_step (And.intro rfl (h.1 c1))))) (fun c1 => And.intro (h.2 c1).1 (And.intro (fun c2 => Exists.intro _ (And.intro (tp_wk_rf _) (tp_E_step (Exists.intro [.ref 90, .ref 0, .ref 58, .int (a3 + 6)] (And.intro (And.intro (Or.inr rfl) (And.intro (Or.inr rfl) (And.intro (Or.inr rfl) (And.intro (Or.inr rfl) (trivial))))) ((h.2 c1).2.1 c2)))))) (And.intro (fun c2 => Exists.intro _ (And.intro (tp_wk_rf _) (tp_E_step (And.intro ((h.2 c1).2.2.1 c2).1 (And.intro ((h.2 c1).2.2.1 c2).2.1 (tp_Em ((h.2 c1).2.2.1 c2).2.2 (fun r110 σ110 h110 => And.intro h110.1 (And.intro h110.2.1 (tp_Em h110.2.2 (fun r111 σ111 h111 => And.intro (fun c112 => Exists.intro _ (And.intro (tp_wk_rf _) (tp_E_step (Exists.intro [.ref 90, .ref 0, .ref 58, .int (a3 + 6)] (And.intro (And.intro (Or.inr rfl) (And.intro (Or.inr rfl) (And.intro (Or.inr rfl) (And.intro (Or.inr rfl) (trivial))))) (h111.1 c112)))))) (fun c112 => And.intro rfl (h111.2 c112)))))))))))) (And.intro (fun c2 => Exists.intro _ (And.intro (tp_wk_rf _) (tp_E_step (And.intro ((h.2 c1).2.2.2.1 c2).1 (And.intro ((h.2 c1).2.2.2.1 c2).2.1 (And.intro ((h.2 c1).2.2.2.1 c2).2.2.1 (And.intro ((h.2 c1).2.2.2.1 c2).2.2.2.1 (tp_Em ((h.2 c1).2.2.2.1 c2).2.2.2.2 (fun r107 σ107 h107 => And.intro h107.1 (And.intro h107.2.1 (And.intro h107.2.2.1 (And.intro h107.2.2.2.1 (tp_Em h107.2.2.2.2 (fun r108 σ108 h108 => And.intro (fun c109 => Exists.intro _ (And.intro (tp_wk_rf _) (tp_E_step (Exists.intro [.ref 90, .ref 0, .ref 58, .int (a3 + 6)] (And.intro (And.intro (Or.inr rfl) (And.intro (Or.inr rfl) (And.intro (Or.inr rfl) (And.intro (Or.inr rfl) (trivial))))) (h108.1 c109)))))) (fun c109 => And.intro rfl (h108.2 c109)))))))))))))))) (And.intro (fun c2 => Exists.intro _ (And.intro (tp_wk_rf _) (tp_E_step (And.intro ((h.2 c1).2.2.2.2.1 c2).1 (And.intro ((h.2 c1).2.2.2.2.1 c2).2.1 (And.intro ((h.2 c1).2.2.2.2.1 c2).2.2.1 (tp_Em ((h.2 c1).2.2.2.2.1 c2).2.2.2 (fun r104 σ104 h104 => And.intro h104.1 (And.intro h104.2.1 (And.intro h104.2.2.1 (tp_Em h104.2.2.2 (fun r105 σ105 h105 => And.intro (fun c106 => Exists.intro _ (And.intro (tp_wk_rf _) (tp_E_step (Exists.intro [.ref 90, .ref 0, .ref 58, .int (a3 + 6)] (And.intro (And.intro (Or.inr rfl) (And.intro (Or.inr rfl) (And.intro (Or.inr rfl) (And.intro (Or.inr rfl) (trivial))))) (h105.1 c106)))))) (fun c106 => And.intro rfl (h105.2 c106)))))))))))))) (And.intro (fun c2 => Exists.intro _ (And.intro (tp_wk_rf _) (tp_E_step (And.intro ((h.2 c1).2.2.2.2.2.1 c2).1 (And.intro ((h.2 c1).2.2.2.2.2.1 c2).2.1 (And.intro (fun c91 => Exists.intro _ (And.intro (tp_wk_rf _) (tp_E_step (Exists.intro _ (And.intro (tp_wk_rf _) (tp_E_step (tp_Em (((h.2 c1).2.2.2.2.2.1 c2).2.2.1 c91) (fun r92 σ92 h92 => And.intro h92.1 (And.intro h92.2.1 (And.intro (fun c93 => Exists.intro _ (And.intro (tp_wk_rf _) (tp_E_step (Exists.intro _ (And.intro (tp_wk_rf _) (tp_E_step (tp_Em (h92.2.2.1 c93) (fun r94 σ94 h94 => And.intro (fun c95 => Exists.intro _ (And.intro (tp_wk_rf _) (tp_E_step (Exists.intro [.ref 90, .ref 0, .ref 58, .int (a3 + 6)] (And.intro (And.intro (Or.inr rfl) (And.intro (Or.inr rfl) (And.intro (Or.inr rfl) (And.intro (Or.inr rfl) (trivial))))) (h94.1 c95)))))) (fun c95 => And.intro rfl (h94.2 c95)))))))))) (fun c93 => Exists.intro _ (And.intro (tp_wk_rf _) (tp_E_step (tp_Em (h92.2.2.2 c93) (fun r96 σ96 h96 => And.intro (fun c97 => Exists.intro _ (And.intro (tp_wk_rf _) (tp_E_step (Exists.intro [.ref 90, .ref 0, .ref 58, .int (a3 + 6)] (And.intro (And.intro (Or.inr rfl) (And.intro (Or.inr rfl) (And.intro (Or.inr rfl) (And.intro (Or.inr rfl) (trivial))))) (h96.1 c97)))))) (fun c97 => And.intro rfl (h96.2 c97))))))))))))))))) (fun c91 => Exists.intro _ (And.intro (tp_wk_rf _) (tp_E_step (tp_Em (((h.2 c1).2.2.2.2.2.1 c2).2.2.2 c91) (fun r98 σ98 h98 => And.intro h98.1 (And.intro h98.2.1 (And.intro (fun c99 => Exists.intro _ (And.intro (tp_wk_rf _) (tp_E_step (Exists.intro _ (And.intro (tp_wk_rf _) (tp_E_step (tp_Em (h98.2.2.1 c99) (fun r100 σ100 h100 => And.intro (fun c101 => Exists.intro _ (And.intro (tp_wk_rf _) (tp_E_step (Exists.intro [.ref 90, .ref 0, .ref 58, .int (a3 + 6)] (And.intro (And.intro (Or.inr rfl) (And.intro (Or.inr rfl) (And.intro (Or.inr rfl) (And.intro (Or.inr rfl) (trivial))))) (h100.1 c101)))))) (fun c101 => And.intro rfl (h100.2 c101)))))))))) (fun c99 => Exists.intro _ (And.intro (tp_wk_rf _) (tp_E_step (tp_Em (h98.2.2.2 c99) (fun r102 σ102 h102 => And.intro (fun c103 => Exists.intro _ (And.intro (tp_wk_rf _) (tp_E_step (Exists.intro [.ref 90, .ref 0, .ref 58, .int (a3 + 6)] (And.intro (And.intro (Or.inr rfl) (And.intro (Or.inr rfl) (And.intro (Or.inr rfl) (And.intro (Or.inr rfl) (trivial))))) (h102.1 c103)))))) (fun c103 => And.intro rfl (h102.2 c103)))))))))))))))))))) (And.intro (fun c2 => Exists.intro _ (And.intro (tp_wk_rf _) (tp_E_step (And.intro ((h.2 c1).2.2.2.2.2.2.1 c2).1 (tp_Em ((h.2 c1).2.2.2.2.2.2.1 c2).2 (fun r88 σ88 h88 => And.intro h88.1 (tp_Em h88.2 (fun r89 σ89 h89 => And.intro (fun c90 => Exists.intro _ (And.intro (tp_wk_rf _) (tp_E_step (Exists.intro [.ref 90, .ref 0, .ref 58, .int (a3 + 6)] (And.intro (And.intro (Or.inr rfl) (And.intro (Or.inr rfl) (And.intro (Or.inr rfl) (And.intro (Or.inr rfl) (trivial))))) (h89.1 c90)))))) (fun c90 => And.intro rfl (h89.2 c90)))))))))) (And.intro (fun c2 => Exists.intro _ (And.intro (tp_wk_rf _) (tp_E_step (And.intro ((h.2 c1).2.2.2.2.2.2.2.1 c2).1 (And.intro ((h.2 c1).2.2.2.2.2.2.2.1 c2).2.1 (And.intro ((h.2 c1).2.2.2.2.2.2.2.1 c2).2.2.1 (tp_Em ((h.2 c1).2.2.2.2.2.2.2.1 c2).2.2.2 (fun r85 σ85 h85 => And.intro h85.1 (And.intro h85.2.1 (And.intro h85.2.2.1 (tp_Em h85.2.2.2 (fun r86 σ86 h86 => And.intro (fun c87 => Exists.intro _ (And.intro (tp_wk_rf _) (tp_E_step (Exists.intro [.ref 90, .ref 0, .ref 58, .int (a3 + 6)] (And.intro (And.intro (Or.inr rfl) (And.intro (Or.inr rfl) (And.intro (Or.inr rfl) (And.intro (Or.inr rfl) (trivial))))) (h86.1 c87)))))) (fun c87 => And.intro rfl (h86.2 c87)))))))))))))) (And.intro (fun c2 => Exists.intro _ (And.intro (tp_wk_rf _) (tp_E_step (tp_Em ((h.2 c1).2.2.2.2.2.2.2.2.1 c2) (fun r82 σ82 h82 => tp_Em h82 (fun r83 σ83 h83 => And.intro (fun c84 => Exists.intro _ (And.intro (tp_wk_rf _) (tp_E_step (Exists.intro [.ref 90, .ref 0, .ref 58, .int (a3 + 6)] (And.intro (And.intro (Or.inr rfl) (And.intro (Or.inr rfl) (And.intro (Or.inr rfl) (And.intro (Or.inr rfl) (trivial))))) (h83.1 c84)))))) (fun c84 => And.intro rfl (h83.2 c84)))))))) (And.intro (fun c2 => Exists.intro _ (And.intro (tp_wk_rf _) (tp_E_step (And.intro ((h.2 c1).2.2.2.2.2.2.2.2.2.1 c2).1 (And.intro ((h.2 c1).2.2.2.2.2.2.2.2.2.1 c2).2.1 (And.intro ((h.2 c1).2.2.2.2.2.2.2.2.2.1 c2).2.2.1 (tp_Em ((h.2 c1).2.2.2.2.2.2.2.2.2.1 c2).2.2.2 (fun r79 σ79 h79 => And.intro h79.1 (And.intro h79.2.1 (And.intro h79.2.2.1 (tp_Em h79.2.2.2 (fun r80 σ80 h80 => And.intro (fun c81 => Exists.intro _ (And.intro (tp_wk_rf _) (tp_E_step (Exists.intro [.ref 90, .ref 0, .ref 58, .int (a3 + 6)] (And.intro (And.intro (Or.inr rfl) (And.intro (Or.inr rfl) (And.intro (Or.inr rfl) (And.intro (Or.inr rfl) (trivial))))) (h80.1 c81)))))) (fun c81 => And.intro rfl (h80.2 c81)))))))))))))) (And.intro (fun c2 => Exists.intro _ (And.intro (tp_wk_rf _) (tp_E_step (And.intro ((h.2 c1).2.2.2.2.2.2.2.2.2.2.1 c2).1 (And.intro ((h.2 c1).2.2.2.2.2.2.2.2.2.2.1 c2).2.1 (And.intro ((h.2 c1).2.2.2.2.2.2.2.2.2.2.1 c2).2.2.1 (tp_Em ((h.2 c1).2.2.2.2.2.2.2.2.2.2.1 c2).2.2.2 (fun r76 σ76 h76 => And.intro h76.1 (And.intro h76.2.1 (And.intro h76.2.2.1 (tp_Em h76.2.2.2 (fun r77 σ77 h77 => And.intro (fun c78 => Exists.intro _ (And.intro (tp_wk_rf _) (tp_E_step (Exists.intro [.ref 90, .ref 0, .ref 58, .int (a3 + 6)] (And.intro (And.intro (Or.inr rfl) (And.intro (Or.inr rfl) (And.intro (Or.inr rfl) (And.intro (Or.inr rfl) (trivial))))) (h77.1 c78)))))) (fun c78 => And.intro rfl (h77.2 c78)))))))))))))) (And.intro (fun c2 => Exists.intro _ (And.intro (tp_wk_rf _) (tp_E_step (And.intro ((h.2 c1).2.2.2.2.2.2.2.2.2.2.2.1 c2).1 (And.intro ((h.2 c1).2.2.2.2.2.2.2.2.2.2.2.1 c2).2.1 (And.intro ((h.2 c1).2.2.2.2.2.2.2.2.2.2.2.1 c2).2.2.1 (And.intro ((h.2 c1).2.2.2.2.2.2.2.2.2.2.2.1 c2).2.2.2.1 (And.intro ((h.2 c1).2.2.2.2.2.2.2.2.2.2.2.1 c2).2.2.2.2.1 (tp_Em ((h.2 c1).2.2.2.2.2.2.2.2.2.2.2.1 c2).2.2.2.2.2 (fun r73 σ73 h73 => And.intro h73.1 (And.intro h73.2.1 (And.intro h73.2.2.1 (And.intro h73.2.2.2.1 (And.intro h73.2.2.2.2.1 (tp_Em h73.2.2.2.2.2 (fun r74 σ74 h74 => And.intro (fun c75 => Exists.intro _ (And.intro (tp_wk_rf _) (tp_E_step (Exists.intro [.ref 90, .ref 0, .ref 58, .int (a3 + 6)] (And.intro (And.intro (Or.inr rfl) (And.intro (Or.inr rfl) (And.intro (Or.inr rfl) (And.intro (Or.inr rfl) (trivial))))) (h74.1 c75)))))) (fun c75 => And.intro rfl (h74.2 c75)))))))))))))))))) (And.intro (fun c2 => Exists.intro _ (And.intro (tp_wk_rf _) (tp_E_step (And.intro ((h.2 c1).2.2.2.2.2.2.2.2.2.2.2.2.1 c2).1 (And.intro ((h.2 c1).2.2.2.2.2.2.2.2.2.2.2.2.1 c2).2.1 (And.intro ((h.2 c1).2.2.2.2.2.2.2.2.2.2.2.2.1 c2).2.2.1 (tp_Em ((h.2 c1).2.2.2.2.2.2.2.2.2.2.2.2.1 c2).2.2.2 (fun r70 σ70 h70 => And.intro h70.1 (And.intro h70.2.1 (And.intro h70.2.2.1 (tp_Em h70.2.2.2 (fun r71 σ71 h71 => And.intro (fun c72 => Exists.intro _ (And.intro (tp_wk_rf _) (tp_E_step (Exists.intro [.ref 90, .ref 0, .ref 58, .int (a3 + 6)] (And.intro (And.intro (Or.inr rfl) (And.intro (Or.inr rfl) (And.intro (Or.inr rfl) (And.intro (Or.inr rfl) (trivial))))) (h71.1 c72)))))) (fun c72 => And.intro rfl (h71.2 c72)))))))))))))) (And.intro (fun c2 => Exists.intro _ (And.intro (tp_wk_rf _) (tp_E_step (And.intro ((h.2 c1).2.2.2.2.2.2.2.2.2.2.2.2.2.1 c2).1 (tp_Em ((h.2 c1).2.2.2.2.2.2.2.2.2.2.2.2.2.1 c2).2 (fun r67 σ67 h67 => And.intro h67.1 (tp_Em h67.2 (fun r68 σ68 h68 => And.intro (fun c69 => Exists.intro _ (And.intro (tp_wk_rf _) (tp_E_step (Exists.intro [.ref 90, .ref 0, .ref 58, .int (a3 + 6)] (And.intro (And.intro (Or.inr rfl) (And.intro (Or.inr rfl) (And.intro (Or.inr rfl) (And.intro (Or.inr rfl) (trivial))))) (h68.1 c69)))))) (fun c69 => And.intro rfl (h68.2 c69)))))))))) (And.intro (fun c2 => Exists.intro _ (And.intro (tp_wk_rf _) (tp_E_step (And.intro ((h.2 c1).2.2.2.2.2.2.2.2.2.2.2.2.2.2.1 c2).1 (And.intro ((h.2 c1).2.2.2.2.2.2.2.2.2.2.2.2.2.2.1 c2).2.1 (tp_Em ((h.2 c1).2.2.2.2.2.2.2.2.2.2.2.2.2.2.1 c2).2.2 (fun r64 σ64 h64 => And.intro h64.1 (And.intro h64.2.1 (tp_Em h64.2.2 (fun r65 σ65 h65 => And.intro (fun c66 => Exists.intro _ (And.intro (tp_wk_rf _) (tp_E_step (Exists.intro [.ref 90, .ref 0, .ref 58, .int (a3 + 6)] (And.intro (And.intro (Or.inr rfl) (And.intro (Or.inr rfl) (And.intro (Or.inr rfl) (And.intro (Or.inr rfl) (trivial))))) (h65.1 c66)))))) (fun c66 => And.intro rfl (h65.2 c66)))))))))))) (And.intro (fun c2 => Exists.intro _ (And.intro (tp_wk_rf _) (tp_E_step (And.intro ((h.2 c1).2.2.2.2.2.2.2.2.2.2.2.2.2.2.2.1 c2).1 (And.intro ((h.2 c1).2.2.2.2.2.2.2.2.2.2.2.2.2.2.2.1 c2).2.1 (And.intro ((h.2 c1).2.2.2.2.2.2.2.2.2.2.2.2.2.2.2.1 c2).2.2.1 (tp_Em ((h.2 c1).2.2.2.2.2.2.2.2.2.2.2.2.2.2.2.1 c2).2.2.2 (fun r61 σ61 h61 => And.intro h61.1 (And.intro h61.2.1 (And.intro h61.2.2.1 (tp_Em h61.2.2.2 (fun r62 σ62 h62 => And.intro (fun c63 => Exists.intro _ (And.intro (tp_wk_rf _) (tp_E_step (Exists.intro [.ref 90, .ref 0, .ref 58, .int (a3 + 6)] (And.intro (And.intro (Or.inr rfl) (And.intro (Or.inr rfl) (And.intro (Or.inr rfl) (And.intro (Or.inr rfl) (trivial))))) (h62.1 c63)))))) (fun c63 => And.intro rfl (h62.2 c63)))))))))))))) (And.intro (fun c2 => Exists.intro _ (And.intro (tp_wk_rf _) (tp_E_step (And.intro ((h.2 c1).2.2.2.2.2.2.2.2.2.2.2.2.2.2.2.2.1 c2).1 (And.intro (fun c48 => Exists.intro _ (And.intro (tp_wk_rf _) (tp_E_step (Exists.intro _ (And.intro (tp_wk_rf _) (tp_E_step (And.intro (((h.2 c1).2.2.2.2.2.2.2.2.2.2.2.2.2.2.2.2.1 c2).2.1 c48).1 (And.intro (((h.2 c1).2.2.2.2.2.2.2.2.2.2.2.2.2.2.2.2.1 c2).2.1 c48).2.1 (tp_Em (((h.2 c1).2.2.2.2.2.2.2.2.2.2.2.2.2.2.2.2.1 c2).2.1 c48).2.2 (fun r49 σ49 h49 => And.intro h49.1 (And.intro (fun c50 => Exists.intro _ (And.intro (tp_wk_rf _) (tp_E_step (Exists.intro _ (And.intro (tp_wk_rf _) (tp_E_step (And.intro (h49.2.1 c50).1 (And.intro (h49.2.1 c50).2.1 (tp_Em (h49.2.1 c50).2.2 (fun r51 σ51 h51 => And.intro (fun c52 => Exists.intro _ (And.intro (tp_wk_rf _) (tp_E_step (Exists.intro [.ref 90, .ref 0, .ref 58, .int (a3 + 6)] (And.intro (And.intro (Or.inr rfl) (And.intro (Or.inr rfl) (And.intro (Or.inr rfl) (And.intro (Or.inr rfl) (trivial))))) (h51.1 c52)))))) (fun c52 => And.intro rfl (h51.2 c52)))))))))))) (fun c50 => Exists.intro _ (And.intro (tp_wk_rf _) (tp_E_step (And.intro (h49.2.2 c50).1 (And.intro (h49.2.2 c50).2.1 (tp_Em (h49.2.2 c50).2.2 (fun r53 σ53 h53 => And.intro (fun c54 => Exists.intro _ (And.intro (tp_wk_rf _) (tp_E_step (Exists.intro [.ref 90, .ref 0, .ref 58, .int (a3 + 6)] (And.intro (And.intro (Or.inr rfl) (And.intro (Or.inr rfl) (And.intro (Or.inr rfl) (And.intro (Or.inr rfl) (trivial))))) (h53.1 c54)))))) (fun c54 => And.intro rfl (h53.2 c54)))))))))))))))))))) (fun c48 => Exists.intro _ (And.intro (tp_wk_rf _) (tp_E_step (And.intro (((h.2 c1).2.2.2.2.2.2.2.2.2.2.2.2.2.2.2.2.1 c2).2.2 c48).1 (And.intro (((h.2 c1).2.2.2.2.2.2.2.2.2.2.2.2.2.2.2.2.1 c2).2.2 c48).2.1 (tp_Em (((h.2 c1).2.2.2.2.2.2.2.2.2.2.2.2.2.2.2.2.1 c2).2.2 c48).2.2 (fun r55 σ55 h55 => And.intro h55.1 (And.intro (fun c56 => Exists.intro _ (And.intro (tp_wk_rf _) (tp_E_step (Exists.intro _ (And.intro (tp_wk_rf _) (tp_E_step (And.intro (h55.2.1 c56).1 (And.intro (h55.2.1 c56).2.1 (tp_Em (h55.2.1 c56).2.2 (fun r57 σ57 h57 => And.intro (fun c58 => Exists.intro _ (And.intro (tp_wk_rf _) (tp_E_step (Exists.intro [.ref 90, .ref 0, .ref 58, .int (a3 + 6)] (And.intro (And.intro (Or.inr rfl) (And.intro (Or.inr rfl) (And.intro (Or.inr rfl) (And.intro (Or.inr rfl) (trivial))))) (h57.1 c58)))))) (fun c58 => And.intro rfl (h57.2 c58)))))))))))) (fun c56 => Exists.intro _ (And.intro (tp_wk_rf _) (tp_E_step (And.intro (h55.2.2 c56).1 (And.intro (h55.2.2 c56).2.1 (tp_Em (h55.2.2 c56).2.2 (fun r59 σ59 h59 => And.intro (fun c60 => Exists.intro _ (And.intro (tp_wk_rf _) (tp_E_step (Exists.intro [.ref 90, .ref 0, .ref 58, .int (a3 + 6)] (And.intro (And.intro (Or.inr rfl) (And.intro (Or.inr rfl) (And.intro (Or.inr rfl) (And.intro (Or.inr rfl) (trivial))))) (h59.1 c60)))))) (fun c60 => And.intro rfl (h59.2 c60)))))))))))))))))))))) (And.intro (fun c2 => Exists.intro _ (And.intro (tp_wk_rf _) (tp_E_step (And.intro ((h.2 c1).2.2.2.2.2.2.2.2.2.2.2.2.2.2.2.2.2.1 c2).1 (And.intro ((h.2 c1).2.2.2.2.2.2.2.2.2.2.2.2.2.2.2.2.2.1 c2).2.1 (And.intro ((h.2 c1).2.2.2.2.2.2.2.2.2.2.2.2.2.2.2.2.2.1 c2).2.2.1 (And.intro ((h.2 c1).2.2.2.2.2.2.2.2.2.2.2.2.2.2.2.2.2.1 c2).2.2.2.1 (tp_Em ((h.2 c1).2.2.2.2.2.2.2.2.2.2.2.2.2.2.2.2.2.1 c2).2.2.2.2 (fun r45 σ45 h45 => And.intro h45.1 (And.intro h45.2.1 (And.intro h45.2.2.1 (And.intro h45.2.2.2.1 (tp_Em h45.2.2.2.2 (fun r46 σ46 h46 => And.intro (fun c47 => Exists.intro _ (And.intro (tp_wk_rf _) (tp_E_step (Exists.intro [.ref 90, .ref 0, .ref 58, .int (a3 + 6)] (And.intro (And.intro (Or.inr rfl) (And.intro (Or.inr rfl) (And.intro (Or.inr rfl) (And.intro (Or.inr rfl) (trivial))))) (h46.1 c47)))))) (fun c47 => And.intro rfl (h46.2 c47)))))))))))))))) (And.intro (fun c2 => Exists.intro _ (And.intro (tp_wk_rf _) (tp_E_step (And.intro ((h.2 c1).2.2.2.2.2.2.2.2.2.2.2.2.2.2.2.2.2.2.1 c2).1 (And.intro ((h.2 c1).2.2.2.2.2.2.2.2.2.2.2.2.2.2.2.2.2.2.1 c2).2.1 (And.intro ((h.2 c1).2.2.2.2.2.2.2.2.2.2.2.2.2.2.2.2.2.2.1 c2).2.2.1 (tp_Em ((h.2 c1).2.2.2.2.2.2.2.2.2.2.2.2.2.2.2.2.2.2.1 c2).2.2.2 (fun r42 σ42 h42 => And.intro h42.1 (And.intro h42.2.1 (And.intro h42.2.2.1 (tp_Em h42.2.2.2 (fun r43 σ43 h43 => And.intro (fun c44 => Exists.intro _ (And.intro (tp_wk_rf _) (tp_E_step (Exists.intro [.ref 90, .ref 0, .ref 58, .int (a3 + 6)] (And.intro (And.intro (Or.inr rfl) (And.intro (Or.inr rfl) (And.intro (Or.inr rfl) (And.intro (Or.inr rfl) (trivial))))) (h43.1 c44)))))) (fun c44 => And.intro rfl (h43.2 c44)))))))))))))) (And.intro (fun c2 => Exists.intro _ (And.intro (tp_wk_rf _) (tp_E_step (And.intro ((h.2 c1).2.2.2.2.2.2.2.2.2.2.2.2.2.2.2.2.2.2.2.1 c2).1 (tp_Em ((h.2 c1).2.2.2.2.2.2.2.2.2.2.2.2.2.2.2.2.2.2.2.1 c2).2 (fun r39 σ39 h39 => And.intro h39.1 (tp_Em h39.2 (fun r40 σ40 h40 => And.intro (fun c41 => Exists.intro _ (And.intro (tp_wk_rf _) (tp_E_step (Exists.intro [.ref 90, .ref 0, .ref 58, .int (a3 + 6)] (And.intro (And.intro (Or.inr rfl) (And.intro (Or.inr rfl) (And.intro (Or.inr rfl) (And.intro (Or.inr rfl) (trivial))))) (h40.1 c41)))))) (fun c41 => And.intro rfl (h40.2 c41)))))))))) (And.intro (fun c2 => Exists.intro _ (And.intro (tp_wk_rf _) (tp_E_step (And.intro ((h.2 c1).2.2.2.2.2.2.2.2.2.2.2.2.2.2.2.2.2.2.2.2.1 c2).1 (And.intro ((h.2 c1).2.2.2.2.2.2.2.2.2.2.2.2.2.2.2.2.2.2.2.2.1 c2).2.1 (tp_Em ((h.2 c1).2.2.2.2.2.2.2.2.2.2.2.2.2.2.2.2.2.2.2.2.1 c2).2.2 (fun r36 σ36 h36 => And.intro h36.1 (And.intro h36.2.1 (tp_Em h36.2.2 (fun r37 σ37 h37 => And.intro (fun c38 => Exists.intro _ (And.intro (tp_wk_rf _) (tp_E_step (Exists.intro [.ref 90, .ref 0, .ref 58, .int (a3 + 6)] (And.intro (And.intro (Or.inr rfl) (And.intro (Or.inr rfl) (And.intro (Or.inr rfl) (And.intro (Or.inr rfl) (trivial))))) (h37.1 c38)))))) (fun c38 => And.intro rfl (h37.2 c38)))))))))))) (And.intro (fun c2 => Exists.intro _ (And.intro (tp_wk_rf _) (tp_E_step (And.intro ((h.2 c1).2.2.2.2.2.2.2.2.2.2.2.2.2.2.2.2.2.2.2.2.2.1 c2).1 (tp_Em ((h.2 c1).2.2.2.2.2.2.2.2.2.2.2.2.2.2.2.2.2.2.2.2.2.1 c2).2 (fun r33 σ33 h33 => And.intro h33.1 (tp_Em h33.2 (fun r34 σ34 h34 => And.intro (fun c35 => Exists.intro _ (And.intro (tp_wk_rf _) (tp_E_step (Exists.intro [.ref 90, .ref 0, .ref 58, .int (a3 + 6)] (And.intro (And.intro (Or.inr rfl) (And.intro (Or.inr rfl) (And.intro (Or.inr rfl) (And.intro (Or.inr rfl) (trivial))))) (h34.1 c35)))))) (fun c35 => And.intro rfl (h34.2 c35)))))))))) (And.intro (fun c2 => Exists.intro _ (And.intro (tp_wk_rf _) (tp_E_step (tp_Em ((h.2 c1).2.2.2.2.2.2.2.2.2.2.2.2.2.2.2.2.2.2.2.2.2.2.1 c2) (fun r30 σ30 h30 => tp_Em h30 (fun r31 σ31 h31 => And.intro (fun c32 => Exists.intro _ (And.intro (tp_wk_rf _) (tp_E_step (Exists.intro [.ref 90, .ref 0, .ref 58, .int (a3 + 6)] (And.intro (And.intro (Or.inr rfl) (And.intro (Or.inr rfl) (And.intro (Or.inr rfl) (And.intro (Or.inr rfl) (trivial))))) (h31.1 c32)))))) (fun c32 => And.intro rfl (h31.2 c32)))))))) (And.intro (fun c2 => Exists.intro _ (And.intro (tp_wk_rf _) (tp_E_step (tp_Em ((h.2 c1).2.2.2.2.2.2.2.2.2.2.2.2.2.2.2.2.2.2.2.2.2.2.2.1 c2) (fun r27 σ27 h27 => tp_Em h27 (fun r28 σ28 h28 => And.intro (fun c29 => Exists.intro _ (And.intro (tp_wk_rf _) (tp_E_step (Exists.intro [.ref 90, .ref 0, .ref 58, .int (a3 + 6)] (And.intro (And.intro (Or.inr rfl) (And.intro (Or.inr rfl) (And.intro (Or.inr rfl) (And.intro (Or.inr rfl) (trivial))))) (h28.1 c29)))))) (fun c29 => And.intro rfl (h28.2 c29)))))))) (And.intro (fun c2 => Exists.intro _ (And.intro (tp_wk_rf _) (tp_E_step (And.intro ((h.2 c1).2.2.2.2.2.2.2.2.2.2.2.2.2.2.2.2.2.2.2.2.2.2.2.2.1 c2).1 (And.intro ((h.2 c1).2.2.2.2.2.2.2.2.2.2.2.2.2.2.2.2.2.2.2.2.2.2.2.2.1 c2).2.1 (tp_Em ((h.2 c1).2.2.2.2.2.2.2.2.2.2.2.2.2.2.2.2.2.2.2.2.2.2.2.2.1 c2).2.2 (fun r24 σ24 h24 => And.intro h24.1 (And.intro h24.2.1 (tp_Em h24.2.2 (fun r25 σ25 h25 => And.intro (fun c26 => Exists.intro _ (And.intro (tp_wk_rf _) (tp_E_step (Exists.intro [.ref 90, .ref 0, .ref 58, .int (a3 + 6)] (And.intro (And.intro (Or.inr rfl) (And.intro (Or.inr rfl) (And.intro (Or.inr rfl) (And.intro (Or.inr rfl) (trivial))))) (h25.1 c26)))))) (fun c26 => And.intro rfl (h25.2 c26)))))))))))) (And.intro (fun c2 => Exists.intro _ (And.intro (tp_wk_rf _) (tp_E_step (And.intro ((h.2 c1).2.2.2.2.2.2.2.2.2.2.2.2.2.2.2.2.2.2.2.2.2.2.2.2.2.1 c2).1 (And.intro ((h.2 c1).2.2.2.2.2.2.2.2.2.2.2.2.2.2.2.2.2.2.2.2.2.2.2.2.2.1 c2).2.1 (tp_Em ((h.2 c1).2.2.2.2.2.2.2.2.2.2.2.2.2.2.2.2.2.2.2.2.2.2.2.2.2.1 c2).2.2 (fun r21 σ21 h21 => And.intro h21.1 (And.intro h21.2.1 (tp_Em h21.2.2 (fun r22 σ22 h22 => And.intro (fun c23 => Exists.intro _ (And.intro (tp_wk_rf _) (tp_E_step (Exists.intro [.ref 90, .ref 0, .ref 58, .int (a3 + 6)] (And.intro (And.intro (Or.inr rfl) (And.intro (Or.inr rfl) (And.intro (Or.inr rfl) (And.intro (Or.inr rfl) (trivial))))) (h22.1 c23)))))) (fun c23 => And.intro rfl (h22.2 c23)))))))))))) (And.intro (fun c2 => Exists.intro _ (And.intro (tp_wk_rf _) (tp_E_step (And.intro ((h.2 c1).2.2.2.2.2.2.2.2.2.2.2.2.2.2.2.2.2.2.2.2.2.2.2.2.2.2.1 c2).1 (And.intro ((h.2 c1).2.2.2.2.2.2.2.2.2.2.2.2.2.2.2.2.2.2.2.2.2.2.2.2.2.2.1 c2).2.1 (tp_Em ((h.2 c1).2.2.2.2.2.2.2.2.2.2.2.2.2.2.2.2.2.2.2.2.2.2.2.2.2.2.1 c2).2.2 (fun r18 σ18 h18 => And.intro h18.1 (And.intro h18.2.1 (tp_Em h18.2.2 (fun r19 σ19 h19 => And.intro (fun c20 => Exists.intro _ (And.intro (tp_wk_rf _) (tp_E_step (Exists.intro [.ref 90, .ref 0, .ref 58, .int (a3 + 6)] (And.intro (And.intro (Or.inr rfl) (And.intro (Or.inr rfl) (And.intro (Or.inr rfl) (And.intro (Or.inr rfl) (trivial))))) (h19.1 c20)))))) (fun c20 => And.intro rfl (h19.2 c20)))))))))))) (And.intro (fun c2 => Exists.intro _ (And.intro (tp_wk_rf _) (tp_E_step (And.intro ((h.2 c1).2.2.2.2.2.2.2.2.2.2.2.2.2.2.2.2.2.2.2.2.2.2.2.2.2.2.2.1 c2).1 (tp_Em ((h.2 c1).2.2.2.2.2.2.2.2.2.2.2.2.2.2.2.2.2.2.2.2.2.2.2.2.2.2.2.1 c2).2 (fun r15 σ15 h15 => And.intro h15.1 (tp_Em h15.2 (fun r16 σ16 h16 => And.intro (fun c17 => Exists.intro _ (And.intro (tp_wk_rf _) (tp_E_step (Exists.intro [.ref 90, .ref 0, .ref 58, .int (a3 + 6)] (And.intro (And.intro (Or.inr rfl) (And.intro (Or.inr rfl) (And.intro (Or.inr rfl) (And.intro (Or.inr rfl) (trivial))))) (h16.1 c17)))))) (fun c17 => And.intro rfl (h16.2 c17)))))))))) (And.intro (fun c2 => Exists.intro _ (And.intro (tp_wk_rf _) (tp_E_step (And.intro ((h.2 c1).2.2.2.2.2.2.2.2.2.2.2.2.2.2.2.2.2.2.2.2.2.2.2.2.2.2.2.2.1 c2).1 (tp_Em ((h.2 c1).2.2.2.2.2.2.2.2.2.2.2.2.2.2.2.2.2.2.2.2.2.2.2.2.2.2.2.2.1 c2).2 (fun r12 σ12 h12 => And.intro h12.1 (tp_Em h12.2 (fun r13 σ13 h13 => And.intro (fun c14 => Exists.intro _ (And.intro (tp_wk_rf _) (tp_E_step (Exists.intro [.ref 90, .ref 0, .ref 58, .int (a3 + 6)] (And.intro (And.intro (Or.inr rfl) (And.intro (Or.inr rfl) (And.intro (Or.inr rfl) (And.intro (Or.inr rfl) (trivial))))) (h13.1 c14)))))) (fun c14 => And.intro rfl (h13.2 c14)))))))))) (And.intro (fun c2 => Exists.intro _ (And.intro (tp_wk_rf _) (tp_E_step (And.intro ((h.2 c1).2.2.2.2.2.2.2.2.2.2.2.2.2.2.2.2.2.2.2.2.2.2.2.2.2.2.2.2.2.1 c2).1 (tp_Em ((h.2 c1).2.2.2.2.2.2.2.2.2.2.2.2.2.2.2.2.2.2.2.2.2.2.2.2.2.2.2.2.2.1 c2).2 (fun r9 σ9 h9 => And.intro h9.1 (tp_Em h9.2 (fun r10 σ10 h10 => And.intro (fun c11 => Exists.intro _ (And.intro (tp_wk_rf _) (tp_E_step (Exists.intro [.ref 90, .ref 0, .ref 58, .int (a3 + 6)] (And.intro (And.intro (Or.inr rfl) (And.intro (Or.inr rfl) (And.intro (Or.inr rfl) (And.intro (Or.inr rfl) (trivial))))) (h10.1 c11)))))) (fun c11 => And.intro rfl (h10.2 c11)))))))))) (And.intro (fun c2 => Exists.intro _ (And.intro (tp_wk_rf _) (tp_E_step (And.intro ((h.2 c1).2.2.2.2.2.2.2.2.2.2.2.2.2.2.2.2.2.2.2.2.2.2.2.2.2.2.2.2.2.2.1 c2).1 (tp_Em ((h.2 c1).2.2.2.2.2.2.2.2.2.2.2.2.2.2.2.2.2.2.2.2.2.2.2.2.2.2.2.2.2.2.1 c2).2 (fun r6 σ6 h6 => And.intro h6.1 (tp_Em h6.2 (fun r7 σ7 h7 => And.intro (fun c8 => Exists.intro _ (And.intro (tp_wk_rf _) (tp_E_step (Exists.intro [.ref 90, .ref 0, .ref 58, .int (a3 + 6)] (And.intro (And.intro (Or.inr rfl) (And.intro (Or.inr rfl) (And.intro (Or.inr rfl) (And.intro (Or.inr rfl) (trivial))))) (h7.1 c8)))))) (fun c8 => And.intro rfl (h7.2 c8)))))))))) (And.intro (fun c2 => Exists.intro _ (And.intro (tp_wk_rf _) (tp_E_step (And.intro ((h.2 c1).2.2.2.2.2.2.2.2.2.2.2.2.2.2.2.2.2.2.2.2.2.2.2.2.2.2.2.2.2.2.2 c2).1 (tp_Em ((h.2 c1).2.2.2.2.2.2.2.2.2.2.2.2.2.2.2.2.2.2.2.2.2.2.2.2.2.2.2.2.2.2.2 c2).2 (fun r3 σ3 h3 => And.intro h3.1 (tp_Em h3.2 (fun r4 σ4 h4 => And.intro (fun c5 => Exists.intro _ (And.intro (tp_wk_rf _) (tp_E_step (Exists.intro [.ref 90, .ref 0, .ref 58, .int (a3 + 6)] (And.intro (And.intro (Or.inr rfl) (And.intro (Or.inr rfl) (And.intro (Or.inr rfl) (And.intro (Or.inr rfl) (trivial))))) (h4.1 c5)))))) (fun c5 => And.intro rfl (h4.2 c5)))))))))) (trivial))))))))))))))))))))))))))))))))))
