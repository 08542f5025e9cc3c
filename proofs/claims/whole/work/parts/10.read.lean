theorem tp_Em {i pc : Nat} {L st : List Value} {σ : tp_St} {p p' : Int32 → tp_St → Prop} (h : tp_E i pc L st σ p) (hp : ∀ r σ, p r σ → p' r σ) : tp_E i pc L st σ p' := tp_E_mono i pc L st σ p p' hp h
theorem tp_rk46 {j : Int32} (h : vp_in j 6) : tp_kd (46 + j.toNatClampNeg) = 20 ∧ tp_ln (46 + j.toNatClampNeg) = 5 := by
  obtain ⟨k, hk, rfl⟩ := vp_in_of h (by decide)
  rw [nI_clamp (by omega)]
  exact (by decide +kernel : ∀ k, k < 6 → tp_kd (46 + k) = 20 ∧ tp_ln (46 + k) = 5) k hk
theorem tp_rk52 {j : Int32} (h : vp_in j 6) : tp_kd (52 + j.toNatClampNeg) = 20 ∧ tp_ln (52 + j.toNatClampNeg) = 5 := by
  obtain ⟨k, hk, rfl⟩ := vp_in_of h (by decide)
  rw [nI_clamp (by omega)]
  exact (by decide +kernel : ∀ k, k < 6 → tp_kd (52 + k) = 20 ∧ tp_ln (52 + k) = 5) k hk
theorem tp_rw {o n mid : Nat} {t : Int32} {σ : tp_St} {P : Prop} (hk : tp_kd o = 20 ∧ tp_ln o = n) (h : vp_in t n ∧ P) : tp_chk (tp_kd o == 20 || (tp_kd o == 27 || (tp_kd o == 26 && mid == tp_law))) (vp_in t (tp_len σ o) ∧ P) := by
  obtain ⟨hk, rfl⟩ := hk
  simp only [hk, tp_len]
  exact h
theorem tp_rs {o n : Nat} {t : Int32} {P : Prop} (hk : tp_kd o = 20 ∧ tp_ln o = n) (h : vp_in t n ∧ P) : tp_chk (tp_kd o == 20) (vp_in t (tp_ln o) ∧ P) := by
  obtain ⟨hk, rfl⟩ := hk
  simp only [hk]
  exact h

/-- X10_sell (III)I, 0 -/
theorem sg_112_0 {post : Int32 → tp_St → Prop} {σ : tp_St} (a1 : Int32) (a2 : Int32) (a3 : Int32)  (h : tp_E 107 0 [.ref 58, .int a1] [] σ (fun r1 σ1 =>
(r1 = 0 →
post (-1) σ1) ∧ (¬ r1 = 0 →
tp_E 101 0 [.long (a2).toInt64, .null, .long (Int64.ofNat 0), .null, .long (((σ1.1 58 0) - 1)).toInt64, .null] [] σ1 (fun r2 σ2 =>
(r2 = 0 →
post (-1) σ2) ∧ (¬ r2 = 0 →
tp_E 101 0 [.long (a3).toInt64, .null, .long (Int64.ofNat 0), .null, .long (Int64.ofNat 9), .null] [] σ2 (fun r3 σ3 =>
(r3 = 0 →
post (-1) σ3) ∧ (¬ r3 = 0 →
vp_in a1 16 ∧
((σ3.1 65 (a1).toNatClampNeg) = 0 →
post (-2) σ3) ∧ (¬ (σ3.1 65 (a1).toNatClampNeg) = 0 →
tp_E 110 0 [.ref 58, .int a1, .int a3] [] σ3 (fun r4 σ4 =>
tp_E 111 0 [.ref 58, .int a1, .null, .null] [] σ4 (fun r5 σ5 =>
(r4 < r5 →
post (-2) σ5) ∧ (¬ r4 < r5 →
tp_E 110 0 [.ref 58, .int a1, .int a3] [] σ5 (fun r6 σ6 =>
(r6 = 9 →
post (-2) σ6) ∧ (¬ r6 = 9 →
((σ6.1 58 9) = 200 →
post (-3) σ6) ∧ (¬ (σ6.1 58 9) = 200 →
vp_in a1 16 ∧
vp_in ((5 * (σ6.1 63 (a1).toNatClampNeg)) + a2) 30 ∧
vp_in ((5 * (σ6.1 63 (a1).toNatClampNeg)) + a2) 30 ∧
((σ6.1 61 (((5 * (σ6.1 63 (a1).toNatClampNeg)) + a2)).toNatClampNeg) = (σ6.1 62 (((5 * (σ6.1 63 (a1).toNatClampNeg)) + a2)).toNatClampNeg) →
post (-4) σ6) ∧ (¬ (σ6.1 61 (((5 * (σ6.1 63 (a1).toNatClampNeg)) + a2)).toNatClampNeg) = (σ6.1 62 (((5 * (σ6.1 63 (a1).toNatClampNeg)) + a2)).toNatClampNeg) →
vp_in (σ6.1 58 9) 200 ∧
vp_in (σ6.1 58 9) 200 ∧
vp_in (σ6.1 58 9) 200 ∧
vp_in ((5 * (σ6.1 63 (a1).toNatClampNeg)) + a2) 30 ∧
vp_in (σ6.1 58 9) 200 ∧
vp_in ((5 * (σ6.1 63 (a1).toNatClampNeg)) + a2) 30 ∧
vp_in ((5 * (σ6.1 63 (a1).toNatClampNeg)) + a2) 30 ∧
vp_in (((σ6.1 58 9) + 1) - 1) 200 ∧
post ((tp_set (tp_set (tp_set (tp_set (tp_set (tp_set σ6 66 ((σ6.1 58 9)).toNatClampNeg a1) 67 ((σ6.1 58 9)).toNatClampNeg a2) 68 ((σ6.1 58 9)).toNatClampNeg a3) 69 ((σ6.1 58 9)).toNatClampNeg (σ6.1 61 (((5 * (σ6.1 63 (a1).toNatClampNeg)) + a2)).toNatClampNeg)) 61 (((5 * (σ6.1 63 (a1).toNatClampNeg)) + a2)).toNatClampNeg ((σ6.1 61 (((5 * (σ6.1 63 (a1).toNatClampNeg)) + a2)).toNatClampNeg) + 1)) 58 9 ((σ6.1 58 9) + 1)).1 69 ((((σ6.1 58 9) + 1) - 1)).toNatClampNeg) (tp_set (tp_set (tp_set (tp_set (tp_set (tp_set σ6 66 ((σ6.1 58 9)).toNatClampNeg a1) 67 ((σ6.1 58 9)).toNatClampNeg a2) 68 ((σ6.1 58 9)).toNatClampNeg a3) 69 ((σ6.1 58 9)).toNatClampNeg (σ6.1 61 (((5 * (σ6.1 63 (a1).toNatClampNeg)) + a2)).toNatClampNeg)) 61 (((5 * (σ6.1 63 (a1).toNatClampNeg)) + a2)).toNatClampNeg ((σ6.1 61 (((5 * (σ6.1 63 (a1).toNatClampNeg)) + a2)).toNatClampNeg) + 1)) 58 9 ((σ6.1 58 9) + 1))))))))))))))))) : tp_E 112 0 [.ref 58, .int a1, .int a2, .int a3, .null] [] σ post := tp_E_step (tp_Em h (fun r1 σ1 h1 => And.intro (fun c4 => Exists.intro _ (And.intro (tp_wk_rf _) (tp_E_step (And.intro rfl (h1.1 c4))))) (fun c4 => tp_Em (h1.2 c4) (fun r2 σ2 h2 => And.intro (fun c5 => Exists.intro _ (And.intro (tp_wk_rf _) (tp_E_step (And.intro rfl (h2.1 c5))))) (fun c5 => tp_Em (h2.2 c5) (fun r3 σ3 h3 => And.intro (fun c6 => Exists.intro _ (And.intro (tp_wk_rf _) (tp_E_step (And.intro rfl (h3.1 c6))))) (fun c6 => Exists.intro _ (And.intro (tp_wk_rf _) (tp_E_step (And.intro (h3.2 c6).1 (And.intro (fun c10 => Exists.intro _ (And.intro (tp_wk_rf _) (tp_E_step (And.intro rfl ((h3.2 c6).2.1 c10))))) (fun c10 => tp_Em ((h3.2 c6).2.2 c10) (fun r7 σ7 h7 => tp_Em h7 (fun r8 σ8 h8 => And.intro (fun c11 => Exists.intro _ (And.intro (tp_wk_rf _) (tp_E_step (And.intro rfl (h8.1 c11))))) (fun c11 => tp_Em (h8.2 c11) (fun r9 σ9 h9 => And.intro (fun c12 => Exists.intro _ (And.intro (tp_wk_rf _) (tp_E_step (And.intro rfl (h9.1 c12))))) (fun c12 => Exists.intro _ (And.intro (tp_wk_rf _) (tp_E_step (And.intro (fun c13 => And.intro rfl ((h9.2 c12).1 c13)) (fun c13 => Exists.intro _ (And.intro (tp_wk_rf _) (tp_E_step (And.intro ((h9.2 c12).2 c13).1 (And.intro ((h9.2 c12).2 c13).2.1 (And.intro ((h9.2 c12).2 c13).2.2.1 (And.intro (fun c14 => And.intro rfl (((h9.2 c12).2 c13).2.2.2.1 c14)) (fun c14 => Exists.intro _ (And.intro (tp_wk_rf _) (tp_E_step (And.intro (((h9.2 c12).2 c13).2.2.2.2 c14).1 (And.intro (((h9.2 c12).2 c13).2.2.2.2 c14).2.1 (And.intro (((h9.2 c12).2 c13).2.2.2.2 c14).2.2.1 (And.intro (((h9.2 c12).2 c13).2.2.2.2 c14).2.2.2.1 (And.intro (((h9.2 c12).2 c13).2.2.2.2 c14).2.2.2.2.1 (And.intro (((h9.2 c12).2 c13).2.2.2.2 c14).2.2.2.2.2.1 (And.intro (((h9.2 c12).2 c13).2.2.2.2 c14).2.2.2.2.2.2.1 (And.intro (((h9.2 c12).2 c13).2.2.2.2 c14).2.2.2.2.2.2.2.1 (And.intro rfl (((h9.2 c12).2 c13).2.2.2.2 c14).2.2.2.2.2.2.2.2)))))))))))))))))))))))))))))))))))))))
