/-! THE WORLD behind both constructors, as the mini machine has it -/
def bg_fw (cs : tp_CS) (r u1 u2 : Nat → Nat) : va_W := [((r 0), .inr (9, [.ref (r 1), .ref (r 4), .ref (r 19), .ref (r 23), .ref (r 28), .ref (r 37), .ref (r 53)])),
  ((r 1), .inr (8, [.ref (r 2), .ref (r 3), .int 0])),
  ((r 4), .inr (2, [.ref (r 5), .ref (r 12)])),
  ((r 19), .inr (7, [.ref (r 20), .ref (r 21), .ref (r 22), .int 0])),
  ((r 23), .inr (4, [.ref (r 24), .ref (r 25), .ref (r 26), .ref (r 27), .int 0])),
  ((r 28), .inl (cs.2.2.2.1, 4, .inr (.inr (.inr (.inr (va_up (va_up (va_up (va_up (fun _ => none) 0 (some (r 29))) 1 (some (r 31))) 2 (some (r 33))) 3 (some (r 35)))))))),
  ((r 37), .inr (0, [.ref (r 38), .ref (r 40), .int 0, .ref (r 46), .ref (r 52), .int 0, .int 0])),
  ((r 53), .inr (3, [.ref (r 54), .ref (r 55), .ref (r 56), .ref (r 57), .int 0, .int 0, .int 30])),
  ((r 2), .inl (cs.1, 5, .inl fun _ => 0)),
  ((r 3), .inl (cs.1, 5, .inl fun _ => 0)),
  ((r 5), .inl (cs.2.2.2.2, 6, .inr (.inr (.inr (.inr (fun i => if i < 6 then some (u1 i) else none)))))),
  ((r 12), .inl (cs.2.2.2.2, 6, .inr (.inr (.inr (.inr (fun i => if i < 6 then some (u2 i) else none)))))),
  ((r 20), .inl (cs.1, 16, .inl fun _ => 0)),
  ((r 21), .inl (cs.2.2.1, 16, .inl fun _ => 0)),
  ((r 22), .inl (cs.2.2.1, 16, .inl fun _ => 0)),
  ((r 24), .inl (cs.1, 200, .inl fun _ => 0)),
  ((r 25), .inl (cs.1, 200, .inl fun _ => 0)),
  ((r 26), .inl (cs.1, 200, .inl fun _ => 0)),
  ((r 27), .inl (cs.1, 200, .inl fun _ => 0)),
  ((r 38), .inr (6, [.ref (r 39), .int 0, .int 0, .int 0, .int 0])),
  ((r 29), .inr (5, [.ref (r 30), .int 0, .int (-1)])),
  ((r 31), .inr (5, [.ref (r 32), .int 0, .int (-1)])),
  ((r 33), .inr (5, [.ref (r 34), .int 0, .int (-1)])),
  ((r 35), .inr (5, [.ref (r 36), .int 0, .int (-1)])),
  ((r 40), .inr (1, [.ref (r 41), .ref (r 42), .ref (r 43), .ref (r 44), .ref (r 45), .int 0, .int 0, .int (-1)])),
  ((r 46), .inr (1, [.ref (r 47), .ref (r 48), .ref (r 49), .ref (r 50), .ref (r 51), .int 0, .int 0, .int (-1)])),
  ((r 52), .inl (cs.1, 3, .inl fun _ => 0)),
  ((r 39), .inl (cs.2.1, 200, .inl fun _ => 0)),
  ((r 54), .inl (cs.1, 10, .inl fun _ => 0)),
  ((r 55), .inl (cs.1, 10, .inl fun _ => 0)),
  ((r 56), .inl (cs.1, 10, .inl fun _ => 0)),
  ((r 57), .inl (cs.1, 10, .inl fun _ => 0)),
  ((r 30), .inl (cs.1, 64, .inl fun _ => 0)),
  ((r 32), .inl (cs.1, 64, .inl fun _ => 0)),
  ((r 34), .inl (cs.1, 64, .inl fun _ => 0)),
  ((r 36), .inl (cs.1, 64, .inl fun _ => 0)),
  ((r 41), .inl (cs.1, 9, .inl fun _ => 0)),
  ((r 42), .inl (cs.1, 9, .inl fun _ => 0)),
  ((r 43), .inl (cs.1, 4, .inl fun _ => 0)),
  ((r 44), .inl (cs.1, 4, .inl fun _ => 0)),
  ((r 45), .inl (cs.1, 4, .inl fun _ => 0)),
  ((r 47), .inl (cs.1, 9, .inl fun _ => 0)),
  ((r 48), .inl (cs.1, 9, .inl fun _ => 0)),
  ((r 49), .inl (cs.1, 4, .inl fun _ => 0)),
  ((r 50), .inl (cs.1, 4, .inl fun _ => 0)),
  ((r 51), .inl (cs.1, 4, .inl fun _ => 0)),
  ((u1 0), .inl (cs.1, 5, .inl fun _ => 0)),
  ((u1 1), .inl (cs.1, 5, .inl fun _ => 0)),
  ((u1 2), .inl (cs.1, 5, .inl fun _ => 0)),
  ((u1 3), .inl (cs.1, 5, .inl fun _ => 0)),
  ((u1 4), .inl (cs.1, 5, .inl fun _ => 0)),
  ((u1 5), .inl (cs.1, 5, .inl fun _ => 0)),
  ((u2 0), .inl (cs.1, 5, .inl fun _ => 0)),
  ((u2 1), .inl (cs.1, 5, .inl fun _ => 0)),
  ((u2 2), .inl (cs.1, 5, .inl fun _ => 0)),
  ((u2 3), .inl (cs.1, 5, .inl fun _ => 0)),
  ((u2 4), .inl (cs.1, 5, .inl fun _ => 0)),
  ((u2 5), .inl (cs.1, 5, .inl fun _ => 0))]
def bg_ad (r u1 u2 : Nat → Nat) (b : Nat) : Nat → Nat := fun o => [(r 0), (r 1), (r 4), (r 19), (r 23), (r 28), (r 37), (r 53), (r 2), (r 3), (r 5), (r 12), (r 20), (r 21), (r 22), (r 24), (r 25), (r 26), (r 27), (r 38), (r 29), (r 31), (r 33), (r 35), (r 40), (r 46), (r 52), (r 39), (r 54), (r 55), (r 56), (r 57), (r 30), (r 32), (r 34), (r 36), (r 41), (r 42), (r 43), (r 44), (r 45), (r 47), (r 48), (r 49), (r 50), (r 51), (u1 0), (u1 1), (u1 2), (u1 3), (u1 4), (u1 5), (u2 0), (u2 1), (u2 2), (u2 3), (u2 4), (u2 5), 0, 0, 0, 0, 0, 0, 0, 0, 0, 0, 0, 0, 0, 0, 0, 0, 0, 0, 0, 0, 0, 0, 0, 0, 0, 0, 0, 0, 0, 0, 0, 0, b].getD o 0
section CTC
variable {D : va_G} {cs : tp_CS} {A : Nat → Prop} {s : State} {H : Heap} {locs : List Loc} {ad : Nat → Nat} {ro : Nat → Nat → Int32} {k a n : Nat}
theorem bg_int (hk : tp_kd k = 20) (hn : tp_ln k = n) (ha : ad k = a) (hz : 8 ≤ k ∧ k < 58 ∧ (k < 20 ∨ 25 < k)) (h : va_at D vwCl (a, .inl (cs.1, n, .inl fun _ => 0)) H) : va_at D vwCl (ad k, tp_cell cs ad (s_i ro) k) H := by
  subst ha
  subst hn
  rw [tp_cell_20 hk, show (s_i ro).1 k = fun _ => 0 from funext fun j => s_i0 (by omega)]
  exact h
theorem bg_byt (hk : tp_kd k = 21) (hn : tp_ln k = n) (ha : ad k = a) (hz : 8 ≤ k ∧ k < 58 ∧ (k < 20 ∨ 25 < k)) (h : va_at D vwCl (a, .inl (cs.2.1, n, .inl fun _ => 0)) H) : va_at D vwCl (ad k, tp_cell cs ad (s_i ro) k) H := by
  subst ha
  subst hn
  rw [tp_cell_21 hk, show (s_i ro).1 k = fun _ => 0 from funext fun j => s_i0 (by omega)]
  exact h
theorem bg_boo (hk : tp_kd k = 22) (hn : tp_ln k = n) (ha : ad k = a) (hz : 8 ≤ k ∧ k < 58 ∧ (k < 20 ∨ 25 < k)) (h : va_at D vwCl (a, .inl (cs.2.2.1, n, .inl fun _ => 0)) H) : va_at D vwCl (ad k, tp_cell cs ad (s_i ro) k) H := by
  subst ha
  subst hn
  rw [tp_cell_22 hk, show (s_i ro).1 k = fun _ => 0 from funext fun j => s_i0 (by omega)]
  exact h
theorem bg_obj {c : Nat} {fs : List Value} (hk : tp_kd k = c) (hc : c < 20) (ha : ad k = a) (hf : tp_fs ad (s_i ro) k = fs) (h : va_at D vwCl (a, .inr (c, fs)) H) : va_at D vwCl (ad k, tp_cell cs ad (s_i ro) k) H := by
  subst ha
  subst hk
  subst hf
  rw [tp_cell_cls hc]
  exact h
theorem bg_shs {f : Nat → Option Nat} (hk : tp_kd k = 23) (hn : tp_ln k = n) (ha : ad k = a) (hf : ∀ j, j < n → f j = some (ad (tp_rr (s_i ro) k j))) (h : va_at D vwCl (a, .inl (cs.2.2.2.1, n, .inr (.inr (.inr (.inr f))))) H) : va_at D vwCl (ad k, tp_cell cs ad (s_i ro) k) H := by
  subst ha
  subst hn
  rw [tp_cell_23 hk]
  have h : H[ad k]? = some (vp_cell cs.2.2.2.1 (tp_ln k, .inr (.inr (.inr (.inr f))))) := h
  show H[ad k]? = some (vp_cell cs.2.2.2.1 (tp_ln k, .inr (.inr (.inr (.inr (fun j => some (ad (tp_rr (s_i ro) k j))))))))
  rw [h, vp_cell_q, vp_cell_q]
  exact congrArg some (ct_arr fun j hj => by rw [hf j hj])
theorem bg_row {f : Nat → Option Nat} (hk : tp_kd k = 24) (hn : tp_ln k = n) (ha : ad k = a) (hf : ∀ j, j < n → f j = some (ad (tp_rr (s_i ro) k j))) (h : va_at D vwCl (a, .inl (cs.2.2.2.2, n, .inr (.inr (.inr (.inr f))))) H) : va_at D vwCl (ad k, tp_cell cs ad (s_i ro) k) H := by
  subst ha
  subst hn
  rw [tp_cell_24 hk]
  have h : H[ad k]? = some (vp_cell cs.2.2.2.2 (tp_ln k, .inr (.inr (.inr (.inr f))))) := h
  show H[ad k]? = some (vp_cell cs.2.2.2.2 (tp_ln k, .inr (.inr (.inr (.inr (fun j => some (ad (tp_rr (s_i ro) k j))))))))
  rw [h, vp_cell_q, vp_cell_q]
  exact congrArg some (ct_arr fun j hj => by rw [hf j hj])
end CTC
set_option maxHeartbeats 4000000 in
set_option maxRecDepth 100000 in
theorem bg_fwW {D : va_G} {cs : tp_CS} {A : Nat → Prop} {s : State} {H : Heap} {locs : List Loc} {r u1 u2 : Nat → Nat} (hW : ct_W D A s (sw_X9 cs r u1 u2) H locs) : ct_W D A s (bg_fw cs r u1 u2) H locs :=
  ⟨hW.1.sub [0, 1, 4, 19, 23, 28, 37, 53, 2, 3, 5, 12, 20, 21, 22, 24, 25, 26, 27, 38, 29, 31, 33, 35, 40, 46, 52, 39, 54, 55, 56, 57, 30, 32, 34, 36, 41, 42, 43, 44, 45, 47, 48, 49, 50, 51, 6, 7, 8, 9, 10, 11, 13, 14, 15, 16, 17, 18] rfl, hW.2.1.sub [0, 1, 4, 19, 23, 28, 37, 53, 2, 3, 5, 12, 20, 21, 22, 24, 25, 26, 27, 38, 29, 31, 33, 35, 40, 46, 52, 39, 54, 55, 56, 57, 30, 32, 34, 36, 41, 42, 43, 44, 45, 47, 48, 49, 50, 51, 6, 7, 8, 9, 10, 11, 13, 14, 15, 16, 17, 18] (by decide +kernel) rfl, hW.2.2⟩
set_option maxHeartbeats 4000000 in
set_option maxRecDepth 100000 in
theorem bg_P {D : va_G} {cs : tp_CS} {H : Heap} {r u1 u2 : Nat → Nat} {b : Nat} {ro : Nat → Nat → Int32} (h : va_P D vwCl (bg_fw cs r u1 u2) H) : ∀ k, k < 58 → va_at D vwCl (bg_ad r u1 u2 b k, tp_cell cs (bg_ad r u1 u2 b) (s_i ro) k) H
  | 0, _ => bg_obj (c := 9) rfl (by decide) rfl rfl (h 0 _ rfl)
  | 1, _ => bg_obj (c := 8) rfl (by decide) rfl rfl (h 1 _ rfl)
  | 2, _ => bg_obj (c := 2) rfl (by decide) rfl rfl (h 2 _ rfl)
  | 3, _ => bg_obj (c := 7) rfl (by decide) rfl rfl (h 3 _ rfl)
  | 4, _ => bg_obj (c := 4) rfl (by decide) rfl rfl (h 4 _ rfl)
  | 5, _ => bg_shs (n := 4) rfl rfl rfl (fun j hj => by
      match j, hj with
      | 0, _ => rfl
      | 1, _ => rfl
      | 2, _ => rfl
      | 3, _ => rfl
      | j + 4, h => exact absurd h (by omega)) (h 5 _ rfl)
  | 6, _ => bg_obj (c := 0) rfl (by decide) rfl rfl (h 6 _ rfl)
  | 7, _ => bg_obj (c := 3) rfl (by decide) rfl rfl (h 7 _ rfl)
  | 8, _ => bg_int rfl rfl rfl (by decide) (h 8 _ rfl)
  | 9, _ => bg_int rfl rfl rfl (by decide) (h 9 _ rfl)
  | 10, _ => bg_row (n := 6) rfl rfl rfl (fun j hj => by
      match j, hj with
      | 0, _ => rfl
      | 1, _ => rfl
      | 2, _ => rfl
      | 3, _ => rfl
      | 4, _ => rfl
      | 5, _ => rfl
      | j + 6, h => exact absurd h (by omega)) (h 10 _ rfl)
  | 11, _ => bg_row (n := 6) rfl rfl rfl (fun j hj => by
      match j, hj with
      | 0, _ => rfl
      | 1, _ => rfl
      | 2, _ => rfl
      | 3, _ => rfl
      | 4, _ => rfl
      | 5, _ => rfl
      | j + 6, h => exact absurd h (by omega)) (h 11 _ rfl)
  | 12, _ => bg_int rfl rfl rfl (by decide) (h 12 _ rfl)
  | 13, _ => bg_boo rfl rfl rfl (by decide) (h 13 _ rfl)
  | 14, _ => bg_boo rfl rfl rfl (by decide) (h 14 _ rfl)
  | 15, _ => bg_int rfl rfl rfl (by decide) (h 15 _ rfl)
  | 16, _ => bg_int rfl rfl rfl (by decide) (h 16 _ rfl)
  | 17, _ => bg_int rfl rfl rfl (by decide) (h 17 _ rfl)
  | 18, _ => bg_int rfl rfl rfl (by decide) (h 18 _ rfl)
  | 19, _ => bg_obj (c := 6) rfl (by decide) rfl rfl (h 19 _ rfl)
  | 20, _ => bg_obj (c := 5) rfl (by decide) rfl rfl (h 20 _ rfl)
  | 21, _ => bg_obj (c := 5) rfl (by decide) rfl rfl (h 21 _ rfl)
  | 22, _ => bg_obj (c := 5) rfl (by decide) rfl rfl (h 22 _ rfl)
  | 23, _ => bg_obj (c := 5) rfl (by decide) rfl rfl (h 23 _ rfl)
  | 24, _ => bg_obj (c := 1) rfl (by decide) rfl rfl (h 24 _ rfl)
  | 25, _ => bg_obj (c := 1) rfl (by decide) rfl rfl (h 25 _ rfl)
  | 26, _ => bg_int rfl rfl rfl (by decide) (h 26 _ rfl)
  | 27, _ => bg_byt rfl rfl rfl (by decide) (h 27 _ rfl)
  | 28, _ => bg_int rfl rfl rfl (by decide) (h 28 _ rfl)
  | 29, _ => bg_int rfl rfl rfl (by decide) (h 29 _ rfl)
  | 30, _ => bg_int rfl rfl rfl (by decide) (h 30 _ rfl)
  | 31, _ => bg_int rfl rfl rfl (by decide) (h 31 _ rfl)
  | 32, _ => bg_int rfl rfl rfl (by decide) (h 32 _ rfl)
  | 33, _ => bg_int rfl rfl rfl (by decide) (h 33 _ rfl)
  | 34, _ => bg_int rfl rfl rfl (by decide) (h 34 _ rfl)
  | 35, _ => bg_int rfl rfl rfl (by decide) (h 35 _ rfl)
  | 36, _ => bg_int rfl rfl rfl (by decide) (h 36 _ rfl)
  | 37, _ => bg_int rfl rfl rfl (by decide) (h 37 _ rfl)
  | 38, _ => bg_int rfl rfl rfl (by decide) (h 38 _ rfl)
  | 39, _ => bg_int rfl rfl rfl (by decide) (h 39 _ rfl)
  | 40, _ => bg_int rfl rfl rfl (by decide) (h 40 _ rfl)
  | 41, _ => bg_int rfl rfl rfl (by decide) (h 41 _ rfl)
  | 42, _ => bg_int rfl rfl rfl (by decide) (h 42 _ rfl)
  | 43, _ => bg_int rfl rfl rfl (by decide) (h 43 _ rfl)
  | 44, _ => bg_int rfl rfl rfl (by decide) (h 44 _ rfl)
  | 45, _ => bg_int rfl rfl rfl (by decide) (h 45 _ rfl)
  | 46, _ => bg_int rfl rfl rfl (by decide) (h 46 _ rfl)
  | 47, _ => bg_int rfl rfl rfl (by decide) (h 47 _ rfl)
  | 48, _ => bg_int rfl rfl rfl (by decide) (h 48 _ rfl)
  | 49, _ => bg_int rfl rfl rfl (by decide) (h 49 _ rfl)
  | 50, _ => bg_int rfl rfl rfl (by decide) (h 50 _ rfl)
  | 51, _ => bg_int rfl rfl rfl (by decide) (h 51 _ rfl)
  | 52, _ => bg_int rfl rfl rfl (by decide) (h 52 _ rfl)
  | 53, _ => bg_int rfl rfl rfl (by decide) (h 53 _ rfl)
  | 54, _ => bg_int rfl rfl rfl (by decide) (h 54 _ rfl)
  | 55, _ => bg_int rfl rfl rfl (by decide) (h 55 _ rfl)
  | 56, _ => bg_int rfl rfl rfl (by decide) (h 56 _ rfl)
  | 57, _ => bg_int rfl rfl rfl (by decide) (h 57 _ rfl)
  | k + 58, h => absurd h (by omega)
theorem bg_ws {D : va_G} {cs : tp_CS} {A : Nat → Prop} {s : State} {H : Heap} {locs : List Loc} {r u1 u2 : Nat → Nat} {b : Nat} {ro : Nat → Nat → Int32} (hW : ct_W D A s (bg_fw cs r u1 u2) H locs) : va_P D vwCl (tp_ws cs (bg_ad r u1 u2 b) (s_i ro)) H ∧ tp_ap (bg_ad r u1 u2 b) A 58 := by
  have hl : (bg_fw cs r u1 u2).length = 58 := rfl
  have hm : (bg_fw cs r u1 u2).map Prod.fst = (List.range 58).map (bg_ad r u1 u2 b) := rfl
  have ha : ∀ i, i < 58 → ∃ e, (bg_fw cs r u1 u2)[i]? = some (bg_ad r u1 u2 b i, e) := by
    intro i hi
    have h1 : ((bg_fw cs r u1 u2).map Prod.fst)[i]? = some (bg_ad r u1 u2 b i) := by
      rw [hm, List.getElem?_map, List.getElem?_range hi]
      rfl
    rw [List.getElem?_map] at h1
    cases hq : (bg_fw cs r u1 u2)[i]? with
    | none => rw [hq] at h1; cases h1
    | some q =>
      rw [hq] at h1
      exact ⟨q.2, by rw [← Option.some.inj h1]⟩
  refine ⟨fun k q hk => ?_, ⟨by omega, by omega⟩, fun i j hi hj e => ?_, fun i hi => ?_⟩
  · obtain ⟨hl, rfl⟩ := tp_ws_q hk
    exact bg_P hW.1 k hl
  · obtain ⟨e1, h1⟩ := ha i hi
    obtain ⟨e2, h2⟩ := ha j hj
    exact hW.2.1.1 i j _ _ h1 h2 e
  · obtain ⟨e1, h1⟩ := ha i hi
    exact hW.2.1.2 i _ h1
