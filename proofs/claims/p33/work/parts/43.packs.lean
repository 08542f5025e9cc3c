/-! the constructors of Packs and LawBook -/
theorem dX2_init_0 : decode cX2_init 0 = .ok (.aload_n 0, 1) := by decide +kernel
theorem dX2_init_1 : decode cX2_init 1 = .ok (.invokespecial 3, 3) := by decide +kernel
theorem dX2_init_4 : decode cX2_init 4 = .ok (.aload_n 0, 1) := by decide +kernel
theorem dX2_init_5 : decode cX2_init 5 = .ok (.bipush 6, 2) := by decide +kernel
theorem dX2_init_7 : decode cX2_init 7 = .ok (.iconst 5, 1) := by decide +kernel
theorem dX2_init_8 : decode cX2_init 8 = .ok (.multianewarray 11 2, 4) := by decide +kernel
theorem dX2_init_12 : decode cX2_init 12 = .ok (.putfield 13, 3) := by decide +kernel
theorem dX2_init_15 : decode cX2_init 15 = .ok (.aload_n 0, 1) := by decide +kernel
theorem dX2_init_16 : decode cX2_init 16 = .ok (.bipush 6, 2) := by decide +kernel
theorem dX2_init_18 : decode cX2_init 18 = .ok (.iconst 5, 1) := by decide +kernel
theorem dX2_init_19 : decode cX2_init 19 = .ok (.multianewarray 11 2, 4) := by decide +kernel
theorem dX2_init_23 : decode cX2_init 23 = .ok (.putfield 18, 3) := by decide +kernel
theorem dX2_init_26 : decode cX2_init 26 = .ok (.return_, 1) := by decide +kernel
def sw_X2 (cs : tp_CS) (r : Nat → Nat) (u v : Nat → Nat) : va_W := [((r 0), .inr (2, [.ref (r 1), .ref (r 2)])),
  ((r 1), .inl (cs.2.2.2.2, 6, .inr (.inr (.inr (.inr (fun i => if i < 6 then some (u i) else none)))))),
  ((u 0), .inl (cs.1, 5, .inl fun _ => 0)),
  ((u 1), .inl (cs.1, 5, .inl fun _ => 0)),
  ((u 2), .inl (cs.1, 5, .inl fun _ => 0)),
  ((u 3), .inl (cs.1, 5, .inl fun _ => 0)),
  ((u 4), .inl (cs.1, 5, .inl fun _ => 0)),
  ((u 5), .inl (cs.1, 5, .inl fun _ => 0)),
  ((r 2), .inl (cs.2.2.2.2, 6, .inr (.inr (.inr (.inr (fun i => if i < 6 then some (v i) else none)))))),
  ((v 0), .inl (cs.1, 5, .inl fun _ => 0)),
  ((v 1), .inl (cs.1, 5, .inl fun _ => 0)),
  ((v 2), .inl (cs.1, 5, .inl fun _ => 0)),
  ((v 3), .inl (cs.1, 5, .inl fun _ => 0)),
  ((v 4), .inl (cs.1, 5, .inl fun _ => 0)),
  ((v 5), .inl (cs.1, 5, .inl fun _ => 0))]
def sh_X2 (h0 : Nat) (cs : tp_CS) (w : va_W) : Prop := ∃ (r u v : Nat → Nat), r 0 = h0 ∧ w = sw_X2 cs r u v
set_option maxHeartbeats 4000000 in
set_option maxRecDepth 100000 in
theorem ctor_X2 (l : Launch) : ct_Met l yX2_init cX2_init 1 1 12 14 72 2 [.null, .null] sh_X2 := by
  refine ct_of (by decide +kernel) rfl (by decide) fun p e s m args below meth c D cs A h0 ls Q Z hin h00 hl hW ret => ?_
  refine ct_obj Z h00 hl.1 dX2_init_0 dX2_init_1 (tp_gt_in (i := 51) (by decide +kernel)) (tp_gt_in (i := 25) (by decide +kernel)) (tp_gt_in (i := 26) (by decide +kernel)) (Nat.le_of_ble_eq_true rfl) (Nat.le_of_ble_eq_true rfl) ?_
  refine ct_fm Z h00 6 5 (n := 6) (n2 := 5) (by decide) (by decide) (by decide) (by decide) (by decide) (by decide) (p2 := 8) 11 (tp_gt_in (i := 52) (by decide +kernel)) dX2_init_4 (fun kk => lv_bipush Z.1 Z.2.1 dX2_init_5 (by decide) (lv_iconst Z.1 Z.2.1 dX2_init_7 (by decide) kk)) dX2_init_8 0 13 dX2_init_12 (ci := 2) (T := TX2) (N := 2) rfl (by decide) hin rfl (tp_gt_in (i := 54) (by decide +kernel)) (by decide +kernel) rfl (Nat.le_of_ble_eq_true rfl) (Nat.le_of_ble_eq_true rfl) hW fun q1 w1 H locs hW => ?_
  refine ct_fm Z h00 6 5 (n := 6) (n2 := 5) (by decide) (by decide) (by decide) (by decide) (by decide) (by decide) (p2 := 19) 11 (tp_gt_in (i := 52) (by decide +kernel)) dX2_init_15 (fun kk => lv_bipush Z.1 Z.2.1 dX2_init_16 (by decide) (lv_iconst Z.1 Z.2.1 dX2_init_18 (by decide) kk)) dX2_init_19 1 18 dX2_init_23 (ci := 2) (T := TX2) (N := 2) rfl (by decide) hin rfl (tp_gt_in (i := 56) (by decide +kernel)) (by decide +kernel) rfl (Nat.le_of_ble_eq_true rfl) (Nat.le_of_ble_eq_true rfl) hW fun q2 w2 H locs hW => ?_
  exact ret 26 _ _ _ _ dX2_init_26 ⟨fun i => [h0, q1, q2].getD i 0, w1, w2, rfl, rfl⟩ hW
theorem dX0_init_0 : decode cX0_init 0 = .ok (.aload_n 0, 1) := by decide +kernel
theorem dX0_init_1 : decode cX0_init 1 = .ok (.invokespecial 3, 3) := by decide +kernel
theorem dX0_init_4 : decode cX0_init 4 = .ok (.aload_n 0, 1) := by decide +kernel
theorem dX0_init_5 : decode cX0_init 5 = .ok (.new 9, 3) := by decide +kernel
theorem dX0_init_8 : decode cX0_init 8 = .ok (.dup, 1) := by decide +kernel
theorem dX0_init_9 : decode cX0_init 9 = .ok (.invokespecial 11, 3) := by decide +kernel
theorem dX0_init_12 : decode cX0_init 12 = .ok (.putfield 12, 3) := by decide +kernel
theorem dX0_init_15 : decode cX0_init 15 = .ok (.aload_n 0, 1) := by decide +kernel
theorem dX0_init_16 : decode cX0_init 16 = .ok (.new 18, 3) := by decide +kernel
theorem dX0_init_19 : decode cX0_init 19 = .ok (.dup, 1) := by decide +kernel
theorem dX0_init_20 : decode cX0_init 20 = .ok (.invokespecial 20, 3) := by decide +kernel
theorem dX0_init_23 : decode cX0_init 23 = .ok (.putfield 21, 3) := by decide +kernel
theorem dX0_init_26 : decode cX0_init 26 = .ok (.aload_n 0, 1) := by decide +kernel
theorem dX0_init_27 : decode cX0_init 27 = .ok (.new 18, 3) := by decide +kernel
theorem dX0_init_30 : decode cX0_init 30 = .ok (.dup, 1) := by decide +kernel
theorem dX0_init_31 : decode cX0_init 31 = .ok (.invokespecial 20, 3) := by decide +kernel
theorem dX0_init_34 : decode cX0_init 34 = .ok (.putfield 25, 3) := by decide +kernel
theorem dX0_init_37 : decode cX0_init 37 = .ok (.aload_n 0, 1) := by decide +kernel
theorem dX0_init_38 : decode cX0_init 38 = .ok (.iconst 3, 1) := by decide +kernel
theorem dX0_init_39 : decode cX0_init 39 = .ok (.newarray .int, 2) := by decide +kernel
theorem dX0_init_41 : decode cX0_init 41 = .ok (.putfield 28, 3) := by decide +kernel
theorem dX0_init_44 : decode cX0_init 44 = .ok (.return_, 1) := by decide +kernel
def sw_X0 (cs : tp_CS) (r : Nat → Nat) : va_W := [((r 0), .inr (0, [.ref (r 1), .ref (r 3), .int 0, .ref (r 9), .ref (r 15), .int 0, .int 0])),
  ((r 1), .inr (6, [.ref (r 2), .int 0, .int 0, .int 0, .int 0])),
  ((r 2), .inl (cs.2.1, 200, .inl fun _ => 0)),
  ((r 3), .inr (1, [.ref (r 4), .ref (r 5), .ref (r 6), .ref (r 7), .ref (r 8), .int 0, .int 0, .int (-1)])),
  ((r 4), .inl (cs.1, 9, .inl fun _ => 0)),
  ((r 5), .inl (cs.1, 9, .inl fun _ => 0)),
  ((r 6), .inl (cs.1, 4, .inl fun _ => 0)),
  ((r 7), .inl (cs.1, 4, .inl fun _ => 0)),
  ((r 8), .inl (cs.1, 4, .inl fun _ => 0)),
  ((r 9), .inr (1, [.ref (r 10), .ref (r 11), .ref (r 12), .ref (r 13), .ref (r 14), .int 0, .int 0, .int (-1)])),
  ((r 10), .inl (cs.1, 9, .inl fun _ => 0)),
  ((r 11), .inl (cs.1, 9, .inl fun _ => 0)),
  ((r 12), .inl (cs.1, 4, .inl fun _ => 0)),
  ((r 13), .inl (cs.1, 4, .inl fun _ => 0)),
  ((r 14), .inl (cs.1, 4, .inl fun _ => 0)),
  ((r 15), .inl (cs.1, 3, .inl fun _ => 0))]
def sh_X0 (h0 : Nat) (cs : tp_CS) (w : va_W) : Prop := ∃ (r : Nat → Nat), r 0 = h0 ∧ w = sw_X0 cs r
set_option maxHeartbeats 4000000 in
set_option maxRecDepth 100000 in
theorem ctor_X0 (l : Launch) : ct_Met l yX0_init cX0_init 1 2 32 15 284 0 [.null, .null, .int 0, .null, .null, .int 0, .int 0] sh_X0 := by
  refine ct_of (by decide +kernel) rfl (by decide) fun p e s m args below meth c D cs A h0 ls Q Z hin h00 hl hW ret => ?_
  refine ct_obj Z h00 hl.1 dX0_init_0 dX0_init_1 (tp_gt_in (i := 133) (by decide +kernel)) (tp_gt_in (i := 25) (by decide +kernel)) (tp_gt_in (i := 26) (by decide +kernel)) (Nat.le_of_ble_eq_true rfl) (Nat.le_of_ble_eq_true rfl) ?_
  refine ct_fo Z h00 (ctor_X6 l) 9 11 (C' := RX6) (T' := TX6) (N' := 5) rfl (ty0 := tyX6) tyX6_ok (by decide +kernel) (tp_gt_in (i := 134) (by decide +kernel)) (tp_gt_in (i := 135) (by decide +kernel)) (tp_gt_in (i := 15) (by decide +kernel)) rfl ⟨by decide +kernel, by decide +kernel⟩ (tp_gt_in (i := 137) (by decide +kernel)) (tp_gt_in (i := 138) (by decide +kernel)) (by decide +kernel) ⟨(Nat.le_of_ble_eq_true rfl), (Nat.le_of_ble_eq_true rfl)⟩ (Nat.le_of_ble_eq_true rfl) (Nat.le_of_ble_eq_true rfl) hl.1 dX0_init_4 dX0_init_5 dX0_init_8 dX0_init_9 0 12 dX0_init_12 (ci := 0) (T := TX0) (N := 7) rfl (by decide) hin rfl (tp_gt_in (i := 182) (by decide +kernel)) (by decide +kernel) rfl hW fun q w H locs hS hW => ?_
  obtain ⟨r1, rfl, rfl⟩ := hS
  refine ct_fo Z h00 (ctor_X1 l) 18 20 (C' := RX1) (T' := TX1) (N' := 8) rfl (ty0 := tyX1) tyX1_ok (by decide +kernel) (tp_gt_in (i := 153) (by decide +kernel)) (tp_gt_in (i := 154) (by decide +kernel)) (tp_gt_in (i := 16) (by decide +kernel)) rfl ⟨by decide +kernel, by decide +kernel⟩ (tp_gt_in (i := 156) (by decide +kernel)) (tp_gt_in (i := 157) (by decide +kernel)) (by decide +kernel) ⟨(Nat.le_of_ble_eq_true rfl), (Nat.le_of_ble_eq_true rfl)⟩ (Nat.le_of_ble_eq_true rfl) (Nat.le_of_ble_eq_true rfl) hl.1 dX0_init_15 dX0_init_16 dX0_init_19 dX0_init_20 1 21 dX0_init_23 (ci := 0) (T := TX0) (N := 7) rfl (by decide) hin rfl (tp_gt_in (i := 183) (by decide +kernel)) (by decide +kernel) rfl hW fun q w H locs hS hW => ?_
  obtain ⟨r2, rfl, rfl⟩ := hS
  refine ct_fo Z h00 (ctor_X1 l) 18 20 (C' := RX1) (T' := TX1) (N' := 8) rfl (ty0 := tyX1) tyX1_ok (by decide +kernel) (tp_gt_in (i := 153) (by decide +kernel)) (tp_gt_in (i := 154) (by decide +kernel)) (tp_gt_in (i := 16) (by decide +kernel)) rfl ⟨by decide +kernel, by decide +kernel⟩ (tp_gt_in (i := 156) (by decide +kernel)) (tp_gt_in (i := 157) (by decide +kernel)) (by decide +kernel) ⟨(Nat.le_of_ble_eq_true rfl), (Nat.le_of_ble_eq_true rfl)⟩ (Nat.le_of_ble_eq_true rfl) (Nat.le_of_ble_eq_true rfl) hl.1 dX0_init_26 dX0_init_27 dX0_init_30 dX0_init_31 3 25 dX0_init_34 (ci := 0) (T := TX0) (N := 7) rfl (by decide) hin rfl (tp_gt_in (i := 184) (by decide +kernel)) (by decide +kernel) rfl hW fun q w H locs hS hW => ?_
  obtain ⟨r3, rfl, rfl⟩ := hS
  refine ct_fa Z ct_aki h00 3 (n := 3) (by decide) (by decide) (by decide) (p2 := 39) dX0_init_37 (fun kk => lv_iconst Z.1 Z.2.1 dX0_init_38 (by decide) kk) dX0_init_39 4 28 dX0_init_41 (ci := 0) (T := TX0) (N := 7) rfl (by decide) hin rfl (tp_gt_in (i := 185) (by decide +kernel)) (by decide +kernel) rfl (Nat.le_of_ble_eq_true rfl) (Nat.le_of_ble_eq_true rfl) hW fun q4 H locs hW => ?_
  exact ret 44 _ _ _ _ dX0_init_44 ⟨fun i => [h0, r1 0, r1 1, r2 0, r2 1, r2 2, r2 3, r2 4, r2 5, r3 0, r3 1, r3 2, r3 3, r3 4, r3 5, q4].getD i 0, rfl, rfl⟩ hW
