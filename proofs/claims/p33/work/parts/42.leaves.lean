/-! THE CONSTRUCTORS that make arrays alone -/
theorem dX8_init_0 : decode cX8_init 0 = .ok (.aload_n 0, 1) := by decide +kernel
theorem dX8_init_1 : decode cX8_init 1 = .ok (.invokespecial 3, 3) := by decide +kernel
theorem dX8_init_4 : decode cX8_init 4 = .ok (.aload_n 0, 1) := by decide +kernel
theorem dX8_init_5 : decode cX8_init 5 = .ok (.iconst 5, 1) := by decide +kernel
theorem dX8_init_6 : decode cX8_init 6 = .ok (.newarray .int, 2) := by decide +kernel
theorem dX8_init_8 : decode cX8_init 8 = .ok (.putfield 11, 3) := by decide +kernel
theorem dX8_init_11 : decode cX8_init 11 = .ok (.aload_n 0, 1) := by decide +kernel
theorem dX8_init_12 : decode cX8_init 12 = .ok (.iconst 5, 1) := by decide +kernel
theorem dX8_init_13 : decode cX8_init 13 = .ok (.newarray .int, 2) := by decide +kernel
theorem dX8_init_15 : decode cX8_init 15 = .ok (.putfield 15, 3) := by decide +kernel
theorem dX8_init_18 : decode cX8_init 18 = .ok (.return_, 1) := by decide +kernel
def sw_X8 (cs : tp_CS) (r : Nat → Nat) : va_W := [((r 0), .inr (8, [.ref (r 1), .ref (r 2), .int 0])),
  ((r 1), .inl (cs.1, 5, .inl fun _ => 0)),
  ((r 2), .inl (cs.1, 5, .inl fun _ => 0))]
def sh_X8 (h0 : Nat) (cs : tp_CS) (w : va_W) : Prop := ∃ (r : Nat → Nat), r 0 = h0 ∧ w = sw_X8 cs r
set_option maxHeartbeats 4000000 in
set_option maxRecDepth 100000 in
theorem ctor_X8 (l : Launch) : ct_Met l yX8_init cX8_init 1 1 12 2 10 8 [.null, .null, .int 0] sh_X8 := by
  refine ct_of (by decide +kernel) rfl (by decide) fun p e s m args below meth c D cs A h0 ls Q Z hin h00 hl hW ret => ?_
  refine ct_obj Z h00 hl.1 dX8_init_0 dX8_init_1 (tp_gt_in (i := 32) (by decide +kernel)) (tp_gt_in (i := 25) (by decide +kernel)) (tp_gt_in (i := 26) (by decide +kernel)) (Nat.le_of_ble_eq_true rfl) (Nat.le_of_ble_eq_true rfl) ?_
  refine ct_fa Z ct_aki h00 5 (n := 5) (by decide) (by decide) (by decide) (p2 := 6) dX8_init_4 (fun kk => lv_iconst Z.1 Z.2.1 dX8_init_5 (by decide) kk) dX8_init_6 0 11 dX8_init_8 (ci := 8) (T := TX8) (N := 3) rfl (by decide) hin rfl (tp_gt_in (i := 33) (by decide +kernel)) (by decide +kernel) rfl (Nat.le_of_ble_eq_true rfl) (Nat.le_of_ble_eq_true rfl) hW fun q1 H locs hW => ?_
  refine ct_fa Z ct_aki h00 5 (n := 5) (by decide) (by decide) (by decide) (p2 := 13) dX8_init_11 (fun kk => lv_iconst Z.1 Z.2.1 dX8_init_12 (by decide) kk) dX8_init_13 1 15 dX8_init_15 (ci := 8) (T := TX8) (N := 3) rfl (by decide) hin rfl (tp_gt_in (i := 35) (by decide +kernel)) (by decide +kernel) rfl (Nat.le_of_ble_eq_true rfl) (Nat.le_of_ble_eq_true rfl) hW fun q2 H locs hW => ?_
  exact ret 18 _ _ _ _ dX8_init_18 ⟨fun i => [h0, q1, q2].getD i 0, rfl, rfl⟩ hW
theorem dX7_init_0 : decode cX7_init 0 = .ok (.aload_n 0, 1) := by decide +kernel
theorem dX7_init_1 : decode cX7_init 1 = .ok (.invokespecial 3, 3) := by decide +kernel
theorem dX7_init_4 : decode cX7_init 4 = .ok (.aload_n 0, 1) := by decide +kernel
theorem dX7_init_5 : decode cX7_init 5 = .ok (.bipush 16, 2) := by decide +kernel
theorem dX7_init_7 : decode cX7_init 7 = .ok (.newarray .int, 2) := by decide +kernel
theorem dX7_init_9 : decode cX7_init 9 = .ok (.putfield 11, 3) := by decide +kernel
theorem dX7_init_12 : decode cX7_init 12 = .ok (.aload_n 0, 1) := by decide +kernel
theorem dX7_init_13 : decode cX7_init 13 = .ok (.bipush 16, 2) := by decide +kernel
theorem dX7_init_15 : decode cX7_init 15 = .ok (.newarray .boolean, 2) := by decide +kernel
theorem dX7_init_17 : decode cX7_init 17 = .ok (.putfield 15, 3) := by decide +kernel
theorem dX7_init_20 : decode cX7_init 20 = .ok (.aload_n 0, 1) := by decide +kernel
theorem dX7_init_21 : decode cX7_init 21 = .ok (.bipush 16, 2) := by decide +kernel
theorem dX7_init_23 : decode cX7_init 23 = .ok (.newarray .boolean, 2) := by decide +kernel
theorem dX7_init_25 : decode cX7_init 25 = .ok (.putfield 19, 3) := by decide +kernel
theorem dX7_init_28 : decode cX7_init 28 = .ok (.return_, 1) := by decide +kernel
def sw_X7 (cs : tp_CS) (r : Nat → Nat) : va_W := [((r 0), .inr (7, [.ref (r 1), .ref (r 2), .ref (r 3), .int 0])),
  ((r 1), .inl (cs.1, 16, .inl fun _ => 0)),
  ((r 2), .inl (cs.2.2.1, 16, .inl fun _ => 0)),
  ((r 3), .inl (cs.2.2.1, 16, .inl fun _ => 0))]
def sh_X7 (h0 : Nat) (cs : tp_CS) (w : va_W) : Prop := ∃ (r : Nat → Nat), r 0 = h0 ∧ w = sw_X7 cs r
set_option maxHeartbeats 4000000 in
set_option maxRecDepth 100000 in
theorem ctor_X7 (l : Launch) : ct_Met l yX7_init cX7_init 1 1 12 3 48 7 [.null, .null, .null, .int 0] sh_X7 := by
  refine ct_of (by decide +kernel) rfl (by decide) fun p e s m args below meth c D cs A h0 ls Q Z hin h00 hl hW ret => ?_
  refine ct_obj Z h00 hl.1 dX7_init_0 dX7_init_1 (tp_gt_in (i := 67) (by decide +kernel)) (tp_gt_in (i := 25) (by decide +kernel)) (tp_gt_in (i := 26) (by decide +kernel)) (Nat.le_of_ble_eq_true rfl) (Nat.le_of_ble_eq_true rfl) ?_
  refine ct_fa Z ct_aki h00 16 (n := 16) (by decide) (by decide) (by decide) (p2 := 7) dX7_init_4 (fun kk => lv_bipush Z.1 Z.2.1 dX7_init_5 (by decide) kk) dX7_init_7 0 11 dX7_init_9 (ci := 7) (T := TX7) (N := 4) rfl (by decide) hin rfl (tp_gt_in (i := 68) (by decide +kernel)) (by decide +kernel) rfl (Nat.le_of_ble_eq_true rfl) (Nat.le_of_ble_eq_true rfl) hW fun q1 H locs hW => ?_
  refine ct_fa Z ct_akz h00 16 (n := 16) (by decide) (by decide) (by decide) (p2 := 15) dX7_init_12 (fun kk => lv_bipush Z.1 Z.2.1 dX7_init_13 (by decide) kk) dX7_init_15 1 15 dX7_init_17 (ci := 7) (T := TX7) (N := 4) rfl (by decide) hin rfl (tp_gt_in (i := 70) (by decide +kernel)) (by decide +kernel) rfl (Nat.le_of_ble_eq_true rfl) (Nat.le_of_ble_eq_true rfl) hW fun q2 H locs hW => ?_
  refine ct_fa Z ct_akz h00 16 (n := 16) (by decide) (by decide) (by decide) (p2 := 23) dX7_init_20 (fun kk => lv_bipush Z.1 Z.2.1 dX7_init_21 (by decide) kk) dX7_init_23 2 19 dX7_init_25 (ci := 7) (T := TX7) (N := 4) rfl (by decide) hin rfl (tp_gt_in (i := 72) (by decide +kernel)) (by decide +kernel) rfl (Nat.le_of_ble_eq_true rfl) (Nat.le_of_ble_eq_true rfl) hW fun q3 H locs hW => ?_
  exact ret 28 _ _ _ _ dX7_init_28 ⟨fun i => [h0, q1, q2, q3].getD i 0, rfl, rfl⟩ hW
theorem dX4_init_0 : decode cX4_init 0 = .ok (.aload_n 0, 1) := by decide +kernel
theorem dX4_init_1 : decode cX4_init 1 = .ok (.invokespecial 1, 3) := by decide +kernel
theorem dX4_init_4 : decode cX4_init 4 = .ok (.aload_n 0, 1) := by decide +kernel
theorem dX4_init_5 : decode cX4_init 5 = .ok (.sipush 200, 3) := by decide +kernel
theorem dX4_init_8 : decode cX4_init 8 = .ok (.newarray .int, 2) := by decide +kernel
theorem dX4_init_10 : decode cX4_init 10 = .ok (.putfield 9, 3) := by decide +kernel
theorem dX4_init_13 : decode cX4_init 13 = .ok (.aload_n 0, 1) := by decide +kernel
theorem dX4_init_14 : decode cX4_init 14 = .ok (.sipush 200, 3) := by decide +kernel
theorem dX4_init_17 : decode cX4_init 17 = .ok (.newarray .int, 2) := by decide +kernel
theorem dX4_init_19 : decode cX4_init 19 = .ok (.putfield 13, 3) := by decide +kernel
theorem dX4_init_22 : decode cX4_init 22 = .ok (.aload_n 0, 1) := by decide +kernel
theorem dX4_init_23 : decode cX4_init 23 = .ok (.sipush 200, 3) := by decide +kernel
theorem dX4_init_26 : decode cX4_init 26 = .ok (.newarray .int, 2) := by decide +kernel
theorem dX4_init_28 : decode cX4_init 28 = .ok (.putfield 16, 3) := by decide +kernel
theorem dX4_init_31 : decode cX4_init 31 = .ok (.aload_n 0, 1) := by decide +kernel
theorem dX4_init_32 : decode cX4_init 32 = .ok (.sipush 200, 3) := by decide +kernel
theorem dX4_init_35 : decode cX4_init 35 = .ok (.newarray .int, 2) := by decide +kernel
theorem dX4_init_37 : decode cX4_init 37 = .ok (.putfield 19, 3) := by decide +kernel
theorem dX4_init_40 : decode cX4_init 40 = .ok (.return_, 1) := by decide +kernel
def sw_X4 (cs : tp_CS) (r : Nat → Nat) : va_W := [((r 0), .inr (4, [.ref (r 1), .ref (r 2), .ref (r 3), .ref (r 4), .int 0])),
  ((r 1), .inl (cs.1, 200, .inl fun _ => 0)),
  ((r 2), .inl (cs.1, 200, .inl fun _ => 0)),
  ((r 3), .inl (cs.1, 200, .inl fun _ => 0)),
  ((r 4), .inl (cs.1, 200, .inl fun _ => 0))]
def sh_X4 (h0 : Nat) (cs : tp_CS) (w : va_W) : Prop := ∃ (r : Nat → Nat), r 0 = h0 ∧ w = sw_X4 cs r
set_option maxHeartbeats 4000000 in
set_option maxRecDepth 100000 in
theorem ctor_X4 (l : Launch) : ct_Met l yX4_init cX4_init 1 1 12 4 800 4 [.null, .null, .null, .null, .int 0] sh_X4 := by
  refine ct_of (by decide +kernel) rfl (by decide) fun p e s m args below meth c D cs A h0 ls Q Z hin h00 hl hW ret => ?_
  refine ct_obj Z h00 hl.1 dX4_init_0 dX4_init_1 (tp_gt_in (i := 90) (by decide +kernel)) (tp_gt_in (i := 25) (by decide +kernel)) (tp_gt_in (i := 26) (by decide +kernel)) (Nat.le_of_ble_eq_true rfl) (Nat.le_of_ble_eq_true rfl) ?_
  refine ct_fa Z ct_aki h00 200 (n := 200) (by decide) (by decide) (by decide) (p2 := 8) dX4_init_4 (fun kk => lv_sipush Z.1 Z.2.1 dX4_init_5 (by decide) kk) dX4_init_8 0 9 dX4_init_10 (ci := 4) (T := TX4) (N := 5) rfl (by decide) hin rfl (tp_gt_in (i := 91) (by decide +kernel)) (by decide +kernel) rfl (Nat.le_of_ble_eq_true rfl) (Nat.le_of_ble_eq_true rfl) hW fun q1 H locs hW => ?_
  refine ct_fa Z ct_aki h00 200 (n := 200) (by decide) (by decide) (by decide) (p2 := 17) dX4_init_13 (fun kk => lv_sipush Z.1 Z.2.1 dX4_init_14 (by decide) kk) dX4_init_17 1 13 dX4_init_19 (ci := 4) (T := TX4) (N := 5) rfl (by decide) hin rfl (tp_gt_in (i := 93) (by decide +kernel)) (by decide +kernel) rfl (Nat.le_of_ble_eq_true rfl) (Nat.le_of_ble_eq_true rfl) hW fun q2 H locs hW => ?_
  refine ct_fa Z ct_aki h00 200 (n := 200) (by decide) (by decide) (by decide) (p2 := 26) dX4_init_22 (fun kk => lv_sipush Z.1 Z.2.1 dX4_init_23 (by decide) kk) dX4_init_26 2 16 dX4_init_28 (ci := 4) (T := TX4) (N := 5) rfl (by decide) hin rfl (tp_gt_in (i := 95) (by decide +kernel)) (by decide +kernel) rfl (Nat.le_of_ble_eq_true rfl) (Nat.le_of_ble_eq_true rfl) hW fun q3 H locs hW => ?_
  refine ct_fa Z ct_aki h00 200 (n := 200) (by decide) (by decide) (by decide) (p2 := 35) dX4_init_31 (fun kk => lv_sipush Z.1 Z.2.1 dX4_init_32 (by decide) kk) dX4_init_35 3 19 dX4_init_37 (ci := 4) (T := TX4) (N := 5) rfl (by decide) hin rfl (tp_gt_in (i := 97) (by decide +kernel)) (by decide +kernel) rfl (Nat.le_of_ble_eq_true rfl) (Nat.le_of_ble_eq_true rfl) hW fun q4 H locs hW => ?_
  exact ret 40 _ _ _ _ dX4_init_40 ⟨fun i => [h0, q1, q2, q3, q4].getD i 0, rfl, rfl⟩ hW
theorem dX5_init_0 : decode cX5_init 0 = .ok (.aload_n 0, 1) := by decide +kernel
theorem dX5_init_1 : decode cX5_init 1 = .ok (.invokespecial 1, 3) := by decide +kernel
theorem dX5_init_4 : decode cX5_init 4 = .ok (.aload_n 0, 1) := by decide +kernel
theorem dX5_init_5 : decode cX5_init 5 = .ok (.bipush 64, 2) := by decide +kernel
theorem dX5_init_7 : decode cX5_init 7 = .ok (.newarray .int, 2) := by decide +kernel
theorem dX5_init_9 : decode cX5_init 9 = .ok (.putfield 9, 3) := by decide +kernel
theorem dX5_init_12 : decode cX5_init 12 = .ok (.aload_n 0, 1) := by decide +kernel
theorem dX5_init_13 : decode cX5_init 13 = .ok (.iconst (-1), 1) := by decide +kernel
theorem dX5_init_14 : decode cX5_init 14 = .ok (.putfield 13, 3) := by decide +kernel
theorem dX5_init_17 : decode cX5_init 17 = .ok (.return_, 1) := by decide +kernel
def sw_X5 (cs : tp_CS) (r : Nat → Nat) : va_W := [((r 0), .inr (5, [.ref (r 1), .int 0, .int (-1)])),
  ((r 1), .inl (cs.1, 64, .inl fun _ => 0))]
def sh_X5 (h0 : Nat) (cs : tp_CS) (w : va_W) : Prop := ∃ (r : Nat → Nat), r 0 = h0 ∧ w = sw_X5 cs r
set_option maxHeartbeats 4000000 in
set_option maxRecDepth 100000 in
theorem ctor_X5 (l : Launch) : ct_Met l yX5_init cX5_init 1 1 12 1 64 5 [.null, .int 0, .int 0] sh_X5 := by
  refine ct_of (by decide +kernel) rfl (by decide) fun p e s m args below meth c D cs A h0 ls Q Z hin h00 hl hW ret => ?_
  refine ct_obj Z h00 hl.1 dX5_init_0 dX5_init_1 (tp_gt_in (i := 118) (by decide +kernel)) (tp_gt_in (i := 25) (by decide +kernel)) (tp_gt_in (i := 26) (by decide +kernel)) (Nat.le_of_ble_eq_true rfl) (Nat.le_of_ble_eq_true rfl) ?_
  refine ct_fa Z ct_aki h00 64 (n := 64) (by decide) (by decide) (by decide) (p2 := 7) dX5_init_4 (fun kk => lv_bipush Z.1 Z.2.1 dX5_init_5 (by decide) kk) dX5_init_7 0 9 dX5_init_9 (ci := 5) (T := TX5) (N := 3) rfl (by decide) hin rfl (tp_gt_in (i := 119) (by decide +kernel)) (by decide +kernel) rfl (Nat.le_of_ble_eq_true rfl) (Nat.le_of_ble_eq_true rfl) hW fun q1 H locs hW => ?_
  refine ct_fi Z h00 (-1) (p2 := 14) dX5_init_12 (fun kk => lv_iconst Z.1 Z.2.1 dX5_init_13 (by decide) kk) 2 13 dX5_init_14 (ci := 5) (T := TX5) (N := 3) rfl (by decide) hin rfl (tp_gt_in (i := 120) (by decide +kernel)) (by decide +kernel) rfl hW fun H locs hW => ?_
  exact ret 17 _ _ _ _ dX5_init_17 ⟨fun i => [h0, q1].getD i 0, rfl, rfl⟩ hW
theorem dX6_init_0 : decode cX6_init 0 = .ok (.aload_n 0, 1) := by decide +kernel
theorem dX6_init_1 : decode cX6_init 1 = .ok (.invokespecial 3, 3) := by decide +kernel
theorem dX6_init_4 : decode cX6_init 4 = .ok (.aload_n 0, 1) := by decide +kernel
theorem dX6_init_5 : decode cX6_init 5 = .ok (.sipush 200, 3) := by decide +kernel
theorem dX6_init_8 : decode cX6_init 8 = .ok (.newarray .byte, 2) := by decide +kernel
theorem dX6_init_10 : decode cX6_init 10 = .ok (.putfield 11, 3) := by decide +kernel
theorem dX6_init_13 : decode cX6_init 13 = .ok (.return_, 1) := by decide +kernel
def sw_X6 (cs : tp_CS) (r : Nat → Nat) : va_W := [((r 0), .inr (6, [.ref (r 1), .int 0, .int 0, .int 0, .int 0])),
  ((r 1), .inl (cs.2.1, 200, .inl fun _ => 0))]
def sh_X6 (h0 : Nat) (cs : tp_CS) (w : va_W) : Prop := ∃ (r : Nat → Nat), r 0 = h0 ∧ w = sw_X6 cs r
set_option maxHeartbeats 4000000 in
set_option maxRecDepth 100000 in
theorem ctor_X6 (l : Launch) : ct_Met l yX6_init cX6_init 1 1 12 1 200 6 [.null, .int 0, .int 0, .int 0, .int 0] sh_X6 := by
  refine ct_of (by decide +kernel) rfl (by decide) fun p e s m args below meth c D cs A h0 ls Q Z hin h00 hl hW ret => ?_
  refine ct_obj Z h00 hl.1 dX6_init_0 dX6_init_1 (tp_gt_in (i := 139) (by decide +kernel)) (tp_gt_in (i := 25) (by decide +kernel)) (tp_gt_in (i := 26) (by decide +kernel)) (Nat.le_of_ble_eq_true rfl) (Nat.le_of_ble_eq_true rfl) ?_
  refine ct_fa Z ct_akb h00 200 (n := 200) (by decide) (by decide) (by decide) (p2 := 8) dX6_init_4 (fun kk => lv_sipush Z.1 Z.2.1 dX6_init_5 (by decide) kk) dX6_init_8 0 11 dX6_init_10 (ci := 6) (T := TX6) (N := 5) rfl (by decide) hin rfl (tp_gt_in (i := 140) (by decide +kernel)) (by decide +kernel) rfl (Nat.le_of_ble_eq_true rfl) (Nat.le_of_ble_eq_true rfl) hW fun q1 H locs hW => ?_
  exact ret 13 _ _ _ _ dX6_init_13 ⟨fun i => [h0, q1].getD i 0, rfl, rfl⟩ hW
theorem dX1_init_0 : decode cX1_init 0 = .ok (.aload_n 0, 1) := by decide +kernel
theorem dX1_init_1 : decode cX1_init 1 = .ok (.invokespecial 3, 3) := by decide +kernel
theorem dX1_init_4 : decode cX1_init 4 = .ok (.aload_n 0, 1) := by decide +kernel
theorem dX1_init_5 : decode cX1_init 5 = .ok (.bipush 9, 2) := by decide +kernel
theorem dX1_init_7 : decode cX1_init 7 = .ok (.newarray .int, 2) := by decide +kernel
theorem dX1_init_9 : decode cX1_init 9 = .ok (.putfield 11, 3) := by decide +kernel
theorem dX1_init_12 : decode cX1_init 12 = .ok (.aload_n 0, 1) := by decide +kernel
theorem dX1_init_13 : decode cX1_init 13 = .ok (.bipush 9, 2) := by decide +kernel
theorem dX1_init_15 : decode cX1_init 15 = .ok (.newarray .int, 2) := by decide +kernel
theorem dX1_init_17 : decode cX1_init 17 = .ok (.putfield 15, 3) := by decide +kernel
theorem dX1_init_20 : decode cX1_init 20 = .ok (.aload_n 0, 1) := by decide +kernel
theorem dX1_init_21 : decode cX1_init 21 = .ok (.iconst 4, 1) := by decide +kernel
theorem dX1_init_22 : decode cX1_init 22 = .ok (.newarray .int, 2) := by decide +kernel
theorem dX1_init_24 : decode cX1_init 24 = .ok (.putfield 18, 3) := by decide +kernel
theorem dX1_init_27 : decode cX1_init 27 = .ok (.aload_n 0, 1) := by decide +kernel
theorem dX1_init_28 : decode cX1_init 28 = .ok (.iconst 4, 1) := by decide +kernel
theorem dX1_init_29 : decode cX1_init 29 = .ok (.newarray .int, 2) := by decide +kernel
theorem dX1_init_31 : decode cX1_init 31 = .ok (.putfield 21, 3) := by decide +kernel
theorem dX1_init_34 : decode cX1_init 34 = .ok (.aload_n 0, 1) := by decide +kernel
theorem dX1_init_35 : decode cX1_init 35 = .ok (.iconst 4, 1) := by decide +kernel
theorem dX1_init_36 : decode cX1_init 36 = .ok (.newarray .int, 2) := by decide +kernel
theorem dX1_init_38 : decode cX1_init 38 = .ok (.putfield 24, 3) := by decide +kernel
theorem dX1_init_41 : decode cX1_init 41 = .ok (.aload_n 0, 1) := by decide +kernel
theorem dX1_init_42 : decode cX1_init 42 = .ok (.iconst (-1), 1) := by decide +kernel
theorem dX1_init_43 : decode cX1_init 43 = .ok (.putfield 27, 3) := by decide +kernel
theorem dX1_init_46 : decode cX1_init 46 = .ok (.return_, 1) := by decide +kernel
def sw_X1 (cs : tp_CS) (r : Nat → Nat) : va_W := [((r 0), .inr (1, [.ref (r 1), .ref (r 2), .ref (r 3), .ref (r 4), .ref (r 5), .int 0, .int 0, .int (-1)])),
  ((r 1), .inl (cs.1, 9, .inl fun _ => 0)),
  ((r 2), .inl (cs.1, 9, .inl fun _ => 0)),
  ((r 3), .inl (cs.1, 4, .inl fun _ => 0)),
  ((r 4), .inl (cs.1, 4, .inl fun _ => 0)),
  ((r 5), .inl (cs.1, 4, .inl fun _ => 0))]
def sh_X1 (h0 : Nat) (cs : tp_CS) (w : va_W) : Prop := ∃ (r : Nat → Nat), r 0 = h0 ∧ w = sw_X1 cs r
set_option maxHeartbeats 4000000 in
set_option maxRecDepth 100000 in
theorem ctor_X1 (l : Launch) : ct_Met l yX1_init cX1_init 1 1 12 5 30 1 [.null, .null, .null, .null, .null, .int 0, .int 0, .int 0] sh_X1 := by
  refine ct_of (by decide +kernel) rfl (by decide) fun p e s m args below meth c D cs A h0 ls Q Z hin h00 hl hW ret => ?_
  refine ct_obj Z h00 hl.1 dX1_init_0 dX1_init_1 (tp_gt_in (i := 158) (by decide +kernel)) (tp_gt_in (i := 25) (by decide +kernel)) (tp_gt_in (i := 26) (by decide +kernel)) (Nat.le_of_ble_eq_true rfl) (Nat.le_of_ble_eq_true rfl) ?_
  refine ct_fa Z ct_aki h00 9 (n := 9) (by decide) (by decide) (by decide) (p2 := 7) dX1_init_4 (fun kk => lv_bipush Z.1 Z.2.1 dX1_init_5 (by decide) kk) dX1_init_7 0 11 dX1_init_9 (ci := 1) (T := TX1) (N := 8) rfl (by decide) hin rfl (tp_gt_in (i := 159) (by decide +kernel)) (by decide +kernel) rfl (Nat.le_of_ble_eq_true rfl) (Nat.le_of_ble_eq_true rfl) hW fun q1 H locs hW => ?_
  refine ct_fa Z ct_aki h00 9 (n := 9) (by decide) (by decide) (by decide) (p2 := 15) dX1_init_12 (fun kk => lv_bipush Z.1 Z.2.1 dX1_init_13 (by decide) kk) dX1_init_15 1 15 dX1_init_17 (ci := 1) (T := TX1) (N := 8) rfl (by decide) hin rfl (tp_gt_in (i := 160) (by decide +kernel)) (by decide +kernel) rfl (Nat.le_of_ble_eq_true rfl) (Nat.le_of_ble_eq_true rfl) hW fun q2 H locs hW => ?_
  refine ct_fa Z ct_aki h00 4 (n := 4) (by decide) (by decide) (by decide) (p2 := 22) dX1_init_20 (fun kk => lv_iconst Z.1 Z.2.1 dX1_init_21 (by decide) kk) dX1_init_22 2 18 dX1_init_24 (ci := 1) (T := TX1) (N := 8) rfl (by decide) hin rfl (tp_gt_in (i := 161) (by decide +kernel)) (by decide +kernel) rfl (Nat.le_of_ble_eq_true rfl) (Nat.le_of_ble_eq_true rfl) hW fun q3 H locs hW => ?_
  refine ct_fa Z ct_aki h00 4 (n := 4) (by decide) (by decide) (by decide) (p2 := 29) dX1_init_27 (fun kk => lv_iconst Z.1 Z.2.1 dX1_init_28 (by decide) kk) dX1_init_29 3 21 dX1_init_31 (ci := 1) (T := TX1) (N := 8) rfl (by decide) hin rfl (tp_gt_in (i := 162) (by decide +kernel)) (by decide +kernel) rfl (Nat.le_of_ble_eq_true rfl) (Nat.le_of_ble_eq_true rfl) hW fun q4 H locs hW => ?_
  refine ct_fa Z ct_aki h00 4 (n := 4) (by decide) (by decide) (by decide) (p2 := 36) dX1_init_34 (fun kk => lv_iconst Z.1 Z.2.1 dX1_init_35 (by decide) kk) dX1_init_36 4 24 dX1_init_38 (ci := 1) (T := TX1) (N := 8) rfl (by decide) hin rfl (tp_gt_in (i := 163) (by decide +kernel)) (by decide +kernel) rfl (Nat.le_of_ble_eq_true rfl) (Nat.le_of_ble_eq_true rfl) hW fun q5 H locs hW => ?_
  refine ct_fi Z h00 (-1) (p2 := 43) dX1_init_41 (fun kk => lv_iconst Z.1 Z.2.1 dX1_init_42 (by decide) kk) 7 27 dX1_init_43 (ci := 1) (T := TX1) (N := 8) rfl (by decide) hin rfl (tp_gt_in (i := 164) (by decide +kernel)) (by decide +kernel) rfl hW fun H locs hW => ?_
  exact ret 46 _ _ _ _ dX1_init_46 ⟨fun i => [h0, q1, q2, q3, q4, q5].getD i 0, rfl, rfl⟩ hW
theorem dX3_init_0 : decode cX3_init 0 = .ok (.aload_n 0, 1) := by decide +kernel
theorem dX3_init_1 : decode cX3_init 1 = .ok (.invokespecial 3, 3) := by decide +kernel
theorem dX3_init_4 : decode cX3_init 4 = .ok (.aload_n 0, 1) := by decide +kernel
theorem dX3_init_5 : decode cX3_init 5 = .ok (.bipush 10, 2) := by decide +kernel
theorem dX3_init_7 : decode cX3_init 7 = .ok (.newarray .int, 2) := by decide +kernel
theorem dX3_init_9 : decode cX3_init 9 = .ok (.putfield 11, 3) := by decide +kernel
theorem dX3_init_12 : decode cX3_init 12 = .ok (.aload_n 0, 1) := by decide +kernel
theorem dX3_init_13 : decode cX3_init 13 = .ok (.bipush 10, 2) := by decide +kernel
theorem dX3_init_15 : decode cX3_init 15 = .ok (.newarray .int, 2) := by decide +kernel
theorem dX3_init_17 : decode cX3_init 17 = .ok (.putfield 15, 3) := by decide +kernel
theorem dX3_init_20 : decode cX3_init 20 = .ok (.aload_n 0, 1) := by decide +kernel
theorem dX3_init_21 : decode cX3_init 21 = .ok (.bipush 10, 2) := by decide +kernel
theorem dX3_init_23 : decode cX3_init 23 = .ok (.newarray .int, 2) := by decide +kernel
theorem dX3_init_25 : decode cX3_init 25 = .ok (.putfield 18, 3) := by decide +kernel
theorem dX3_init_28 : decode cX3_init 28 = .ok (.aload_n 0, 1) := by decide +kernel
theorem dX3_init_29 : decode cX3_init 29 = .ok (.bipush 10, 2) := by decide +kernel
theorem dX3_init_31 : decode cX3_init 31 = .ok (.newarray .int, 2) := by decide +kernel
theorem dX3_init_33 : decode cX3_init 33 = .ok (.putfield 21, 3) := by decide +kernel
theorem dX3_init_36 : decode cX3_init 36 = .ok (.aload_n 0, 1) := by decide +kernel
theorem dX3_init_37 : decode cX3_init 37 = .ok (.bipush 30, 2) := by decide +kernel
theorem dX3_init_39 : decode cX3_init 39 = .ok (.putfield 24, 3) := by decide +kernel
theorem dX3_init_42 : decode cX3_init 42 = .ok (.return_, 1) := by decide +kernel
def sw_X3 (cs : tp_CS) (r : Nat → Nat) : va_W := [((r 0), .inr (3, [.ref (r 1), .ref (r 2), .ref (r 3), .ref (r 4), .int 0, .int 0, .int 30])),
  ((r 1), .inl (cs.1, 10, .inl fun _ => 0)),
  ((r 2), .inl (cs.1, 10, .inl fun _ => 0)),
  ((r 3), .inl (cs.1, 10, .inl fun _ => 0)),
  ((r 4), .inl (cs.1, 10, .inl fun _ => 0))]
def sh_X3 (h0 : Nat) (cs : tp_CS) (w : va_W) : Prop := ∃ (r : Nat → Nat), r 0 = h0 ∧ w = sw_X3 cs r
set_option maxHeartbeats 4000000 in
set_option maxRecDepth 100000 in
theorem ctor_X3 (l : Launch) : ct_Met l yX3_init cX3_init 1 1 12 4 40 3 [.null, .null, .null, .null, .int 0, .int 0, .int 0] sh_X3 := by
  refine ct_of (by decide +kernel) rfl (by decide) fun p e s m args below meth c D cs A h0 ls Q Z hin h00 hl hW ret => ?_
  refine ct_obj Z h00 hl.1 dX3_init_0 dX3_init_1 (tp_gt_in (i := 206) (by decide +kernel)) (tp_gt_in (i := 25) (by decide +kernel)) (tp_gt_in (i := 26) (by decide +kernel)) (Nat.le_of_ble_eq_true rfl) (Nat.le_of_ble_eq_true rfl) ?_
  refine ct_fa Z ct_aki h00 10 (n := 10) (by decide) (by decide) (by decide) (p2 := 7) dX3_init_4 (fun kk => lv_bipush Z.1 Z.2.1 dX3_init_5 (by decide) kk) dX3_init_7 0 11 dX3_init_9 (ci := 3) (T := TX3) (N := 7) rfl (by decide) hin rfl (tp_gt_in (i := 207) (by decide +kernel)) (by decide +kernel) rfl (Nat.le_of_ble_eq_true rfl) (Nat.le_of_ble_eq_true rfl) hW fun q1 H locs hW => ?_
  refine ct_fa Z ct_aki h00 10 (n := 10) (by decide) (by decide) (by decide) (p2 := 15) dX3_init_12 (fun kk => lv_bipush Z.1 Z.2.1 dX3_init_13 (by decide) kk) dX3_init_15 1 15 dX3_init_17 (ci := 3) (T := TX3) (N := 7) rfl (by decide) hin rfl (tp_gt_in (i := 208) (by decide +kernel)) (by decide +kernel) rfl (Nat.le_of_ble_eq_true rfl) (Nat.le_of_ble_eq_true rfl) hW fun q2 H locs hW => ?_
  refine ct_fa Z ct_aki h00 10 (n := 10) (by decide) (by decide) (by decide) (p2 := 23) dX3_init_20 (fun kk => lv_bipush Z.1 Z.2.1 dX3_init_21 (by decide) kk) dX3_init_23 2 18 dX3_init_25 (ci := 3) (T := TX3) (N := 7) rfl (by decide) hin rfl (tp_gt_in (i := 209) (by decide +kernel)) (by decide +kernel) rfl (Nat.le_of_ble_eq_true rfl) (Nat.le_of_ble_eq_true rfl) hW fun q3 H locs hW => ?_
  refine ct_fa Z ct_aki h00 10 (n := 10) (by decide) (by decide) (by decide) (p2 := 31) dX3_init_28 (fun kk => lv_bipush Z.1 Z.2.1 dX3_init_29 (by decide) kk) dX3_init_31 3 21 dX3_init_33 (ci := 3) (T := TX3) (N := 7) rfl (by decide) hin rfl (tp_gt_in (i := 210) (by decide +kernel)) (by decide +kernel) rfl (Nat.le_of_ble_eq_true rfl) (Nat.le_of_ble_eq_true rfl) hW fun q4 H locs hW => ?_
  refine ct_fi Z h00 30 (p2 := 39) dX3_init_36 (fun kk => lv_bipush Z.1 Z.2.1 dX3_init_37 (by decide) kk) 6 24 dX3_init_39 (ci := 3) (T := TX3) (N := 7) rfl (by decide) hin rfl (tp_gt_in (i := 211) (by decide +kernel)) (by decide +kernel) rfl hW fun H locs hW => ?_
  exact ret 42 _ _ _ _ dX3_init_42 ⟨fun i => [h0, q1, q2, q3, q4].getD i 0, rfl, rfl⟩ hW
