/-! the constructors of Packs, LawBook, and of the reference -/
theorem dX2_init_0 : decode cX2_init 0 = .ok (.aload_n 0, 1) := by decide +kernel
theorem dX2_init_1 : decode cX2_init 1 = .ok (.invokespecial 3, 3) := by decide +kernel
theorem dX2_init_4 : decode cX2_init 4 = .ok (.aload_n 0, 1) := by decide +kernel
theorem dX2_init_5 : decode cX2_init 5 = .ok (.bipush 6, 2) := by decide +kernel
theorem dX2_init_7 : decode cX2_init 7 = .ok (.iconst 5, 1) := by decide +kernel
theorem dX2_init_8 : decode cX2_init 8 = .ok (.multianewarray 11 2, 4) := by decide +kernel
theorem dX2_init_12 : decode cX2_init 12 = .ok (.putfield 13, 3) := by decide +kernel
theorem dX2_init_15 : decode cX2_init 15 = .ok (.aload_n 0, 1) := by decide +kernel
theorem dX2_init_16 : decode cX2_init 16 = .ok (.bipush 6, 2) := by decide +kernel
theorem dX2_init_18 : decode cX2_init 18 = .ok (.iconst 5, 1) := by decide +kernel
theorem dX2_init_19 : decode cX2_init 19 = .ok (.multianewarray 11 2, 4) := by decide +kernel
theorem dX2_init_23 : decode cX2_init 23 = .ok (.putfield 18, 3) := by decide +kernel
theorem dX2_init_26 : decode cX2_init 26 = .ok (.return_, 1) := by decide +kernel
def sw_X2 (cs : tp_CS) (r : Nat → Nat) (u v : Nat → Nat) : va_W := [((r 0), .inr (2, [.ref (r 1), .ref (r 2)])),
  ((r 1), .inl (cs.2.2.2.2, 6, .inr (.inr (.inr (.inr (fun i => if i < 6 then some (u i) else none)))))),
  ((u 0), .inl (cs.1, 5, .inl fun _ => 0)),
  ((u 1), .inl (cs.1, 5, .inl fun _ => 0)),
  ((u 2), .inl (cs.1, 5, .inl fun _ => 0)),
  ((u 3), .inl (cs.1, 5, .inl fun _ => 0)),
  ((u 4), .inl (cs.1, 5, .inl fun _ => 0)),
  ((u 5), .inl (cs.1, 5, .inl fun _ => 0)),
  ((r 2), .inl (cs.2.2.2.2, 6, .inr (.inr (.inr (.inr (fun i => if i < 6 then some (v i) else none)))))),
  ((v 0), .inl (cs.1, 5, .inl fun _ => 0)),
  ((v 1), .inl (cs.1, 5, .inl fun _ => 0)),
  ((v 2), .inl (cs.1, 5, .inl fun _ => 0)),
  ((v 3), .inl (cs.1, 5, .inl fun _ => 0)),
  ((v 4), .inl (cs.1, 5, .inl fun _ => 0)),
  ((v 5), .inl (cs.1, 5, .inl fun _ => 0))]
def sh_X2 (h0 : Nat) (cs : tp_CS) (w : va_W) : Prop := ∃ (r u v : Nat → Nat), r 0 = h0 ∧ w = sw_X2 cs r u v
set_option maxHeartbeats 4000000 in
set_option maxRecDepth 100000 in
theorem ctor_X2 (l : Launch) : ct_Met l yX2_init cX2_init 1 1 12 14 72 2 [.null, .null] sh_X2 := by
  refine ct_of (by decide +kernel) rfl (by decide) fun p e s m args below meth c D cs A h0 ls Q Z hin h00 hl hW ret => ?_
  refine ct_obj Z h00 hl.1 dX2_init_0 dX2_init_1 (tp_gt_in (i := 94) (by decide +kernel)) (tp_gt_in (i := 67) (by decide +kernel)) (tp_gt_in (i := 68) (by decide +kernel)) (Nat.le_of_ble_eq_true rfl) (Nat.le_of_ble_eq_true rfl) ?_
  refine ct_fm Z h00 6 5 (n := 6) (n2 := 5) (by decide) (by decide) (by decide) (by decide) (by decide) (by decide) (p2 := 8) 11 (tp_gt_in (i := 95) (by decide +kernel)) dX2_init_4 (fun kk => lv_bipush Z.1 Z.2.1 dX2_init_5 (by decide) (lv_iconst Z.1 Z.2.1 dX2_init_7 (by decide) kk)) dX2_init_8 0 13 dX2_init_12 (ci := 2) (T := TX2) (N := 2) rfl (by decide) hin rfl (tp_gt_in (i := 97) (by decide +kernel)) (by decide +kernel) rfl (Nat.le_of_ble_eq_true rfl) (Nat.le_of_ble_eq_true rfl) hW fun q1 w1 H locs hW => ?_
  refine ct_fm Z h00 6 5 (n := 6) (n2 := 5) (by decide) (by decide) (by decide) (by decide) (by decide) (by decide) (p2 := 19) 11 (tp_gt_in (i := 95) (by decide +kernel)) dX2_init_15 (fun kk => lv_bipush Z.1 Z.2.1 dX2_init_16 (by decide) (lv_iconst Z.1 Z.2.1 dX2_init_18 (by decide) kk)) dX2_init_19 1 18 dX2_init_23 (ci := 2) (T := TX2) (N := 2) rfl (by decide) hin rfl (tp_gt_in (i := 99) (by decide +kernel)) (by decide +kernel) rfl (Nat.le_of_ble_eq_true rfl) (Nat.le_of_ble_eq_true rfl) hW fun q2 w2 H locs hW => ?_
  exact ret 26 _ _ _ _ dX2_init_26 ⟨fun i => [h0, q1, q2].getD i 0, w1, w2, rfl, rfl⟩ hW
theorem dX0_init_0 : decode cX0_init 0 = .ok (.aload_n 0, 1) := by decide +kernel
theorem dX0_init_1 : decode cX0_init 1 = .ok (.invokespecial 3, 3) := by decide +kernel
theorem dX0_init_4 : decode cX0_init 4 = .ok (.aload_n 0, 1) := by decide +kernel
theorem dX0_init_5 : decode cX0_init 5 = .ok (.new 9, 3) := by decide +kernel
theorem dX0_init_8 : decode cX0_init 8 = .ok (.dup, 1) := by decide +kernel
theorem dX0_init_9 : decode cX0_init 9 = .ok (.invokespecial 11, 3) := by decide +kernel
theorem dX0_init_12 : decode cX0_init 12 = .ok (.putfield 12, 3) := by decide +kernel
theorem dX0_init_15 : decode cX0_init 15 = .ok (.aload_n 0, 1) := by decide +kernel
theorem dX0_init_16 : decode cX0_init 16 = .ok (.new 18, 3) := by decide +kernel
theorem dX0_init_19 : decode cX0_init 19 = .ok (.dup, 1) := by decide +kernel
theorem dX0_init_20 : decode cX0_init 20 = .ok (.invokespecial 20, 3) := by decide +kernel
theorem dX0_init_23 : decode cX0_init 23 = .ok (.putfield 21, 3) := by decide +kernel
theorem dX0_init_26 : decode cX0_init 26 = .ok (.aload_n 0, 1) := by decide +kernel
theorem dX0_init_27 : decode cX0_init 27 = .ok (.new 18, 3) := by decide +kernel
theorem dX0_init_30 : decode cX0_init 30 = .ok (.dup, 1) := by decide +kernel
theorem dX0_init_31 : decode cX0_init 31 = .ok (.invokespecial 20, 3) := by decide +kernel
theorem dX0_init_34 : decode cX0_init 34 = .ok (.putfield 25, 3) := by decide +kernel
theorem dX0_init_37 : decode cX0_init 37 = .ok (.aload_n 0, 1) := by decide +kernel
theorem dX0_init_38 : decode cX0_init 38 = .ok (.iconst 3, 1) := by decide +kernel
theorem dX0_init_39 : decode cX0_init 39 = .ok (.newarray .int, 2) := by decide +kernel
theorem dX0_init_41 : decode cX0_init 41 = .ok (.putfield 28, 3) := by decide +kernel
theorem dX0_init_44 : decode cX0_init 44 = .ok (.return_, 1) := by decide +kernel
def sw_X0 (cs : tp_CS) (r : Nat → Nat) : va_W := [((r 0), .inr (0, [.ref (r 1), .ref (r 3), .int 0, .ref (r 9), .ref (r 15), .int 0, .int 0])),
  ((r 1), .inr (6, [.ref (r 2), .int 0, .int 0, .int 0, .int 0])),
  ((r 2), .inl (cs.2.1, 200, .inl fun _ => 0)),
  ((r 3), .inr (1, [.ref (r 4), .ref (r 5), .ref (r 6), .ref (r 7), .ref (r 8), .int 0, .int 0, .int (-1)])),
  ((r 4), .inl (cs.1, 9, .inl fun _ => 0)),
  ((r 5), .inl (cs.1, 9, .inl fun _ => 0)),
  ((r 6), .inl (cs.1, 4, .inl fun _ => 0)),
  ((r 7), .inl (cs.1, 4, .inl fun _ => 0)),
  ((r 8), .inl (cs.1, 4, .inl fun _ => 0)),
  ((r 9), .inr (1, [.ref (r 10), .ref (r 11), .ref (r 12), .ref (r 13), .ref (r 14), .int 0, .int 0, .int (-1)])),
  ((r 10), .inl (cs.1, 9, .inl fun _ => 0)),
  ((r 11), .inl (cs.1, 9, .inl fun _ => 0)),
  ((r 12), .inl (cs.1, 4, .inl fun _ => 0)),
  ((r 13), .inl (cs.1, 4, .inl fun _ => 0)),
  ((r 14), .inl (cs.1, 4, .inl fun _ => 0)),
  ((r 15), .inl (cs.1, 3, .inl fun _ => 0))]
def sh_X0 (h0 : Nat) (cs : tp_CS) (w : va_W) : Prop := ∃ (r : Nat → Nat), r 0 = h0 ∧ w = sw_X0 cs r
set_option maxHeartbeats 4000000 in
set_option maxRecDepth 100000 in
theorem ctor_X0 (l : Launch) : ct_Met l yX0_init cX0_init 1 2 32 15 284 0 [.null, .null, .int 0, .null, .null, .int 0, .int 0] sh_X0 := by
  refine ct_of (by decide +kernel) rfl (by decide) fun p e s m args below meth c D cs A h0 ls Q Z hin h00 hl hW ret => ?_
  refine ct_obj Z h00 hl.1 dX0_init_0 dX0_init_1 (tp_gt_in (i := 181) (by decide +kernel)) (tp_gt_in (i := 67) (by decide +kernel)) (tp_gt_in (i := 68) (by decide +kernel)) (Nat.le_of_ble_eq_true rfl) (Nat.le_of_ble_eq_true rfl) ?_
  refine ct_fo Z h00 (ctor_X6 l) 9 11 (C' := RX6) (T' := TX6) (N' := 5) rfl (ty0 := tyX6) tyX6_ok (by decide +kernel) (tp_gt_in (i := 182) (by decide +kernel)) (tp_gt_in (i := 183) (by decide +kernel)) (tp_gt_in (i := 52) (by decide +kernel)) rfl ⟨by decide +kernel, by decide +kernel⟩ (tp_gt_in (i := 185) (by decide +kernel)) (tp_gt_in (i := 186) (by decide +kernel)) (by decide +kernel) ⟨(Nat.le_of_ble_eq_true rfl), (Nat.le_of_ble_eq_true rfl)⟩ (Nat.le_of_ble_eq_true rfl) (Nat.le_of_ble_eq_true rfl) hl.1 dX0_init_4 dX0_init_5 dX0_init_8 dX0_init_9 0 12 dX0_init_12 (ci := 0) (T := TX0) (N := 7) rfl (by decide) hin rfl (tp_gt_in (i := 240) (by decide +kernel)) (by decide +kernel) rfl hW fun q w H locs hS hW => ?_
  obtain ⟨r1, rfl, rfl⟩ := hS
  refine ct_fo Z h00 (ctor_X1 l) 18 20 (C' := RX1) (T' := TX1) (N' := 8) rfl (ty0 := tyX1) tyX1_ok (by decide +kernel) (tp_gt_in (i := 209) (by decide +kernel)) (tp_gt_in (i := 210) (by decide +kernel)) (tp_gt_in (i := 53) (by decide +kernel)) rfl ⟨by decide +kernel, by decide +kernel⟩ (tp_gt_in (i := 212) (by decide +kernel)) (tp_gt_in (i := 213) (by decide +kernel)) (by decide +kernel) ⟨(Nat.le_of_ble_eq_true rfl), (Nat.le_of_ble_eq_true rfl)⟩ (Nat.le_of_ble_eq_true rfl) (Nat.le_of_ble_eq_true rfl) hl.1 dX0_init_15 dX0_init_16 dX0_init_19 dX0_init_20 1 21 dX0_init_23 (ci := 0) (T := TX0) (N := 7) rfl (by decide) hin rfl (tp_gt_in (i := 242) (by decide +kernel)) (by decide +kernel) rfl hW fun q w H locs hS hW => ?_
  obtain ⟨r2, rfl, rfl⟩ := hS
  refine ct_fo Z h00 (ctor_X1 l) 18 20 (C' := RX1) (T' := TX1) (N' := 8) rfl (ty0 := tyX1) tyX1_ok (by decide +kernel) (tp_gt_in (i := 209) (by decide +kernel)) (tp_gt_in (i := 210) (by decide +kernel)) (tp_gt_in (i := 53) (by decide +kernel)) rfl ⟨by decide +kernel, by decide +kernel⟩ (tp_gt_in (i := 212) (by decide +kernel)) (tp_gt_in (i := 213) (by decide +kernel)) (by decide +kernel) ⟨(Nat.le_of_ble_eq_true rfl), (Nat.le_of_ble_eq_true rfl)⟩ (Nat.le_of_ble_eq_true rfl) (Nat.le_of_ble_eq_true rfl) hl.1 dX0_init_26 dX0_init_27 dX0_init_30 dX0_init_31 3 25 dX0_init_34 (ci := 0) (T := TX0) (N := 7) rfl (by decide) hin rfl (tp_gt_in (i := 246) (by decide +kernel)) (by decide +kernel) rfl hW fun q w H locs hS hW => ?_
  obtain ⟨r3, rfl, rfl⟩ := hS
  refine ct_fa Z ct_aki h00 3 (n := 3) (by decide) (by decide) (by decide) (p2 := 39) dX0_init_37 (fun kk => lv_iconst Z.1 Z.2.1 dX0_init_38 (by decide) kk) dX0_init_39 4 28 dX0_init_41 (ci := 0) (T := TX0) (N := 7) rfl (by decide) hin rfl (tp_gt_in (i := 247) (by decide +kernel)) (by decide +kernel) rfl (Nat.le_of_ble_eq_true rfl) (Nat.le_of_ble_eq_true rfl) hW fun q4 H locs hW => ?_
  exact ret 44 _ _ _ _ dX0_init_44 ⟨fun i => [h0, r1 0, r1 1, r2 0, r2 1, r2 2, r2 3, r2 4, r2 5, r3 0, r3 1, r3 2, r3 3, r3 4, r3 5, q4].getD i 0, rfl, rfl⟩ hW
theorem dX10_init_0 : decode cX10_init 0 = .ok (.aload_n 0, 1) := by decide +kernel
theorem dX10_init_1 : decode cX10_init 1 = .ok (.invokespecial 1, 3) := by decide +kernel
theorem dX10_init_4 : decode cX10_init 4 = .ok (.aload_n 0, 1) := by decide +kernel
theorem dX10_init_5 : decode cX10_init 5 = .ok (.iconst 5, 1) := by decide +kernel
theorem dX10_init_6 : decode cX10_init 6 = .ok (.newarray .int, 2) := by decide +kernel
theorem dX10_init_8 : decode cX10_init 8 = .ok (.putfield 7, 3) := by decide +kernel
theorem dX10_init_11 : decode cX10_init 11 = .ok (.aload_n 0, 1) := by decide +kernel
theorem dX10_init_12 : decode cX10_init 12 = .ok (.iconst 5, 1) := by decide +kernel
theorem dX10_init_13 : decode cX10_init 13 = .ok (.newarray .int, 2) := by decide +kernel
theorem dX10_init_15 : decode cX10_init 15 = .ok (.putfield 13, 3) := by decide +kernel
theorem dX10_init_18 : decode cX10_init 18 = .ok (.aload_n 0, 1) := by decide +kernel
theorem dX10_init_19 : decode cX10_init 19 = .ok (.bipush 30, 2) := by decide +kernel
theorem dX10_init_21 : decode cX10_init 21 = .ok (.newarray .int, 2) := by decide +kernel
theorem dX10_init_23 : decode cX10_init 23 = .ok (.putfield 16, 3) := by decide +kernel
theorem dX10_init_26 : decode cX10_init 26 = .ok (.aload_n 0, 1) := by decide +kernel
theorem dX10_init_27 : decode cX10_init 27 = .ok (.bipush 30, 2) := by decide +kernel
theorem dX10_init_29 : decode cX10_init 29 = .ok (.newarray .int, 2) := by decide +kernel
theorem dX10_init_31 : decode cX10_init 31 = .ok (.putfield 19, 3) := by decide +kernel
theorem dX10_init_34 : decode cX10_init 34 = .ok (.aload_n 0, 1) := by decide +kernel
theorem dX10_init_35 : decode cX10_init 35 = .ok (.bipush 16, 2) := by decide +kernel
theorem dX10_init_37 : decode cX10_init 37 = .ok (.newarray .int, 2) := by decide +kernel
theorem dX10_init_39 : decode cX10_init 39 = .ok (.putfield 22, 3) := by decide +kernel
theorem dX10_init_42 : decode cX10_init 42 = .ok (.aload_n 0, 1) := by decide +kernel
theorem dX10_init_43 : decode cX10_init 43 = .ok (.bipush 16, 2) := by decide +kernel
theorem dX10_init_45 : decode cX10_init 45 = .ok (.newarray .boolean, 2) := by decide +kernel
theorem dX10_init_47 : decode cX10_init 47 = .ok (.putfield 25, 3) := by decide +kernel
theorem dX10_init_50 : decode cX10_init 50 = .ok (.aload_n 0, 1) := by decide +kernel
theorem dX10_init_51 : decode cX10_init 51 = .ok (.bipush 16, 2) := by decide +kernel
theorem dX10_init_53 : decode cX10_init 53 = .ok (.newarray .boolean, 2) := by decide +kernel
theorem dX10_init_55 : decode cX10_init 55 = .ok (.putfield 29, 3) := by decide +kernel
theorem dX10_init_58 : decode cX10_init 58 = .ok (.aload_n 0, 1) := by decide +kernel
theorem dX10_init_59 : decode cX10_init 59 = .ok (.sipush 200, 3) := by decide +kernel
theorem dX10_init_62 : decode cX10_init 62 = .ok (.newarray .int, 2) := by decide +kernel
theorem dX10_init_64 : decode cX10_init 64 = .ok (.putfield 32, 3) := by decide +kernel
theorem dX10_init_67 : decode cX10_init 67 = .ok (.aload_n 0, 1) := by decide +kernel
theorem dX10_init_68 : decode cX10_init 68 = .ok (.sipush 200, 3) := by decide +kernel
theorem dX10_init_71 : decode cX10_init 71 = .ok (.newarray .int, 2) := by decide +kernel
theorem dX10_init_73 : decode cX10_init 73 = .ok (.putfield 35, 3) := by decide +kernel
theorem dX10_init_76 : decode cX10_init 76 = .ok (.aload_n 0, 1) := by decide +kernel
theorem dX10_init_77 : decode cX10_init 77 = .ok (.sipush 200, 3) := by decide +kernel
theorem dX10_init_80 : decode cX10_init 80 = .ok (.newarray .int, 2) := by decide +kernel
theorem dX10_init_82 : decode cX10_init 82 = .ok (.putfield 38, 3) := by decide +kernel
theorem dX10_init_85 : decode cX10_init 85 = .ok (.aload_n 0, 1) := by decide +kernel
theorem dX10_init_86 : decode cX10_init 86 = .ok (.sipush 200, 3) := by decide +kernel
theorem dX10_init_89 : decode cX10_init 89 = .ok (.newarray .int, 2) := by decide +kernel
theorem dX10_init_91 : decode cX10_init 91 = .ok (.putfield 41, 3) := by decide +kernel
theorem dX10_init_94 : decode cX10_init 94 = .ok (.aload_n 0, 1) := by decide +kernel
theorem dX10_init_95 : decode cX10_init 95 = .ok (.iconst 4, 1) := by decide +kernel
theorem dX10_init_96 : decode cX10_init 96 = .ok (.newarray .int, 2) := by decide +kernel
theorem dX10_init_98 : decode cX10_init 98 = .ok (.dup, 1) := by decide +kernel
theorem dX10_init_99 : decode cX10_init 99 = .ok (.iconst 0, 1) := by decide +kernel
theorem dX10_init_100 : decode cX10_init 100 = .ok (.bipush (-4), 2) := by decide +kernel
theorem dX10_init_102 : decode cX10_init 102 = .ok (.iastore, 1) := by decide +kernel
theorem dX10_init_103 : decode cX10_init 103 = .ok (.dup, 1) := by decide +kernel
theorem dX10_init_104 : decode cX10_init 104 = .ok (.iconst 1, 1) := by decide +kernel
theorem dX10_init_105 : decode cX10_init 105 = .ok (.bipush (-4), 2) := by decide +kernel
theorem dX10_init_107 : decode cX10_init 107 = .ok (.iastore, 1) := by decide +kernel
theorem dX10_init_108 : decode cX10_init 108 = .ok (.dup, 1) := by decide +kernel
theorem dX10_init_109 : decode cX10_init 109 = .ok (.iconst 2, 1) := by decide +kernel
theorem dX10_init_110 : decode cX10_init 110 = .ok (.bipush (-4), 2) := by decide +kernel
theorem dX10_init_112 : decode cX10_init 112 = .ok (.iastore, 1) := by decide +kernel
theorem dX10_init_113 : decode cX10_init 113 = .ok (.dup, 1) := by decide +kernel
theorem dX10_init_114 : decode cX10_init 114 = .ok (.iconst 3, 1) := by decide +kernel
theorem dX10_init_115 : decode cX10_init 115 = .ok (.bipush (-4), 2) := by decide +kernel
theorem dX10_init_117 : decode cX10_init 117 = .ok (.iastore, 1) := by decide +kernel
theorem dX10_init_118 : decode cX10_init 118 = .ok (.putfield 44, 3) := by decide +kernel
theorem dX10_init_121 : decode cX10_init 121 = .ok (.aload_n 0, 1) := by decide +kernel
theorem dX10_init_122 : decode cX10_init 122 = .ok (.iconst 4, 1) := by decide +kernel
theorem dX10_init_123 : decode cX10_init 123 = .ok (.newarray .int, 2) := by decide +kernel
theorem dX10_init_125 : decode cX10_init 125 = .ok (.putfield 47, 3) := by decide +kernel
theorem dX10_init_128 : decode cX10_init 128 = .ok (.aload_n 0, 1) := by decide +kernel
theorem dX10_init_129 : decode cX10_init 129 = .ok (.sipush 256, 3) := by decide +kernel
theorem dX10_init_132 : decode cX10_init 132 = .ok (.newarray .int, 2) := by decide +kernel
theorem dX10_init_134 : decode cX10_init 134 = .ok (.putfield 50, 3) := by decide +kernel
theorem dX10_init_137 : decode cX10_init 137 = .ok (.aload_n 0, 1) := by decide +kernel
theorem dX10_init_138 : decode cX10_init 138 = .ok (.sipush 200, 3) := by decide +kernel
theorem dX10_init_141 : decode cX10_init 141 = .ok (.newarray .int, 2) := by decide +kernel
theorem dX10_init_143 : decode cX10_init 143 = .ok (.putfield 53, 3) := by decide +kernel
theorem dX10_init_146 : decode cX10_init 146 = .ok (.aload_n 0, 1) := by decide +kernel
theorem dX10_init_147 : decode cX10_init 147 = .ok (.bipush 18, 2) := by decide +kernel
theorem dX10_init_149 : decode cX10_init 149 = .ok (.newarray .int, 2) := by decide +kernel
theorem dX10_init_151 : decode cX10_init 151 = .ok (.putfield 56, 3) := by decide +kernel
theorem dX10_init_154 : decode cX10_init 154 = .ok (.aload_n 0, 1) := by decide +kernel
theorem dX10_init_155 : decode cX10_init 155 = .ok (.bipush 12, 2) := by decide +kernel
theorem dX10_init_157 : decode cX10_init 157 = .ok (.newarray .int, 2) := by decide +kernel
theorem dX10_init_159 : decode cX10_init 159 = .ok (.putfield 59, 3) := by decide +kernel
theorem dX10_init_162 : decode cX10_init 162 = .ok (.aload_n 0, 1) := by decide +kernel
theorem dX10_init_163 : decode cX10_init 163 = .ok (.bipush (-4), 2) := by decide +kernel
theorem dX10_init_165 : decode cX10_init 165 = .ok (.putfield 62, 3) := by decide +kernel
theorem dX10_init_168 : decode cX10_init 168 = .ok (.aload_n 0, 1) := by decide +kernel
theorem dX10_init_169 : decode cX10_init 169 = .ok (.bipush 6, 2) := by decide +kernel
theorem dX10_init_171 : decode cX10_init 171 = .ok (.newarray .int, 2) := by decide +kernel
theorem dX10_init_173 : decode cX10_init 173 = .ok (.putfield 66, 3) := by decide +kernel
theorem dX10_init_176 : decode cX10_init 176 = .ok (.aload_n 0, 1) := by decide +kernel
theorem dX10_init_177 : decode cX10_init 177 = .ok (.bipush 18, 2) := by decide +kernel
theorem dX10_init_179 : decode cX10_init 179 = .ok (.newarray .int, 2) := by decide +kernel
theorem dX10_init_181 : decode cX10_init 181 = .ok (.putfield 69, 3) := by decide +kernel
theorem dX10_init_184 : decode cX10_init 184 = .ok (.aload_n 0, 1) := by decide +kernel
theorem dX10_init_185 : decode cX10_init 185 = .ok (.bipush 12, 2) := by decide +kernel
theorem dX10_init_187 : decode cX10_init 187 = .ok (.newarray .int, 2) := by decide +kernel
theorem dX10_init_189 : decode cX10_init 189 = .ok (.putfield 72, 3) := by decide +kernel
theorem dX10_init_192 : decode cX10_init 192 = .ok (.aload_n 0, 1) := by decide +kernel
theorem dX10_init_193 : decode cX10_init 193 = .ok (.bipush 10, 2) := by decide +kernel
theorem dX10_init_195 : decode cX10_init 195 = .ok (.newarray .int, 2) := by decide +kernel
theorem dX10_init_197 : decode cX10_init 197 = .ok (.putfield 75, 3) := by decide +kernel
theorem dX10_init_200 : decode cX10_init 200 = .ok (.aload_n 0, 1) := by decide +kernel
theorem dX10_init_201 : decode cX10_init 201 = .ok (.bipush 10, 2) := by decide +kernel
theorem dX10_init_203 : decode cX10_init 203 = .ok (.newarray .int, 2) := by decide +kernel
theorem dX10_init_205 : decode cX10_init 205 = .ok (.putfield 78, 3) := by decide +kernel
theorem dX10_init_208 : decode cX10_init 208 = .ok (.aload_n 0, 1) := by decide +kernel
theorem dX10_init_209 : decode cX10_init 209 = .ok (.bipush 30, 2) := by decide +kernel
theorem dX10_init_211 : decode cX10_init 211 = .ok (.putfield 81, 3) := by decide +kernel
theorem dX10_init_214 : decode cX10_init 214 = .ok (.aload_n 0, 1) := by decide +kernel
theorem dX10_init_215 : decode cX10_init 215 = .ok (.bipush 10, 2) := by decide +kernel
theorem dX10_init_217 : decode cX10_init 217 = .ok (.newarray .int, 2) := by decide +kernel
theorem dX10_init_219 : decode cX10_init 219 = .ok (.putfield 84, 3) := by decide +kernel
theorem dX10_init_222 : decode cX10_init 222 = .ok (.return_, 1) := by decide +kernel
def sw_X10 (cs : tp_CS) (r : Nat → Nat) : va_W := [((r 0), .inr (10, [.int 0, .ref (r 1), .ref (r 2), .ref (r 3), .ref (r 4), .int 0, .ref (r 5), .ref (r 6), .ref (r 7), .int 0, .ref (r 8), .ref (r 9), .ref (r 10), .ref (r 11), .ref (r 12), .ref (r 13), .ref (r 14), .ref (r 15), .int 0, .int 0, .int 0, .ref (r 16), .int 0, .ref (r 17), .int (-4), .int 0, .int 0, .int 0, .int 0, .int 0, .int 0, .int 0, .ref (r 18), .int 0, .int 0, .int 0, .ref (r 19), .ref (r 20), .int 0, .ref (r 21), .ref (r 22), .int 30, .ref (r 23), .int 0])),
  ((r 1), .inl (cs.1, 5, .inl fun _ => 0)),
  ((r 2), .inl (cs.1, 5, .inl fun _ => 0)),
  ((r 3), .inl (cs.1, 30, .inl fun _ => 0)),
  ((r 4), .inl (cs.1, 30, .inl fun _ => 0)),
  ((r 5), .inl (cs.1, 16, .inl fun _ => 0)),
  ((r 6), .inl (cs.2.2.1, 16, .inl fun _ => 0)),
  ((r 7), .inl (cs.2.2.1, 16, .inl fun _ => 0)),
  ((r 8), .inl (cs.1, 200, .inl fun _ => 0)),
  ((r 9), .inl (cs.1, 200, .inl fun _ => 0)),
  ((r 10), .inl (cs.1, 200, .inl fun _ => 0)),
  ((r 11), .inl (cs.1, 200, .inl fun _ => 0)),
  ((r 12), .inl (cs.1, 4, .inl (upd (upd (upd (upd (fun _ => 0) 0 (-4)) 1 (-4)) 2 (-4)) 3 (-4)))),
  ((r 13), .inl (cs.1, 4, .inl fun _ => 0)),
  ((r 14), .inl (cs.1, 256, .inl fun _ => 0)),
  ((r 15), .inl (cs.1, 200, .inl fun _ => 0)),
  ((r 16), .inl (cs.1, 18, .inl fun _ => 0)),
  ((r 17), .inl (cs.1, 12, .inl fun _ => 0)),
  ((r 18), .inl (cs.1, 6, .inl fun _ => 0)),
  ((r 19), .inl (cs.1, 18, .inl fun _ => 0)),
  ((r 20), .inl (cs.1, 12, .inl fun _ => 0)),
  ((r 21), .inl (cs.1, 10, .inl fun _ => 0)),
  ((r 22), .inl (cs.1, 10, .inl fun _ => 0)),
  ((r 23), .inl (cs.1, 10, .inl fun _ => 0))]
def sh_X10 (h0 : Nat) (cs : tp_CS) (w : va_W) : Prop := ∃ (r : Nat → Nat), r 0 = h0 ∧ w = sw_X10 cs r
set_option maxHeartbeats 4000000 in
set_option maxRecDepth 100000 in
theorem ctor_X10 (l : Launch) : ct_Met l yX10_init cX10_init 1 1 12 23 1478 10 [.int 0, .null, .null, .null, .null, .int 0, .null, .null, .null, .int 0, .null, .null, .null, .null, .null, .null, .null, .null, .int 0, .int 0, .int 0, .null, .int 0, .null, .int 0, .int 0, .int 0, .int 0, .int 0, .int 0, .int 0, .int 0, .null, .int 0, .int 0, .int 0, .null, .null, .int 0, .null, .null, .int 0, .null, .int 0] sh_X10 := by
  refine ct_of (by decide +kernel) rfl (by decide) fun p e s m args below meth c D cs A h0 ls Q Z hin h00 hl hW ret => ?_
  refine ct_obj Z h00 hl.1 dX10_init_0 dX10_init_1 (tp_gt_in (i := 800) (by decide +kernel)) (tp_gt_in (i := 67) (by decide +kernel)) (tp_gt_in (i := 68) (by decide +kernel)) (Nat.le_of_ble_eq_true rfl) (Nat.le_of_ble_eq_true rfl) ?_
  refine ct_fa Z ct_aki h00 5 (n := 5) (by decide) (by decide) (by decide) (p2 := 6) dX10_init_4 (fun kk => lv_iconst Z.1 Z.2.1 dX10_init_5 (by decide) kk) dX10_init_6 1 7 dX10_init_8 (ci := 10) (T := TX10) (N := 44) rfl (by decide) hin rfl (tp_gt_in (i := 802) (by decide +kernel)) (by decide +kernel) rfl (Nat.le_of_ble_eq_true rfl) (Nat.le_of_ble_eq_true rfl) hW fun q1 H locs hW => ?_
  have hW : ct_W D A s [(h0, .inr (10, [.int 0, .ref q1, .null, .null, .null, .int 0, .null, .null, .null, .int 0, .null, .null, .null, .null, .null, .null, .null, .null, .int 0, .int 0, .int 0, .null, .int 0, .null, .int 0, .int 0, .int 0, .int 0, .int 0, .int 0, .int 0, .int 0, .null, .int 0, .int 0, .int 0, .null, .null, .int 0, .null, .null, .int 0, .null, .int 0])), (q1, .inl (cs.1, 5, .inl fun _ => 0))] H locs := hW
  refine ct_fa Z ct_aki h00 5 (n := 5) (by decide) (by decide) (by decide) (p2 := 13) dX10_init_11 (fun kk => lv_iconst Z.1 Z.2.1 dX10_init_12 (by decide) kk) dX10_init_13 2 13 dX10_init_15 (ci := 10) (T := TX10) (N := 44) rfl (by decide) hin rfl (tp_gt_in (i := 803) (by decide +kernel)) (by decide +kernel) rfl (Nat.le_of_ble_eq_true rfl) (Nat.le_of_ble_eq_true rfl) hW fun q2 H locs hW => ?_
  have hW : ct_W D A s [(h0, .inr (10, [.int 0, .ref q1, .ref q2, .null, .null, .int 0, .null, .null, .null, .int 0, .null, .null, .null, .null, .null, .null, .null, .null, .int 0, .int 0, .int 0, .null, .int 0, .null, .int 0, .int 0, .int 0, .int 0, .int 0, .int 0, .int 0, .int 0, .null, .int 0, .int 0, .int 0, .null, .null, .int 0, .null, .null, .int 0, .null, .int 0])), (q1, .inl (cs.1, 5, .inl fun _ => 0)), (q2, .inl (cs.1, 5, .inl fun _ => 0))] H locs := hW
  refine ct_fa Z ct_aki h00 30 (n := 30) (by decide) (by decide) (by decide) (p2 := 21) dX10_init_18 (fun kk => lv_bipush Z.1 Z.2.1 dX10_init_19 (by decide) kk) dX10_init_21 3 16 dX10_init_23 (ci := 10) (T := TX10) (N := 44) rfl (by decide) hin rfl (tp_gt_in (i := 804) (by decide +kernel)) (by decide +kernel) rfl (Nat.le_of_ble_eq_true rfl) (Nat.le_of_ble_eq_true rfl) hW fun q3 H locs hW => ?_
  have hW : ct_W D A s [(h0, .inr (10, [.int 0, .ref q1, .ref q2, .ref q3, .null, .int 0, .null, .null, .null, .int 0, .null, .null, .null, .null, .null, .null, .null, .null, .int 0, .int 0, .int 0, .null, .int 0, .null, .int 0, .int 0, .int 0, .int 0, .int 0, .int 0, .int 0, .int 0, .null, .int 0, .int 0, .int 0, .null, .null, .int 0, .null, .null, .int 0, .null, .int 0])), (q1, .inl (cs.1, 5, .inl fun _ => 0)), (q2, .inl (cs.1, 5, .inl fun _ => 0)), (q3, .inl (cs.1, 30, .inl fun _ => 0))] H locs := hW
  refine ct_fa Z ct_aki h00 30 (n := 30) (by decide) (by decide) (by decide) (p2 := 29) dX10_init_26 (fun kk => lv_bipush Z.1 Z.2.1 dX10_init_27 (by decide) kk) dX10_init_29 4 19 dX10_init_31 (ci := 10) (T := TX10) (N := 44) rfl (by decide) hin rfl (tp_gt_in (i := 805) (by decide +kernel)) (by decide +kernel) rfl (Nat.le_of_ble_eq_true rfl) (Nat.le_of_ble_eq_true rfl) hW fun q4 H locs hW => ?_
  have hW : ct_W D A s [(h0, .inr (10, [.int 0, .ref q1, .ref q2, .ref q3, .ref q4, .int 0, .null, .null, .null, .int 0, .null, .null, .null, .null, .null, .null, .null, .null, .int 0, .int 0, .int 0, .null, .int 0, .null, .int 0, .int 0, .int 0, .int 0, .int 0, .int 0, .int 0, .int 0, .null, .int 0, .int 0, .int 0, .null, .null, .int 0, .null, .null, .int 0, .null, .int 0])), (q1, .inl (cs.1, 5, .inl fun _ => 0)), (q2, .inl (cs.1, 5, .inl fun _ => 0)), (q3, .inl (cs.1, 30, .inl fun _ => 0)), (q4, .inl (cs.1, 30, .inl fun _ => 0))] H locs := hW
  refine ct_fa Z ct_aki h00 16 (n := 16) (by decide) (by decide) (by decide) (p2 := 37) dX10_init_34 (fun kk => lv_bipush Z.1 Z.2.1 dX10_init_35 (by decide) kk) dX10_init_37 6 22 dX10_init_39 (ci := 10) (T := TX10) (N := 44) rfl (by decide) hin rfl (tp_gt_in (i := 807) (by decide +kernel)) (by decide +kernel) rfl (Nat.le_of_ble_eq_true rfl) (Nat.le_of_ble_eq_true rfl) hW fun q5 H locs hW => ?_
  have hW : ct_W D A s [(h0, .inr (10, [.int 0, .ref q1, .ref q2, .ref q3, .ref q4, .int 0, .ref q5, .null, .null, .int 0, .null, .null, .null, .null, .null, .null, .null, .null, .int 0, .int 0, .int 0, .null, .int 0, .null, .int 0, .int 0, .int 0, .int 0, .int 0, .int 0, .int 0, .int 0, .null, .int 0, .int 0, .int 0, .null, .null, .int 0, .null, .null, .int 0, .null, .int 0])), (q1, .inl (cs.1, 5, .inl fun _ => 0)), (q2, .inl (cs.1, 5, .inl fun _ => 0)), (q3, .inl (cs.1, 30, .inl fun _ => 0)), (q4, .inl (cs.1, 30, .inl fun _ => 0)), (q5, .inl (cs.1, 16, .inl fun _ => 0))] H locs := hW
  refine ct_fa Z ct_akz h00 16 (n := 16) (by decide) (by decide) (by decide) (p2 := 45) dX10_init_42 (fun kk => lv_bipush Z.1 Z.2.1 dX10_init_43 (by decide) kk) dX10_init_45 7 25 dX10_init_47 (ci := 10) (T := TX10) (N := 44) rfl (by decide) hin rfl (tp_gt_in (i := 808) (by decide +kernel)) (by decide +kernel) rfl (Nat.le_of_ble_eq_true rfl) (Nat.le_of_ble_eq_true rfl) hW fun q6 H locs hW => ?_
  have hW : ct_W D A s [(h0, .inr (10, [.int 0, .ref q1, .ref q2, .ref q3, .ref q4, .int 0, .ref q5, .ref q6, .null, .int 0, .null, .null, .null, .null, .null, .null, .null, .null, .int 0, .int 0, .int 0, .null, .int 0, .null, .int 0, .int 0, .int 0, .int 0, .int 0, .int 0, .int 0, .int 0, .null, .int 0, .int 0, .int 0, .null, .null, .int 0, .null, .null, .int 0, .null, .int 0])), (q1, .inl (cs.1, 5, .inl fun _ => 0)), (q2, .inl (cs.1, 5, .inl fun _ => 0)), (q3, .inl (cs.1, 30, .inl fun _ => 0)), (q4, .inl (cs.1, 30, .inl fun _ => 0)), (q5, .inl (cs.1, 16, .inl fun _ => 0)), (q6, .inl (cs.2.2.1, 16, .inl fun _ => 0))] H locs := hW
  refine ct_fa Z ct_akz h00 16 (n := 16) (by decide) (by decide) (by decide) (p2 := 53) dX10_init_50 (fun kk => lv_bipush Z.1 Z.2.1 dX10_init_51 (by decide) kk) dX10_init_53 8 29 dX10_init_55 (ci := 10) (T := TX10) (N := 44) rfl (by decide) hin rfl (tp_gt_in (i := 809) (by decide +kernel)) (by decide +kernel) rfl (Nat.le_of_ble_eq_true rfl) (Nat.le_of_ble_eq_true rfl) hW fun q7 H locs hW => ?_
  have hW : ct_W D A s [(h0, .inr (10, [.int 0, .ref q1, .ref q2, .ref q3, .ref q4, .int 0, .ref q5, .ref q6, .ref q7, .int 0, .null, .null, .null, .null, .null, .null, .null, .null, .int 0, .int 0, .int 0, .null, .int 0, .null, .int 0, .int 0, .int 0, .int 0, .int 0, .int 0, .int 0, .int 0, .null, .int 0, .int 0, .int 0, .null, .null, .int 0, .null, .null, .int 0, .null, .int 0])), (q1, .inl (cs.1, 5, .inl fun _ => 0)), (q2, .inl (cs.1, 5, .inl fun _ => 0)), (q3, .inl (cs.1, 30, .inl fun _ => 0)), (q4, .inl (cs.1, 30, .inl fun _ => 0)), (q5, .inl (cs.1, 16, .inl fun _ => 0)), (q6, .inl (cs.2.2.1, 16, .inl fun _ => 0)), (q7, .inl (cs.2.2.1, 16, .inl fun _ => 0))] H locs := hW
  refine ct_fa Z ct_aki h00 200 (n := 200) (by decide) (by decide) (by decide) (p2 := 62) dX10_init_58 (fun kk => lv_sipush Z.1 Z.2.1 dX10_init_59 (by decide) kk) dX10_init_62 10 32 dX10_init_64 (ci := 10) (T := TX10) (N := 44) rfl (by decide) hin rfl (tp_gt_in (i := 811) (by decide +kernel)) (by decide +kernel) rfl (Nat.le_of_ble_eq_true rfl) (Nat.le_of_ble_eq_true rfl) hW fun q8 H locs hW => ?_
  have hW : ct_W D A s [(h0, .inr (10, [.int 0, .ref q1, .ref q2, .ref q3, .ref q4, .int 0, .ref q5, .ref q6, .ref q7, .int 0, .ref q8, .null, .null, .null, .null, .null, .null, .null, .int 0, .int 0, .int 0, .null, .int 0, .null, .int 0, .int 0, .int 0, .int 0, .int 0, .int 0, .int 0, .int 0, .null, .int 0, .int 0, .int 0, .null, .null, .int 0, .null, .null, .int 0, .null, .int 0])), (q1, .inl (cs.1, 5, .inl fun _ => 0)), (q2, .inl (cs.1, 5, .inl fun _ => 0)), (q3, .inl (cs.1, 30, .inl fun _ => 0)), (q4, .inl (cs.1, 30, .inl fun _ => 0)), (q5, .inl (cs.1, 16, .inl fun _ => 0)), (q6, .inl (cs.2.2.1, 16, .inl fun _ => 0)), (q7, .inl (cs.2.2.1, 16, .inl fun _ => 0)), (q8, .inl (cs.1, 200, .inl fun _ => 0))] H locs := hW
  refine ct_fa Z ct_aki h00 200 (n := 200) (by decide) (by decide) (by decide) (p2 := 71) dX10_init_67 (fun kk => lv_sipush Z.1 Z.2.1 dX10_init_68 (by decide) kk) dX10_init_71 11 35 dX10_init_73 (ci := 10) (T := TX10) (N := 44) rfl (by decide) hin rfl (tp_gt_in (i := 812) (by decide +kernel)) (by decide +kernel) rfl (Nat.le_of_ble_eq_true rfl) (Nat.le_of_ble_eq_true rfl) hW fun q9 H locs hW => ?_
  have hW : ct_W D A s [(h0, .inr (10, [.int 0, .ref q1, .ref q2, .ref q3, .ref q4, .int 0, .ref q5, .ref q6, .ref q7, .int 0, .ref q8, .ref q9, .null, .null, .null, .null, .null, .null, .int 0, .int 0, .int 0, .null, .int 0, .null, .int 0, .int 0, .int 0, .int 0, .int 0, .int 0, .int 0, .int 0, .null, .int 0, .int 0, .int 0, .null, .null, .int 0, .null, .null, .int 0, .null, .int 0])), (q1, .inl (cs.1, 5, .inl fun _ => 0)), (q2, .inl (cs.1, 5, .inl fun _ => 0)), (q3, .inl (cs.1, 30, .inl fun _ => 0)), (q4, .inl (cs.1, 30, .inl fun _ => 0)), (q5, .inl (cs.1, 16, .inl fun _ => 0)), (q6, .inl (cs.2.2.1, 16, .inl fun _ => 0)), (q7, .inl (cs.2.2.1, 16, .inl fun _ => 0)), (q8, .inl (cs.1, 200, .inl fun _ => 0)), (q9, .inl (cs.1, 200, .inl fun _ => 0))] H locs := hW
  refine ct_fa Z ct_aki h00 200 (n := 200) (by decide) (by decide) (by decide) (p2 := 80) dX10_init_76 (fun kk => lv_sipush Z.1 Z.2.1 dX10_init_77 (by decide) kk) dX10_init_80 12 38 dX10_init_82 (ci := 10) (T := TX10) (N := 44) rfl (by decide) hin rfl (tp_gt_in (i := 813) (by decide +kernel)) (by decide +kernel) rfl (Nat.le_of_ble_eq_true rfl) (Nat.le_of_ble_eq_true rfl) hW fun q10 H locs hW => ?_
  have hW : ct_W D A s [(h0, .inr (10, [.int 0, .ref q1, .ref q2, .ref q3, .ref q4, .int 0, .ref q5, .ref q6, .ref q7, .int 0, .ref q8, .ref q9, .ref q10, .null, .null, .null, .null, .null, .int 0, .int 0, .int 0, .null, .int 0, .null, .int 0, .int 0, .int 0, .int 0, .int 0, .int 0, .int 0, .int 0, .null, .int 0, .int 0, .int 0, .null, .null, .int 0, .null, .null, .int 0, .null, .int 0])), (q1, .inl (cs.1, 5, .inl fun _ => 0)), (q2, .inl (cs.1, 5, .inl fun _ => 0)), (q3, .inl (cs.1, 30, .inl fun _ => 0)), (q4, .inl (cs.1, 30, .inl fun _ => 0)), (q5, .inl (cs.1, 16, .inl fun _ => 0)), (q6, .inl (cs.2.2.1, 16, .inl fun _ => 0)), (q7, .inl (cs.2.2.1, 16, .inl fun _ => 0)), (q8, .inl (cs.1, 200, .inl fun _ => 0)), (q9, .inl (cs.1, 200, .inl fun _ => 0)), (q10, .inl (cs.1, 200, .inl fun _ => 0))] H locs := hW
  refine ct_fa Z ct_aki h00 200 (n := 200) (by decide) (by decide) (by decide) (p2 := 89) dX10_init_85 (fun kk => lv_sipush Z.1 Z.2.1 dX10_init_86 (by decide) kk) dX10_init_89 13 41 dX10_init_91 (ci := 10) (T := TX10) (N := 44) rfl (by decide) hin rfl (tp_gt_in (i := 814) (by decide +kernel)) (by decide +kernel) rfl (Nat.le_of_ble_eq_true rfl) (Nat.le_of_ble_eq_true rfl) hW fun q11 H locs hW => ?_
  have hW : ct_W D A s [(h0, .inr (10, [.int 0, .ref q1, .ref q2, .ref q3, .ref q4, .int 0, .ref q5, .ref q6, .ref q7, .int 0, .ref q8, .ref q9, .ref q10, .ref q11, .null, .null, .null, .null, .int 0, .int 0, .int 0, .null, .int 0, .null, .int 0, .int 0, .int 0, .int 0, .int 0, .int 0, .int 0, .int 0, .null, .int 0, .int 0, .int 0, .null, .null, .int 0, .null, .null, .int 0, .null, .int 0])), (q1, .inl (cs.1, 5, .inl fun _ => 0)), (q2, .inl (cs.1, 5, .inl fun _ => 0)), (q3, .inl (cs.1, 30, .inl fun _ => 0)), (q4, .inl (cs.1, 30, .inl fun _ => 0)), (q5, .inl (cs.1, 16, .inl fun _ => 0)), (q6, .inl (cs.2.2.1, 16, .inl fun _ => 0)), (q7, .inl (cs.2.2.1, 16, .inl fun _ => 0)), (q8, .inl (cs.1, 200, .inl fun _ => 0)), (q9, .inl (cs.1, 200, .inl fun _ => 0)), (q10, .inl (cs.1, 200, .inl fun _ => 0)), (q11, .inl (cs.1, 200, .inl fun _ => 0))] H locs := hW
  refine lv_aload_n (i := 0) Z.1 Z.2.1 dX10_init_94 rfl h00 ?_
  refine lv_iconst (v := 4) Z.1 Z.2.1 dX10_init_95 (by decide) ?_
  refine ct_newa Z ct_aki 4 (by decide) (by decide) (by decide) (Nat.le_of_ble_eq_true rfl) (Nat.le_of_ble_eq_true rfl) dX10_init_96 hW fun q12 H hW => ?_
  refine ct_lane Z 0 (-4) 0 (by decide) (show ¬ ((0 : Int32) < 0 ∨ 4 ≤ (0 : Int32).toNatClampNeg) by decide) (p2 := 102) dX10_init_98 (fun kk => lv_iconst Z.1 Z.2.1 dX10_init_99 (by decide) (lv_bipush Z.1 Z.2.1 dX10_init_100 (by decide) kk)) dX10_init_102 hW fun H locs hW => ?_
  refine ct_lane Z 1 (-4) 1 (by decide) (show ¬ ((1 : Int32) < 0 ∨ 4 ≤ (1 : Int32).toNatClampNeg) by decide) (p2 := 107) dX10_init_103 (fun kk => lv_iconst Z.1 Z.2.1 dX10_init_104 (by decide) (lv_bipush Z.1 Z.2.1 dX10_init_105 (by decide) kk)) dX10_init_107 hW fun H locs hW => ?_
  refine ct_lane Z 2 (-4) 2 (by decide) (show ¬ ((2 : Int32) < 0 ∨ 4 ≤ (2 : Int32).toNatClampNeg) by decide) (p2 := 112) dX10_init_108 (fun kk => lv_iconst Z.1 Z.2.1 dX10_init_109 (by decide) (lv_bipush Z.1 Z.2.1 dX10_init_110 (by decide) kk)) dX10_init_112 hW fun H locs hW => ?_
  refine ct_lane Z 3 (-4) 3 (by decide) (show ¬ ((3 : Int32) < 0 ∨ 4 ≤ (3 : Int32).toNatClampNeg) by decide) (p2 := 117) dX10_init_113 (fun kk => lv_iconst Z.1 Z.2.1 dX10_init_114 (by decide) (lv_bipush Z.1 Z.2.1 dX10_init_115 (by decide) kk)) dX10_init_117 hW fun H locs hW => ?_
  refine ct_put Z 14 44 (ci := 10) (T := TX10) (N := 44) rfl (by decide) hin rfl (tp_gt_in (i := 815) (by decide +kernel)) (ty := .array .int) (by decide +kernel) rfl rfl rfl dX10_init_118 hW fun H locs hW => ?_
  have hW : ct_W D A s [(h0, .inr (10, [.int 0, .ref q1, .ref q2, .ref q3, .ref q4, .int 0, .ref q5, .ref q6, .ref q7, .int 0, .ref q8, .ref q9, .ref q10, .ref q11, .ref q12, .null, .null, .null, .int 0, .int 0, .int 0, .null, .int 0, .null, .int 0, .int 0, .int 0, .int 0, .int 0, .int 0, .int 0, .int 0, .null, .int 0, .int 0, .int 0, .null, .null, .int 0, .null, .null, .int 0, .null, .int 0])), (q1, .inl (cs.1, 5, .inl fun _ => 0)), (q2, .inl (cs.1, 5, .inl fun _ => 0)), (q3, .inl (cs.1, 30, .inl fun _ => 0)), (q4, .inl (cs.1, 30, .inl fun _ => 0)), (q5, .inl (cs.1, 16, .inl fun _ => 0)), (q6, .inl (cs.2.2.1, 16, .inl fun _ => 0)), (q7, .inl (cs.2.2.1, 16, .inl fun _ => 0)), (q8, .inl (cs.1, 200, .inl fun _ => 0)), (q9, .inl (cs.1, 200, .inl fun _ => 0)), (q10, .inl (cs.1, 200, .inl fun _ => 0)), (q11, .inl (cs.1, 200, .inl fun _ => 0)), (q12, .inl (cs.1, 4, .inl (upd (upd (upd (upd (fun _ => 0) 0 (-4)) 1 (-4)) 2 (-4)) 3 (-4))))] H locs := hW
  refine ct_fa Z ct_aki h00 4 (n := 4) (by decide) (by decide) (by decide) (p2 := 123) dX10_init_121 (fun kk => lv_iconst Z.1 Z.2.1 dX10_init_122 (by decide) kk) dX10_init_123 15 47 dX10_init_125 (ci := 10) (T := TX10) (N := 44) rfl (by decide) hin rfl (tp_gt_in (i := 816) (by decide +kernel)) (by decide +kernel) rfl (Nat.le_of_ble_eq_true rfl) (Nat.le_of_ble_eq_true rfl) hW fun q13 H locs hW => ?_
  have hW : ct_W D A s [(h0, .inr (10, [.int 0, .ref q1, .ref q2, .ref q3, .ref q4, .int 0, .ref q5, .ref q6, .ref q7, .int 0, .ref q8, .ref q9, .ref q10, .ref q11, .ref q12, .ref q13, .null, .null, .int 0, .int 0, .int 0, .null, .int 0, .null, .int 0, .int 0, .int 0, .int 0, .int 0, .int 0, .int 0, .int 0, .null, .int 0, .int 0, .int 0, .null, .null, .int 0, .null, .null, .int 0, .null, .int 0])), (q1, .inl (cs.1, 5, .inl fun _ => 0)), (q2, .inl (cs.1, 5, .inl fun _ => 0)), (q3, .inl (cs.1, 30, .inl fun _ => 0)), (q4, .inl (cs.1, 30, .inl fun _ => 0)), (q5, .inl (cs.1, 16, .inl fun _ => 0)), (q6, .inl (cs.2.2.1, 16, .inl fun _ => 0)), (q7, .inl (cs.2.2.1, 16, .inl fun _ => 0)), (q8, .inl (cs.1, 200, .inl fun _ => 0)), (q9, .inl (cs.1, 200, .inl fun _ => 0)), (q10, .inl (cs.1, 200, .inl fun _ => 0)), (q11, .inl (cs.1, 200, .inl fun _ => 0)), (q12, .inl (cs.1, 4, .inl (upd (upd (upd (upd (fun _ => 0) 0 (-4)) 1 (-4)) 2 (-4)) 3 (-4)))), (q13, .inl (cs.1, 4, .inl fun _ => 0))] H locs := hW
  refine ct_fa Z ct_aki h00 256 (n := 256) (by decide) (by decide) (by decide) (p2 := 132) dX10_init_128 (fun kk => lv_sipush Z.1 Z.2.1 dX10_init_129 (by decide) kk) dX10_init_132 16 50 dX10_init_134 (ci := 10) (T := TX10) (N := 44) rfl (by decide) hin rfl (tp_gt_in (i := 817) (by decide +kernel)) (by decide +kernel) rfl (Nat.le_of_ble_eq_true rfl) (Nat.le_of_ble_eq_true rfl) hW fun q14 H locs hW => ?_
  have hW : ct_W D A s [(h0, .inr (10, [.int 0, .ref q1, .ref q2, .ref q3, .ref q4, .int 0, .ref q5, .ref q6, .ref q7, .int 0, .ref q8, .ref q9, .ref q10, .ref q11, .ref q12, .ref q13, .ref q14, .null, .int 0, .int 0, .int 0, .null, .int 0, .null, .int 0, .int 0, .int 0, .int 0, .int 0, .int 0, .int 0, .int 0, .null, .int 0, .int 0, .int 0, .null, .null, .int 0, .null, .null, .int 0, .null, .int 0])), (q1, .inl (cs.1, 5, .inl fun _ => 0)), (q2, .inl (cs.1, 5, .inl fun _ => 0)), (q3, .inl (cs.1, 30, .inl fun _ => 0)), (q4, .inl (cs.1, 30, .inl fun _ => 0)), (q5, .inl (cs.1, 16, .inl fun _ => 0)), (q6, .inl (cs.2.2.1, 16, .inl fun _ => 0)), (q7, .inl (cs.2.2.1, 16, .inl fun _ => 0)), (q8, .inl (cs.1, 200, .inl fun _ => 0)), (q9, .inl (cs.1, 200, .inl fun _ => 0)), (q10, .inl (cs.1, 200, .inl fun _ => 0)), (q11, .inl (cs.1, 200, .inl fun _ => 0)), (q12, .inl (cs.1, 4, .inl (upd (upd (upd (upd (fun _ => 0) 0 (-4)) 1 (-4)) 2 (-4)) 3 (-4)))), (q13, .inl (cs.1, 4, .inl fun _ => 0)), (q14, .inl (cs.1, 256, .inl fun _ => 0))] H locs := hW
  refine ct_fa Z ct_aki h00 200 (n := 200) (by decide) (by decide) (by decide) (p2 := 141) dX10_init_137 (fun kk => lv_sipush Z.1 Z.2.1 dX10_init_138 (by decide) kk) dX10_init_141 17 53 dX10_init_143 (ci := 10) (T := TX10) (N := 44) rfl (by decide) hin rfl (tp_gt_in (i := 818) (by decide +kernel)) (by decide +kernel) rfl (Nat.le_of_ble_eq_true rfl) (Nat.le_of_ble_eq_true rfl) hW fun q15 H locs hW => ?_
  have hW : ct_W D A s [(h0, .inr (10, [.int 0, .ref q1, .ref q2, .ref q3, .ref q4, .int 0, .ref q5, .ref q6, .ref q7, .int 0, .ref q8, .ref q9, .ref q10, .ref q11, .ref q12, .ref q13, .ref q14, .ref q15, .int 0, .int 0, .int 0, .null, .int 0, .null, .int 0, .int 0, .int 0, .int 0, .int 0, .int 0, .int 0, .int 0, .null, .int 0, .int 0, .int 0, .null, .null, .int 0, .null, .null, .int 0, .null, .int 0])), (q1, .inl (cs.1, 5, .inl fun _ => 0)), (q2, .inl (cs.1, 5, .inl fun _ => 0)), (q3, .inl (cs.1, 30, .inl fun _ => 0)), (q4, .inl (cs.1, 30, .inl fun _ => 0)), (q5, .inl (cs.1, 16, .inl fun _ => 0)), (q6, .inl (cs.2.2.1, 16, .inl fun _ => 0)), (q7, .inl (cs.2.2.1, 16, .inl fun _ => 0)), (q8, .inl (cs.1, 200, .inl fun _ => 0)), (q9, .inl (cs.1, 200, .inl fun _ => 0)), (q10, .inl (cs.1, 200, .inl fun _ => 0)), (q11, .inl (cs.1, 200, .inl fun _ => 0)), (q12, .inl (cs.1, 4, .inl (upd (upd (upd (upd (fun _ => 0) 0 (-4)) 1 (-4)) 2 (-4)) 3 (-4)))), (q13, .inl (cs.1, 4, .inl fun _ => 0)), (q14, .inl (cs.1, 256, .inl fun _ => 0)), (q15, .inl (cs.1, 200, .inl fun _ => 0))] H locs := hW
  refine ct_fa Z ct_aki h00 18 (n := 18) (by decide) (by decide) (by decide) (p2 := 149) dX10_init_146 (fun kk => lv_bipush Z.1 Z.2.1 dX10_init_147 (by decide) kk) dX10_init_149 21 56 dX10_init_151 (ci := 10) (T := TX10) (N := 44) rfl (by decide) hin rfl (tp_gt_in (i := 822) (by decide +kernel)) (by decide +kernel) rfl (Nat.le_of_ble_eq_true rfl) (Nat.le_of_ble_eq_true rfl) hW fun q16 H locs hW => ?_
  have hW : ct_W D A s [(h0, .inr (10, [.int 0, .ref q1, .ref q2, .ref q3, .ref q4, .int 0, .ref q5, .ref q6, .ref q7, .int 0, .ref q8, .ref q9, .ref q10, .ref q11, .ref q12, .ref q13, .ref q14, .ref q15, .int 0, .int 0, .int 0, .ref q16, .int 0, .null, .int 0, .int 0, .int 0, .int 0, .int 0, .int 0, .int 0, .int 0, .null, .int 0, .int 0, .int 0, .null, .null, .int 0, .null, .null, .int 0, .null, .int 0])), (q1, .inl (cs.1, 5, .inl fun _ => 0)), (q2, .inl (cs.1, 5, .inl fun _ => 0)), (q3, .inl (cs.1, 30, .inl fun _ => 0)), (q4, .inl (cs.1, 30, .inl fun _ => 0)), (q5, .inl (cs.1, 16, .inl fun _ => 0)), (q6, .inl (cs.2.2.1, 16, .inl fun _ => 0)), (q7, .inl (cs.2.2.1, 16, .inl fun _ => 0)), (q8, .inl (cs.1, 200, .inl fun _ => 0)), (q9, .inl (cs.1, 200, .inl fun _ => 0)), (q10, .inl (cs.1, 200, .inl fun _ => 0)), (q11, .inl (cs.1, 200, .inl fun _ => 0)), (q12, .inl (cs.1, 4, .inl (upd (upd (upd (upd (fun _ => 0) 0 (-4)) 1 (-4)) 2 (-4)) 3 (-4)))), (q13, .inl (cs.1, 4, .inl fun _ => 0)), (q14, .inl (cs.1, 256, .inl fun _ => 0)), (q15, .inl (cs.1, 200, .inl fun _ => 0)), (q16, .inl (cs.1, 18, .inl fun _ => 0))] H locs := hW
  refine ct_fa Z ct_aki h00 12 (n := 12) (by decide) (by decide) (by decide) (p2 := 157) dX10_init_154 (fun kk => lv_bipush Z.1 Z.2.1 dX10_init_155 (by decide) kk) dX10_init_157 23 59 dX10_init_159 (ci := 10) (T := TX10) (N := 44) rfl (by decide) hin rfl (tp_gt_in (i := 824) (by decide +kernel)) (by decide +kernel) rfl (Nat.le_of_ble_eq_true rfl) (Nat.le_of_ble_eq_true rfl) hW fun q17 H locs hW => ?_
  have hW : ct_W D A s [(h0, .inr (10, [.int 0, .ref q1, .ref q2, .ref q3, .ref q4, .int 0, .ref q5, .ref q6, .ref q7, .int 0, .ref q8, .ref q9, .ref q10, .ref q11, .ref q12, .ref q13, .ref q14, .ref q15, .int 0, .int 0, .int 0, .ref q16, .int 0, .ref q17, .int 0, .int 0, .int 0, .int 0, .int 0, .int 0, .int 0, .int 0, .null, .int 0, .int 0, .int 0, .null, .null, .int 0, .null, .null, .int 0, .null, .int 0])), (q1, .inl (cs.1, 5, .inl fun _ => 0)), (q2, .inl (cs.1, 5, .inl fun _ => 0)), (q3, .inl (cs.1, 30, .inl fun _ => 0)), (q4, .inl (cs.1, 30, .inl fun _ => 0)), (q5, .inl (cs.1, 16, .inl fun _ => 0)), (q6, .inl (cs.2.2.1, 16, .inl fun _ => 0)), (q7, .inl (cs.2.2.1, 16, .inl fun _ => 0)), (q8, .inl (cs.1, 200, .inl fun _ => 0)), (q9, .inl (cs.1, 200, .inl fun _ => 0)), (q10, .inl (cs.1, 200, .inl fun _ => 0)), (q11, .inl (cs.1, 200, .inl fun _ => 0)), (q12, .inl (cs.1, 4, .inl (upd (upd (upd (upd (fun _ => 0) 0 (-4)) 1 (-4)) 2 (-4)) 3 (-4)))), (q13, .inl (cs.1, 4, .inl fun _ => 0)), (q14, .inl (cs.1, 256, .inl fun _ => 0)), (q15, .inl (cs.1, 200, .inl fun _ => 0)), (q16, .inl (cs.1, 18, .inl fun _ => 0)), (q17, .inl (cs.1, 12, .inl fun _ => 0))] H locs := hW
  refine ct_fi Z h00 (-4) (p2 := 165) dX10_init_162 (fun kk => lv_bipush Z.1 Z.2.1 dX10_init_163 (by decide) kk) 24 62 dX10_init_165 (ci := 10) (T := TX10) (N := 44) rfl (by decide) hin rfl (tp_gt_in (i := 825) (by decide +kernel)) (by decide +kernel) rfl hW fun H locs hW => ?_
  have hW : ct_W D A s [(h0, .inr (10, [.int 0, .ref q1, .ref q2, .ref q3, .ref q4, .int 0, .ref q5, .ref q6, .ref q7, .int 0, .ref q8, .ref q9, .ref q10, .ref q11, .ref q12, .ref q13, .ref q14, .ref q15, .int 0, .int 0, .int 0, .ref q16, .int 0, .ref q17, .int (-4), .int 0, .int 0, .int 0, .int 0, .int 0, .int 0, .int 0, .null, .int 0, .int 0, .int 0, .null, .null, .int 0, .null, .null, .int 0, .null, .int 0])), (q1, .inl (cs.1, 5, .inl fun _ => 0)), (q2, .inl (cs.1, 5, .inl fun _ => 0)), (q3, .inl (cs.1, 30, .inl fun _ => 0)), (q4, .inl (cs.1, 30, .inl fun _ => 0)), (q5, .inl (cs.1, 16, .inl fun _ => 0)), (q6, .inl (cs.2.2.1, 16, .inl fun _ => 0)), (q7, .inl (cs.2.2.1, 16, .inl fun _ => 0)), (q8, .inl (cs.1, 200, .inl fun _ => 0)), (q9, .inl (cs.1, 200, .inl fun _ => 0)), (q10, .inl (cs.1, 200, .inl fun _ => 0)), (q11, .inl (cs.1, 200, .inl fun _ => 0)), (q12, .inl (cs.1, 4, .inl (upd (upd (upd (upd (fun _ => 0) 0 (-4)) 1 (-4)) 2 (-4)) 3 (-4)))), (q13, .inl (cs.1, 4, .inl fun _ => 0)), (q14, .inl (cs.1, 256, .inl fun _ => 0)), (q15, .inl (cs.1, 200, .inl fun _ => 0)), (q16, .inl (cs.1, 18, .inl fun _ => 0)), (q17, .inl (cs.1, 12, .inl fun _ => 0))] H locs := hW
  refine ct_fa Z ct_aki h00 6 (n := 6) (by decide) (by decide) (by decide) (p2 := 171) dX10_init_168 (fun kk => lv_bipush Z.1 Z.2.1 dX10_init_169 (by decide) kk) dX10_init_171 32 66 dX10_init_173 (ci := 10) (T := TX10) (N := 44) rfl (by decide) hin rfl (tp_gt_in (i := 833) (by decide +kernel)) (by decide +kernel) rfl (Nat.le_of_ble_eq_true rfl) (Nat.le_of_ble_eq_true rfl) hW fun q18 H locs hW => ?_
  have hW : ct_W D A s [(h0, .inr (10, [.int 0, .ref q1, .ref q2, .ref q3, .ref q4, .int 0, .ref q5, .ref q6, .ref q7, .int 0, .ref q8, .ref q9, .ref q10, .ref q11, .ref q12, .ref q13, .ref q14, .ref q15, .int 0, .int 0, .int 0, .ref q16, .int 0, .ref q17, .int (-4), .int 0, .int 0, .int 0, .int 0, .int 0, .int 0, .int 0, .ref q18, .int 0, .int 0, .int 0, .null, .null, .int 0, .null, .null, .int 0, .null, .int 0])), (q1, .inl (cs.1, 5, .inl fun _ => 0)), (q2, .inl (cs.1, 5, .inl fun _ => 0)), (q3, .inl (cs.1, 30, .inl fun _ => 0)), (q4, .inl (cs.1, 30, .inl fun _ => 0)), (q5, .inl (cs.1, 16, .inl fun _ => 0)), (q6, .inl (cs.2.2.1, 16, .inl fun _ => 0)), (q7, .inl (cs.2.2.1, 16, .inl fun _ => 0)), (q8, .inl (cs.1, 200, .inl fun _ => 0)), (q9, .inl (cs.1, 200, .inl fun _ => 0)), (q10, .inl (cs.1, 200, .inl fun _ => 0)), (q11, .inl (cs.1, 200, .inl fun _ => 0)), (q12, .inl (cs.1, 4, .inl (upd (upd (upd (upd (fun _ => 0) 0 (-4)) 1 (-4)) 2 (-4)) 3 (-4)))), (q13, .inl (cs.1, 4, .inl fun _ => 0)), (q14, .inl (cs.1, 256, .inl fun _ => 0)), (q15, .inl (cs.1, 200, .inl fun _ => 0)), (q16, .inl (cs.1, 18, .inl fun _ => 0)), (q17, .inl (cs.1, 12, .inl fun _ => 0)), (q18, .inl (cs.1, 6, .inl fun _ => 0))] H locs := hW
  refine ct_fa Z ct_aki h00 18 (n := 18) (by decide) (by decide) (by decide) (p2 := 179) dX10_init_176 (fun kk => lv_bipush Z.1 Z.2.1 dX10_init_177 (by decide) kk) dX10_init_179 36 69 dX10_init_181 (ci := 10) (T := TX10) (N := 44) rfl (by decide) hin rfl (tp_gt_in (i := 837) (by decide +kernel)) (by decide +kernel) rfl (Nat.le_of_ble_eq_true rfl) (Nat.le_of_ble_eq_true rfl) hW fun q19 H locs hW => ?_
  have hW : ct_W D A s [(h0, .inr (10, [.int 0, .ref q1, .ref q2, .ref q3, .ref q4, .int 0, .ref q5, .ref q6, .ref q7, .int 0, .ref q8, .ref q9, .ref q10, .ref q11, .ref q12, .ref q13, .ref q14, .ref q15, .int 0, .int 0, .int 0, .ref q16, .int 0, .ref q17, .int (-4), .int 0, .int 0, .int 0, .int 0, .int 0, .int 0, .int 0, .ref q18, .int 0, .int 0, .int 0, .ref q19, .null, .int 0, .null, .null, .int 0, .null, .int 0])), (q1, .inl (cs.1, 5, .inl fun _ => 0)), (q2, .inl (cs.1, 5, .inl fun _ => 0)), (q3, .inl (cs.1, 30, .inl fun _ => 0)), (q4, .inl (cs.1, 30, .inl fun _ => 0)), (q5, .inl (cs.1, 16, .inl fun _ => 0)), (q6, .inl (cs.2.2.1, 16, .inl fun _ => 0)), (q7, .inl (cs.2.2.1, 16, .inl fun _ => 0)), (q8, .inl (cs.1, 200, .inl fun _ => 0)), (q9, .inl (cs.1, 200, .inl fun _ => 0)), (q10, .inl (cs.1, 200, .inl fun _ => 0)), (q11, .inl (cs.1, 200, .inl fun _ => 0)), (q12, .inl (cs.1, 4, .inl (upd (upd (upd (upd (fun _ => 0) 0 (-4)) 1 (-4)) 2 (-4)) 3 (-4)))), (q13, .inl (cs.1, 4, .inl fun _ => 0)), (q14, .inl (cs.1, 256, .inl fun _ => 0)), (q15, .inl (cs.1, 200, .inl fun _ => 0)), (q16, .inl (cs.1, 18, .inl fun _ => 0)), (q17, .inl (cs.1, 12, .inl fun _ => 0)), (q18, .inl (cs.1, 6, .inl fun _ => 0)), (q19, .inl (cs.1, 18, .inl fun _ => 0))] H locs := hW
  refine ct_fa Z ct_aki h00 12 (n := 12) (by decide) (by decide) (by decide) (p2 := 187) dX10_init_184 (fun kk => lv_bipush Z.1 Z.2.1 dX10_init_185 (by decide) kk) dX10_init_187 37 72 dX10_init_189 (ci := 10) (T := TX10) (N := 44) rfl (by decide) hin rfl (tp_gt_in (i := 838) (by decide +kernel)) (by decide +kernel) rfl (Nat.le_of_ble_eq_true rfl) (Nat.le_of_ble_eq_true rfl) hW fun q20 H locs hW => ?_
  have hW : ct_W D A s [(h0, .inr (10, [.int 0, .ref q1, .ref q2, .ref q3, .ref q4, .int 0, .ref q5, .ref q6, .ref q7, .int 0, .ref q8, .ref q9, .ref q10, .ref q11, .ref q12, .ref q13, .ref q14, .ref q15, .int 0, .int 0, .int 0, .ref q16, .int 0, .ref q17, .int (-4), .int 0, .int 0, .int 0, .int 0, .int 0, .int 0, .int 0, .ref q18, .int 0, .int 0, .int 0, .ref q19, .ref q20, .int 0, .null, .null, .int 0, .null, .int 0])), (q1, .inl (cs.1, 5, .inl fun _ => 0)), (q2, .inl (cs.1, 5, .inl fun _ => 0)), (q3, .inl (cs.1, 30, .inl fun _ => 0)), (q4, .inl (cs.1, 30, .inl fun _ => 0)), (q5, .inl (cs.1, 16, .inl fun _ => 0)), (q6, .inl (cs.2.2.1, 16, .inl fun _ => 0)), (q7, .inl (cs.2.2.1, 16, .inl fun _ => 0)), (q8, .inl (cs.1, 200, .inl fun _ => 0)), (q9, .inl (cs.1, 200, .inl fun _ => 0)), (q10, .inl (cs.1, 200, .inl fun _ => 0)), (q11, .inl (cs.1, 200, .inl fun _ => 0)), (q12, .inl (cs.1, 4, .inl (upd (upd (upd (upd (fun _ => 0) 0 (-4)) 1 (-4)) 2 (-4)) 3 (-4)))), (q13, .inl (cs.1, 4, .inl fun _ => 0)), (q14, .inl (cs.1, 256, .inl fun _ => 0)), (q15, .inl (cs.1, 200, .inl fun _ => 0)), (q16, .inl (cs.1, 18, .inl fun _ => 0)), (q17, .inl (cs.1, 12, .inl fun _ => 0)), (q18, .inl (cs.1, 6, .inl fun _ => 0)), (q19, .inl (cs.1, 18, .inl fun _ => 0)), (q20, .inl (cs.1, 12, .inl fun _ => 0))] H locs := hW
  refine ct_fa Z ct_aki h00 10 (n := 10) (by decide) (by decide) (by decide) (p2 := 195) dX10_init_192 (fun kk => lv_bipush Z.1 Z.2.1 dX10_init_193 (by decide) kk) dX10_init_195 39 75 dX10_init_197 (ci := 10) (T := TX10) (N := 44) rfl (by decide) hin rfl (tp_gt_in (i := 840) (by decide +kernel)) (by decide +kernel) rfl (Nat.le_of_ble_eq_true rfl) (Nat.le_of_ble_eq_true rfl) hW fun q21 H locs hW => ?_
  have hW : ct_W D A s [(h0, .inr (10, [.int 0, .ref q1, .ref q2, .ref q3, .ref q4, .int 0, .ref q5, .ref q6, .ref q7, .int 0, .ref q8, .ref q9, .ref q10, .ref q11, .ref q12, .ref q13, .ref q14, .ref q15, .int 0, .int 0, .int 0, .ref q16, .int 0, .ref q17, .int (-4), .int 0, .int 0, .int 0, .int 0, .int 0, .int 0, .int 0, .ref q18, .int 0, .int 0, .int 0, .ref q19, .ref q20, .int 0, .ref q21, .null, .int 0, .null, .int 0])), (q1, .inl (cs.1, 5, .inl fun _ => 0)), (q2, .inl (cs.1, 5, .inl fun _ => 0)), (q3, .inl (cs.1, 30, .inl fun _ => 0)), (q4, .inl (cs.1, 30, .inl fun _ => 0)), (q5, .inl (cs.1, 16, .inl fun _ => 0)), (q6, .inl (cs.2.2.1, 16, .inl fun _ => 0)), (q7, .inl (cs.2.2.1, 16, .inl fun _ => 0)), (q8, .inl (cs.1, 200, .inl fun _ => 0)), (q9, .inl (cs.1, 200, .inl fun _ => 0)), (q10, .inl (cs.1, 200, .inl fun _ => 0)), (q11, .inl (cs.1, 200, .inl fun _ => 0)), (q12, .inl (cs.1, 4, .inl (upd (upd (upd (upd (fun _ => 0) 0 (-4)) 1 (-4)) 2 (-4)) 3 (-4)))), (q13, .inl (cs.1, 4, .inl fun _ => 0)), (q14, .inl (cs.1, 256, .inl fun _ => 0)), (q15, .inl (cs.1, 200, .inl fun _ => 0)), (q16, .inl (cs.1, 18, .inl fun _ => 0)), (q17, .inl (cs.1, 12, .inl fun _ => 0)), (q18, .inl (cs.1, 6, .inl fun _ => 0)), (q19, .inl (cs.1, 18, .inl fun _ => 0)), (q20, .inl (cs.1, 12, .inl fun _ => 0)), (q21, .inl (cs.1, 10, .inl fun _ => 0))] H locs := hW
  refine ct_fa Z ct_aki h00 10 (n := 10) (by decide) (by decide) (by decide) (p2 := 203) dX10_init_200 (fun kk => lv_bipush Z.1 Z.2.1 dX10_init_201 (by decide) kk) dX10_init_203 40 78 dX10_init_205 (ci := 10) (T := TX10) (N := 44) rfl (by decide) hin rfl (tp_gt_in (i := 841) (by decide +kernel)) (by decide +kernel) rfl (Nat.le_of_ble_eq_true rfl) (Nat.le_of_ble_eq_true rfl) hW fun q22 H locs hW => ?_
  have hW : ct_W D A s [(h0, .inr (10, [.int 0, .ref q1, .ref q2, .ref q3, .ref q4, .int 0, .ref q5, .ref q6, .ref q7, .int 0, .ref q8, .ref q9, .ref q10, .ref q11, .ref q12, .ref q13, .ref q14, .ref q15, .int 0, .int 0, .int 0, .ref q16, .int 0, .ref q17, .int (-4), .int 0, .int 0, .int 0, .int 0, .int 0, .int 0, .int 0, .ref q18, .int 0, .int 0, .int 0, .ref q19, .ref q20, .int 0, .ref q21, .ref q22, .int 0, .null, .int 0])), (q1, .inl (cs.1, 5, .inl fun _ => 0)), (q2, .inl (cs.1, 5, .inl fun _ => 0)), (q3, .inl (cs.1, 30, .inl fun _ => 0)), (q4, .inl (cs.1, 30, .inl fun _ => 0)), (q5, .inl (cs.1, 16, .inl fun _ => 0)), (q6, .inl (cs.2.2.1, 16, .inl fun _ => 0)), (q7, .inl (cs.2.2.1, 16, .inl fun _ => 0)), (q8, .inl (cs.1, 200, .inl fun _ => 0)), (q9, .inl (cs.1, 200, .inl fun _ => 0)), (q10, .inl (cs.1, 200, .inl fun _ => 0)), (q11, .inl (cs.1, 200, .inl fun _ => 0)), (q12, .inl (cs.1, 4, .inl (upd (upd (upd (upd (fun _ => 0) 0 (-4)) 1 (-4)) 2 (-4)) 3 (-4)))), (q13, .inl (cs.1, 4, .inl fun _ => 0)), (q14, .inl (cs.1, 256, .inl fun _ => 0)), (q15, .inl (cs.1, 200, .inl fun _ => 0)), (q16, .inl (cs.1, 18, .inl fun _ => 0)), (q17, .inl (cs.1, 12, .inl fun _ => 0)), (q18, .inl (cs.1, 6, .inl fun _ => 0)), (q19, .inl (cs.1, 18, .inl fun _ => 0)), (q20, .inl (cs.1, 12, .inl fun _ => 0)), (q21, .inl (cs.1, 10, .inl fun _ => 0)), (q22, .inl (cs.1, 10, .inl fun _ => 0))] H locs := hW
  refine ct_fi Z h00 30 (p2 := 211) dX10_init_208 (fun kk => lv_bipush Z.1 Z.2.1 dX10_init_209 (by decide) kk) 41 81 dX10_init_211 (ci := 10) (T := TX10) (N := 44) rfl (by decide) hin rfl (tp_gt_in (i := 842) (by decide +kernel)) (by decide +kernel) rfl hW fun H locs hW => ?_
  have hW : ct_W D A s [(h0, .inr (10, [.int 0, .ref q1, .ref q2, .ref q3, .ref q4, .int 0, .ref q5, .ref q6, .ref q7, .int 0, .ref q8, .ref q9, .ref q10, .ref q11, .ref q12, .ref q13, .ref q14, .ref q15, .int 0, .int 0, .int 0, .ref q16, .int 0, .ref q17, .int (-4), .int 0, .int 0, .int 0, .int 0, .int 0, .int 0, .int 0, .ref q18, .int 0, .int 0, .int 0, .ref q19, .ref q20, .int 0, .ref q21, .ref q22, .int 30, .null, .int 0])), (q1, .inl (cs.1, 5, .inl fun _ => 0)), (q2, .inl (cs.1, 5, .inl fun _ => 0)), (q3, .inl (cs.1, 30, .inl fun _ => 0)), (q4, .inl (cs.1, 30, .inl fun _ => 0)), (q5, .inl (cs.1, 16, .inl fun _ => 0)), (q6, .inl (cs.2.2.1, 16, .inl fun _ => 0)), (q7, .inl (cs.2.2.1, 16, .inl fun _ => 0)), (q8, .inl (cs.1, 200, .inl fun _ => 0)), (q9, .inl (cs.1, 200, .inl fun _ => 0)), (q10, .inl (cs.1, 200, .inl fun _ => 0)), (q11, .inl (cs.1, 200, .inl fun _ => 0)), (q12, .inl (cs.1, 4, .inl (upd (upd (upd (upd (fun _ => 0) 0 (-4)) 1 (-4)) 2 (-4)) 3 (-4)))), (q13, .inl (cs.1, 4, .inl fun _ => 0)), (q14, .inl (cs.1, 256, .inl fun _ => 0)), (q15, .inl (cs.1, 200, .inl fun _ => 0)), (q16, .inl (cs.1, 18, .inl fun _ => 0)), (q17, .inl (cs.1, 12, .inl fun _ => 0)), (q18, .inl (cs.1, 6, .inl fun _ => 0)), (q19, .inl (cs.1, 18, .inl fun _ => 0)), (q20, .inl (cs.1, 12, .inl fun _ => 0)), (q21, .inl (cs.1, 10, .inl fun _ => 0)), (q22, .inl (cs.1, 10, .inl fun _ => 0))] H locs := hW
  refine ct_fa Z ct_aki h00 10 (n := 10) (by decide) (by decide) (by decide) (p2 := 217) dX10_init_214 (fun kk => lv_bipush Z.1 Z.2.1 dX10_init_215 (by decide) kk) dX10_init_217 42 84 dX10_init_219 (ci := 10) (T := TX10) (N := 44) rfl (by decide) hin rfl (tp_gt_in (i := 843) (by decide +kernel)) (by decide +kernel) rfl (Nat.le_of_ble_eq_true rfl) (Nat.le_of_ble_eq_true rfl) hW fun q23 H locs hW => ?_
  have hW : ct_W D A s [(h0, .inr (10, [.int 0, .ref q1, .ref q2, .ref q3, .ref q4, .int 0, .ref q5, .ref q6, .ref q7, .int 0, .ref q8, .ref q9, .ref q10, .ref q11, .ref q12, .ref q13, .ref q14, .ref q15, .int 0, .int 0, .int 0, .ref q16, .int 0, .ref q17, .int (-4), .int 0, .int 0, .int 0, .int 0, .int 0, .int 0, .int 0, .ref q18, .int 0, .int 0, .int 0, .ref q19, .ref q20, .int 0, .ref q21, .ref q22, .int 30, .ref q23, .int 0])), (q1, .inl (cs.1, 5, .inl fun _ => 0)), (q2, .inl (cs.1, 5, .inl fun _ => 0)), (q3, .inl (cs.1, 30, .inl fun _ => 0)), (q4, .inl (cs.1, 30, .inl fun _ => 0)), (q5, .inl (cs.1, 16, .inl fun _ => 0)), (q6, .inl (cs.2.2.1, 16, .inl fun _ => 0)), (q7, .inl (cs.2.2.1, 16, .inl fun _ => 0)), (q8, .inl (cs.1, 200, .inl fun _ => 0)), (q9, .inl (cs.1, 200, .inl fun _ => 0)), (q10, .inl (cs.1, 200, .inl fun _ => 0)), (q11, .inl (cs.1, 200, .inl fun _ => 0)), (q12, .inl (cs.1, 4, .inl (upd (upd (upd (upd (fun _ => 0) 0 (-4)) 1 (-4)) 2 (-4)) 3 (-4)))), (q13, .inl (cs.1, 4, .inl fun _ => 0)), (q14, .inl (cs.1, 256, .inl fun _ => 0)), (q15, .inl (cs.1, 200, .inl fun _ => 0)), (q16, .inl (cs.1, 18, .inl fun _ => 0)), (q17, .inl (cs.1, 12, .inl fun _ => 0)), (q18, .inl (cs.1, 6, .inl fun _ => 0)), (q19, .inl (cs.1, 18, .inl fun _ => 0)), (q20, .inl (cs.1, 12, .inl fun _ => 0)), (q21, .inl (cs.1, 10, .inl fun _ => 0)), (q22, .inl (cs.1, 10, .inl fun _ => 0)), (q23, .inl (cs.1, 10, .inl fun _ => 0))] H locs := hW
  exact ret 222 _ _ _ _ dX10_init_222 ⟨fun i => [h0, q1, q2, q3, q4, q5, q6, q7, q8, q9, q10, q11, q12, q13, q14, q15, q16, q17, q18, q19, q20, q21, q22, q23].getD i 0, rfl, rfl⟩ hW
