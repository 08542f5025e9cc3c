/-! the objects of the two worlds: kinds (0 .. 10 classes, 20 int[], 21 byte[], 22 boolean[], 23, 24 arrays of references, 26 script, 27 tables, 28 String, 29 its bytes), lengths, references -/
def tp_kdl : List Nat := [9, 8, 2, 7, 4, 23, 0, 3, 20, 20, 24, 24, 20, 22, 22, 20, 20, 20, 20, 6, 5, 5, 5, 5, 1, 1, 20, 21, 20, 20, 20, 20, 20, 20, 20, 20, 20, 20, 20, 20, 20, 20, 20, 20, 20, 20, 20, 20, 20, 20, 20, 20, 20, 20, 20, 20, 20, 20, 20, 20, 20, 20, 20, 20, 20, 99, 99, 99, 99, 99, 99, 99, 99, 99, 99, 99, 99, 99, 99, 99, 99, 99, 99, 99, 99, 99, 99, 99, 99, 99, 26, 99, 99, 99, 99, 99, 99, 99, 99, 99, 99]
def tp_lnl : List Nat := [0, 0, 0, 0, 0, 4, 0, 0, 5, 5, 6, 6, 16, 16, 16, 200, 200, 200, 200, 0, 0, 0, 0, 0, 0, 0, 3, 200, 10, 10, 10, 10, 64, 64, 64, 64, 9, 9, 4, 4, 4, 9, 9, 4, 4, 4, 5, 5, 5, 5, 5, 5, 5, 5, 5, 5, 5, 5, 2, 2, 4, 4, 8, 8, 60, 0, 0, 0, 0, 0, 0, 0, 0, 0, 0, 0, 0, 0, 0, 0, 0, 0, 0, 0, 0, 0, 0, 0, 0, 0, 0, 0, 0, 0, 0, 0, 0, 0, 0, 0, 0]
def tp_rrl : List (List Nat) := [[1, 2, 3, 4, 5, 6, 7], [8, 9, 0], [10, 11], [12, 13, 14, 0], [15, 16, 17, 18, 0], [20], [19, 24, 0, 25, 26, 0, 0], [28, 29, 30, 31, 0, 0, 0], [], [], [46], [52], [], [], [], [], [], [], [], [27, 0, 0, 0, 0], [32, 0, 0], [33, 0, 0], [34, 0, 0], [35, 0, 0], [36, 37, 38, 39, 40, 0, 0, 0], [41, 42, 43, 44, 45, 0, 0, 0], [], [], [], [], [], [], [], [], [], [], [], [], [], [], [], [], [], [], [], [], [], [], [], [], [], [], [], [], [], [], [], [], [], [], [], [], [], [], [], [], [], [], [], [], [], [], [], [], [], [], [], [], [], [], [], [], [], [], [], [], [], [], [], [], [], [], [], [], [], [], [], [], [], [], []]
def tp_isl : List (List Bool) := [[true, true, false, true, true, false, false], [true, true, true, true, true, false, false, false], [true, true], [true, true, true, true, false, false, false], [true, true, true, true, false], [true, false, false], [true, false, false, false, false], [true, true, true, false], [true, true, false], [true, true, true, true, true, true, true], [false]]
def tp_law : Nat := 43
def tp_kd (o : Nat) : Nat := tp_kdl.getD o 99
def tp_ln (o : Nat) : Nat := tp_lnl.getD o 0
def tp_isR (c k : Nat) : Bool := (tp_isl.getD c []).getD k false
/-- the ints of fields and arrays, by object and place; how many objects there are -/
abbrev tp_St : Type := (Nat → Nat → Int32) × (Nat × Nat)
def tp_rr (_ : tp_St) (o k : Nat) : Nat := if tp_kd o < 20 then (tp_rrl.getD o []).getD k 0 else (tp_rrl.getD o []).getD 0 0 + k
/-- the locals of the law where it makes an array -/
def tp_exL : Nat → List Value
  | 9 => [.ref 90, .ref 0, .null, .null, .null, .null, .null, .null, .null, .null, .null, .null, .null, .null, .null, .null, .null, .null, .null, .null, .null, .null, .null, .null]
  | 43 => [.ref 90, .ref 0, .ref 58, .null, .null, .null, .null, .null, .null, .null, .null, .null, .null, .null, .null, .null, .null, .null, .null, .null, .null, .null, .null, .null]
  | 110 => [.ref 90, .ref 0, .ref 58, .ref 59, .null, .null, .null, .null, .null, .null, .null, .null, .null, .null, .null, .null, .null, .null, .null, .null, .null, .null, .null, .null]
  | 115 => [.ref 90, .ref 0, .ref 58, .ref 59, .ref 60, .null, .null, .null, .null, .null, .null, .null, .null, .null, .null, .null, .null, .null, .null, .null, .null, .null, .null, .null]
  | 141 => [.ref 90, .ref 0, .ref 58, .ref 59, .ref 60, .ref 61, .null, .null, .null, .null, .null, .null, .null, .null, .null, .null, .null, .null, .null, .null, .null, .null, .null, .null]
  | 147 => [.ref 90, .ref 0, .ref 58, .ref 59, .ref 60, .ref 61, .ref 62, .null, .null, .null, .null, .null, .null, .null, .null, .null, .null, .null, .null, .null, .null, .null, .null, .null]
  | 321 => [.ref 90, .ref 0, .ref 58, .ref 59, .ref 60, .ref 61, .ref 62, .ref 63, .null, .null, .null, .null, .null, .null, .null, .null, .null, .null, .null, .null, .null, .null, .null, .null]
  | _ => []
abbrev tp_Ins : Type := Instr × Nat × Int32 × Nat × Nat × Nat
/-- methods: class, name, code, locals, answer, room, the receiver's kind, arguments -/
abbrev tp_MI : Type := String × MethodName × ByteArray × Nat × Option FieldType × (Nat × Nat) × Nat × Nat
def tp_M0 : List tp_MI := [(RX2, yX2_size, cX2_size, 3, (some .int), (0, 0), 2, 3),
  (RX2, yX2_replace, cX2_replace, 5, none, (0, 0), 2, 5),
  (RX2, yX2_takeNext, cX2_takeNext, 3, (some .int), (0, 0), 2, 3),
  (RX2, yX2_anyWithOthers, cX2_anyWithOthers, 7, (some .boolean), (1, 21), 2, 5),
  (RX2, yX2_beyond, cX2_beyond, 5, (some .int), (0, 0), 2, 3),
  (RX4, yX4_isFull, cX4_isFull, 1, (some .boolean), (0, 0), 4, 1),
  (RX4, yX4_add, cX4_add, 5, none, (1, 20), 4, 5),
  (RX4, yX4_latestStep, cX4_latestStep, 3, (some .int), (0, 0), 4, 2),
  (RX4, yX4_find, cX4_find, 4, (some .int), (0, 0), 4, 3),
  (RX4, yX4_anySold, cX4_anySold, 5, (some .boolean), (0, 0), 4, 4),
  (RX4, yX4_beyond, cX4_beyond, 5, (some .int), (0, 0), 4, 3),
  (RX4, yX4_greatestSold, cX4_greatestSold, 4, (some .int), (1, 21), 4, 2),
  (RX7, yX7_has, cX7_has, 2, (some .boolean), (0, 0), 7, 2),
  (RX7, yX7_add, cX7_add, 3, (some .int), (0, 0), 7, 3),
  (RX7, yX7_hasOpen, cX7_hasOpen, 3, (some .boolean), (0, 0), 7, 2),
  (RX7, yX7_stepOfStage, cX7_stepOfStage, 3, (some .int), (0, 0), 7, 3),
  (RX7, yX7_stepOfSection, cX7_stepOfSection, 3, (some .int), (0, 0), 7, 3),
  (RX8, yX8_has, cX8_has, 2, (some .boolean), (0, 0), 8, 2),
  (RX8, yX8_add, cX8_add, 3, (some .int), (0, 0), 8, 3),
  (RX9, yX9_type, cX9_type, 3, (some .int), (1, 22), 9, 3),
  (RX9, yX9_issue, cX9_issue, 6, (some .int), (2, 47), 9, 5),
  (RX9, yX9_pack, cX9_pack, 5, (some .int), (2, 44), 9, 4),
  (RX9, yX9_trip, cX9_trip, 3, (some .int), (1, 22), 9, 3),
  (RX9, yX9_close, cX9_close, 2, (some .int), (1, 23), 9, 2),
  (RX9, yX9_sell, cX9_sell, 7, (some .int), (2, 44), 9, 4),
  (RX9, yX9_undo, cX9_undo, 4, (some .int), (1, 22), 9, 1),
  (RX9, yX9_money, cX9_money, 2, (some .int), (1, 23), 9, 2),
  (RX9, yX9_aboard, cX9_aboard, 4, (some .int), (3, 72), 9, 4),
  (RX9, yX9_riders, cX9_riders, 6, (some .int), (2, 47), 9, 4),
  (RX9, yX9_shown, cX9_shown, 7, (some .int), (1, 23), 9, 5),
  (RX9, yX9_heads, cX9_heads, 6, (some .int), (3, 72), 9, 4),
  (RX9, yX9_gap, cX9_gap, 6, (some .int), (2, 46), 9, 2),
  (RX9, yX9_isOutside, cX9_isOutside, 3, (some .boolean), (0, 0), 50, 3),
  (RX9, yX9_hasPack, cX9_hasPack, 3, (some .boolean), (1, 22), 9, 3),
  (RX9, yX9_takings, cX9_takings, 4, (some .int), (0, 0), 9, 2),
  (RX9, yX9_howManyAboard, cX9_howManyAboard, 6, (some .int), (2, 47), 9, 4),
  (RX9, yX9_isAboard, cX9_isAboard, 5, (some .boolean), (1, 23), 9, 4),
  (RX9, yX9_isGoodAt, cX9_isGoodAt, 4, (some .boolean), (0, 0), 9, 3),
  (RX9, yX9_takeBackLatest, cX9_takeBackLatest, 3, none, (0, 0), 9, 1),
  (RX9, yX9_beyondHeld, cX9_beyondHeld, 3, (some .int), (1, 24), 9, 3)]
def tp_M1 : List tp_MI := [(RL, yL_part, cL_part, 2, (some .int), (0, 0), 50, 2),
  (RL, yL_cell, cL_cell, 2, (some .int), (0, 0), 50, 2),
  (RL, yL_sells, cL_sells, 21, (some .int), (3, 70), 50, 10),
  (RL, yL_law, code, 24, some .boolean, (6, 224), 50, 1)]
def tp_M : List tp_MI := tp_M0 ++ tp_M1
def tp_mi (i : Nat) : tp_MI := tp_M.getD i ("", ⟨"", "", ""⟩, ⟨#[]⟩, 0, none, (0, 0), 0, 0)
/-- X2_size -/
def tp_P0 : List (Nat × List tp_Ins) := [(0, [(.aload_n 0, 1, 0, 0, 0, 0), (.getfield 18, 3, 0, 2, 1, 56), (.iload_n 1, 1, 0, 0, 0, 0), (.aaload, 1, 0, 0, 0, 0), (.iload_n 2, 1, 0, 0, 0, 0), (.iaload, 1, 0, 0, 0, 0), (.aload_n 0, 1, 0, 0, 0, 0), (.getfield 13, 3, 0, 2, 0, 54), (.iload_n 1, 1, 0, 0, 0, 0), (.aaload, 1, 0, 0, 0, 0), (.iload_n 2, 1, 0, 0, 0, 0), (.iaload, 1, 0, 0, 0, 0), (.isub, 1, 0, 0, 0, 0), (.ireturn, 1, 0, 0, 0, 0)])]
/-- X2_replace -/
def tp_P1 : List (Nat × List tp_Ins) := [(0, [(.aload_n 0, 1, 0, 0, 0, 0), (.getfield 13, 3, 0, 2, 0, 54), (.iload_n 1, 1, 0, 0, 0, 0), (.aaload, 1, 0, 0, 0, 0), (.iload_n 2, 1, 0, 0, 0, 0), (.iload_n 3, 1, 0, 0, 0, 0), (.iastore, 1, 0, 0, 0, 0), (.aload_n 0, 1, 0, 0, 0, 0), (.getfield 18, 3, 0, 2, 1, 56), (.iload_n 1, 1, 0, 0, 0, 0), (.aaload, 1, 0, 0, 0, 0), (.iload_n 2, 1, 0, 0, 0, 0), (.iload 4, 2, 0, 0, 0, 0), (.iastore, 1, 0, 0, 0, 0), (.return_, 1, 0, 0, 0, 0)])]
/-- X2_takeNext -/
def tp_P2 : List (Nat × List tp_Ins) := [(0, [(.aload_n 0, 1, 0, 0, 0, 0), (.getfield 13, 3, 0, 2, 0, 54), (.iload_n 1, 1, 0, 0, 0, 0), (.aaload, 1, 0, 0, 0, 0), (.iload_n 2, 1, 0, 0, 0, 0), (.dup2, 1, 0, 0, 0, 0), (.iaload, 1, 0, 0, 0, 0), (.dup_x2, 1, 0, 0, 0, 0), (.iconst 1, 1, 1, 0, 0, 0), (.iadd, 1, 0, 0, 0, 0), (.iastore, 1, 0, 0, 0, 0), (.ireturn, 1, 0, 0, 0, 0)])]
/-- X2_anyWithOthers -/
def tp_P3 : List (Nat × List tp_Ins) := [(0, [(.iconst 0, 1, 0, 0, 0, 0), (.istore 5, 2, 0, 0, 0, 0)]),
  (3, [(.iload 5, 2, 0, 0, 0, 0), (.bipush 6, 2, 6, 0, 0, 0), (.if_icmp .ge 51, 3, 0, 58, 0, 0), (.iload_n 3, 1, 0, 0, 0, 0), (.aload_n 0, 1, 0, 0, 0, 0), (.getfield 13, 3, 0, 2, 0, 54), (.iload 5, 2, 0, 0, 0, 0), (.aaload, 1, 0, 0, 0, 0), (.iload_n 2, 1, 0, 0, 0, 0), (.iaload, 1, 0, 0, 0, 0), (.invokestatic 21, 3, 0, 900, 2, 281), (.istore 6, 2, 0, 0, 0, 0), (.iload 5, 2, 0, 0, 0, 0), (.iload_n 1, 1, 0, 0, 0, 0), (.if_icmp .eq 24, 3, 0, 52, 0, 0), (.iload 6, 2, 0, 0, 0, 0), (.iload 4, 2, 0, 0, 0, 0), (.aload_n 0, 1, 0, 0, 0, 0), (.getfield 18, 3, 0, 2, 1, 56), (.iload 5, 2, 0, 0, 0, 0), (.aaload, 1, 0, 0, 0, 0), (.iload_n 2, 1, 0, 0, 0, 0), (.iaload, 1, 0, 0, 0, 0), (.invokestatic 27, 3, 0, 901, 2, 284), (.if_icmp .ge 5, 3, 0, 52, 0, 0), (.iconst 1, 1, 1, 0, 0, 0), (.ireturn, 1, 0, 0, 0, 0)]),
  (52, [(.iinc 5 1, 3, 1, 0, 0, 0), (.goto (-52), 3, 0, 3, 0, 0)]),
  (58, [(.iconst 0, 1, 0, 0, 0, 0), (.ireturn, 1, 0, 0, 0, 0)])]
/-- X2_beyond -/
def tp_P4 : List (Nat × List tp_Ins) := [(0, [(.iload_n 2, 1, 0, 0, 0, 0), (.istore_n 3, 1, 0, 0, 0, 0), (.iconst 0, 1, 0, 0, 0, 0), (.istore 4, 2, 0, 0, 0, 0)]),
  (5, [(.iload 4, 2, 0, 0, 0, 0), (.bipush 6, 2, 6, 0, 0, 0), (.if_icmp .ge 45, 3, 0, 54, 0, 0), (.iload_n 3, 1, 0, 0, 0, 0), (.aload_n 0, 1, 0, 0, 0, 0), (.getfield 13, 3, 0, 2, 0, 54), (.iload 4, 2, 0, 0, 0, 0), (.aaload, 1, 0, 0, 0, 0), (.iload_n 1, 1, 0, 0, 0, 0), (.iaload, 1, 0, 0, 0, 0), (.if_icmp .lt 26, 3, 0, 48, 0, 0), (.iload_n 3, 1, 0, 0, 0, 0), (.aload_n 0, 1, 0, 0, 0, 0), (.getfield 18, 3, 0, 2, 1, 56), (.iload 4, 2, 0, 0, 0, 0), (.aaload, 1, 0, 0, 0, 0), (.iload_n 1, 1, 0, 0, 0, 0), (.iaload, 1, 0, 0, 0, 0), (.if_icmp .ge 13, 3, 0, 48, 0, 0), (.aload_n 0, 1, 0, 0, 0, 0), (.getfield 18, 3, 0, 2, 1, 56), (.iload 4, 2, 0, 0, 0, 0), (.aaload, 1, 0, 0, 0, 0), (.iload_n 1, 1, 0, 0, 0, 0), (.iaload, 1, 0, 0, 0, 0), (.istore_n 3, 1, 0, 0, 0, 0)]),
  (48, [(.iinc 4 1, 3, 1, 0, 0, 0), (.goto (-46), 3, 0, 5, 0, 0)]),
  (54, [(.iload_n 3, 1, 0, 0, 0, 0), (.ireturn, 1, 0, 0, 0, 0)])]
/-- X4_isFull -/
def tp_P5 : List (Nat × List tp_Ins) := [(0, [(.aload_n 0, 1, 0, 0, 0, 0), (.getfield 22, 3, 0, 4, 4, 99), (.sipush 200, 3, 200, 0, 0, 0), (.if_icmp .lt 7, 3, 0, 14, 0, 0), (.iconst 1, 1, 1, 0, 0, 0), (.goto 4, 3, 0, 15, 0, 0)]),
  (14, [(.iconst 0, 1, 0, 0, 0, 0)]),
  (15, [(.ireturn, 1, 0, 0, 0, 0)])]
/-- X4_add -/
def tp_P6 : List (Nat × List tp_Ins) := [(0, [(.aload_n 0, 1, 0, 0, 0, 0), (.invokevirtual 26, 3, 0, 5, 1, 428), (.ifCond .eq 4, 3, 0, 8, 0, 0), (.return_, 1, 0, 0, 0, 0)]),
  (8, [(.aload_n 0, 1, 0, 0, 0, 0), (.getfield 9, 3, 0, 4, 0, 91), (.aload_n 0, 1, 0, 0, 0, 0), (.getfield 22, 3, 0, 4, 4, 99), (.iload_n 1, 1, 0, 0, 0, 0), (.iastore, 1, 0, 0, 0, 0), (.aload_n 0, 1, 0, 0, 0, 0), (.getfield 13, 3, 0, 4, 1, 93), (.aload_n 0, 1, 0, 0, 0, 0), (.getfield 22, 3, 0, 4, 4, 99), (.iload_n 2, 1, 0, 0, 0, 0), (.iastore, 1, 0, 0, 0, 0), (.aload_n 0, 1, 0, 0, 0, 0), (.getfield 16, 3, 0, 4, 2, 95), (.aload_n 0, 1, 0, 0, 0, 0), (.getfield 22, 3, 0, 4, 4, 99), (.iload_n 3, 1, 0, 0, 0, 0), (.iastore, 1, 0, 0, 0, 0), (.aload_n 0, 1, 0, 0, 0, 0), (.getfield 19, 3, 0, 4, 3, 97), (.aload_n 0, 1, 0, 0, 0, 0), (.getfield 22, 3, 0, 4, 4, 99), (.iload 4, 2, 0, 0, 0, 0), (.iastore, 1, 0, 0, 0, 0), (.aload_n 0, 1, 0, 0, 0, 0), (.dup, 1, 0, 0, 0, 0), (.getfield 22, 3, 0, 4, 4, 99), (.iconst 1, 1, 1, 0, 0, 0), (.iadd, 1, 0, 0, 0, 0), (.putfield 22, 3, 0, 4, 4, 99), (.return_, 1, 0, 0, 0, 0)])]
/-- X4_latestStep -/
def tp_P7 : List (Nat × List tp_Ins) := [(0, [(.aload_n 0, 1, 0, 0, 0, 0), (.getfield 22, 3, 0, 4, 4, 99), (.iconst 1, 1, 1, 0, 0, 0), (.isub, 1, 0, 0, 0, 0), (.istore_n 2, 1, 0, 0, 0, 0)]),
  (7, [(.iload_n 2, 1, 0, 0, 0, 0), (.ifCond .lt 26, 3, 0, 34, 0, 0), (.aload_n 0, 1, 0, 0, 0, 0), (.getfield 9, 3, 0, 4, 0, 91), (.iload_n 2, 1, 0, 0, 0, 0), (.iaload, 1, 0, 0, 0, 0), (.iload_n 1, 1, 0, 0, 0, 0), (.if_icmp .ne 10, 3, 0, 28, 0, 0), (.aload_n 0, 1, 0, 0, 0, 0), (.getfield 16, 3, 0, 4, 2, 95), (.iload_n 2, 1, 0, 0, 0, 0), (.iaload, 1, 0, 0, 0, 0), (.ireturn, 1, 0, 0, 0, 0)]),
  (28, [(.iinc 2 (-1), 3, -1, 0, 0, 0), (.goto (-24), 3, 0, 7, 0, 0)]),
  (34, [(.iconst 0, 1, 0, 0, 0, 0), (.ireturn, 1, 0, 0, 0, 0)])]
/-- X4_find -/
def tp_P8 : List (Nat × List tp_Ins) := [(0, [(.iconst 0, 1, 0, 0, 0, 0), (.istore_n 3, 1, 0, 0, 0, 0)]),
  (2, [(.iload_n 3, 1, 0, 0, 0, 0), (.aload_n 0, 1, 0, 0, 0, 0), (.getfield 22, 3, 0, 4, 4, 99), (.if_icmp .ge 31, 3, 0, 38, 0, 0), (.aload_n 0, 1, 0, 0, 0, 0), (.getfield 13, 3, 0, 4, 1, 93), (.iload_n 3, 1, 0, 0, 0, 0), (.iaload, 1, 0, 0, 0, 0), (.iload_n 1, 1, 0, 0, 0, 0), (.if_icmp .ne 15, 3, 0, 32, 0, 0), (.aload_n 0, 1, 0, 0, 0, 0), (.getfield 19, 3, 0, 4, 3, 97), (.iload_n 3, 1, 0, 0, 0, 0), (.iaload, 1, 0, 0, 0, 0), (.iload_n 2, 1, 0, 0, 0, 0), (.if_icmp .ne 5, 3, 0, 32, 0, 0), (.iload_n 3, 1, 0, 0, 0, 0), (.ireturn, 1, 0, 0, 0, 0)]),
  (32, [(.iinc 3 1, 3, 1, 0, 0, 0), (.goto (-33), 3, 0, 2, 0, 0)]),
  (38, [(.iconst (-1), 1, -1, 0, 0, 0), (.ireturn, 1, 0, 0, 0, 0)])]
/-- X4_anySold -/
def tp_P9 : List (Nat × List tp_Ins) := [(0, [(.iconst 0, 1, 0, 0, 0, 0), (.istore 4, 2, 0, 0, 0, 0)]),
  (3, [(.iload 4, 2, 0, 0, 0, 0), (.aload_n 0, 1, 0, 0, 0, 0), (.getfield 22, 3, 0, 4, 4, 99), (.if_icmp .ge 44, 3, 0, 53, 0, 0), (.aload_n 0, 1, 0, 0, 0, 0), (.getfield 13, 3, 0, 4, 1, 93), (.iload 4, 2, 0, 0, 0, 0), (.iaload, 1, 0, 0, 0, 0), (.iload_n 1, 1, 0, 0, 0, 0), (.if_icmp .ne 27, 3, 0, 47, 0, 0), (.aload_n 0, 1, 0, 0, 0, 0), (.getfield 19, 3, 0, 4, 3, 97), (.iload 4, 2, 0, 0, 0, 0), (.iaload, 1, 0, 0, 0, 0), (.iload_n 2, 1, 0, 0, 0, 0), (.if_icmp .lt 16, 3, 0, 47, 0, 0), (.aload_n 0, 1, 0, 0, 0, 0), (.getfield 19, 3, 0, 4, 3, 97), (.iload 4, 2, 0, 0, 0, 0), (.iaload, 1, 0, 0, 0, 0), (.iload_n 3, 1, 0, 0, 0, 0), (.if_icmp .ge 5, 3, 0, 47, 0, 0), (.iconst 1, 1, 1, 0, 0, 0), (.ireturn, 1, 0, 0, 0, 0)]),
  (47, [(.iinc 4 1, 3, 1, 0, 0, 0), (.goto (-47), 3, 0, 3, 0, 0)]),
  (53, [(.iconst 0, 1, 0, 0, 0, 0), (.ireturn, 1, 0, 0, 0, 0)])]
/-- X4_beyond -/
def tp_P10 : List (Nat × List tp_Ins) := [(0, [(.iload_n 2, 1, 0, 0, 0, 0), (.istore_n 3, 1, 0, 0, 0, 0), (.iconst 0, 1, 0, 0, 0, 0), (.istore 4, 2, 0, 0, 0, 0)]),
  (5, [(.iload 4, 2, 0, 0, 0, 0), (.aload_n 0, 1, 0, 0, 0, 0), (.getfield 22, 3, 0, 4, 4, 99), (.if_icmp .ge 34, 3, 0, 45, 0, 0), (.aload_n 0, 1, 0, 0, 0, 0), (.getfield 13, 3, 0, 4, 1, 93), (.iload 4, 2, 0, 0, 0, 0), (.iaload, 1, 0, 0, 0, 0), (.iload_n 1, 1, 0, 0, 0, 0), (.if_icmp .ne 17, 3, 0, 39, 0, 0), (.aload_n 0, 1, 0, 0, 0, 0), (.getfield 19, 3, 0, 4, 3, 97), (.iload 4, 2, 0, 0, 0, 0), (.iaload, 1, 0, 0, 0, 0), (.iload_n 3, 1, 0, 0, 0, 0), (.if_icmp .ne 6, 3, 0, 39, 0, 0), (.iinc 3 1, 3, 1, 0, 0, 0)]),
  (39, [(.iinc 4 1, 3, 1, 0, 0, 0), (.goto (-37), 3, 0, 5, 0, 0)]),
  (45, [(.iload_n 3, 1, 0, 0, 0, 0), (.ireturn, 1, 0, 0, 0, 0)])]
/-- X4_greatestSold -/
def tp_P11 : List (Nat × List tp_Ins) := [(0, [(.iconst (-1), 1, -1, 0, 0, 0), (.istore_n 2, 1, 0, 0, 0, 0), (.iconst 0, 1, 0, 0, 0, 0), (.istore_n 3, 1, 0, 0, 0, 0)]),
  (4, [(.iload_n 3, 1, 0, 0, 0, 0), (.aload_n 0, 1, 0, 0, 0, 0), (.getfield 22, 3, 0, 4, 4, 99), (.if_icmp .ge 30, 3, 0, 39, 0, 0), (.aload_n 0, 1, 0, 0, 0, 0), (.getfield 13, 3, 0, 4, 1, 93), (.iload_n 3, 1, 0, 0, 0, 0), (.iaload, 1, 0, 0, 0, 0), (.iload_n 1, 1, 0, 0, 0, 0), (.if_icmp .ne 14, 3, 0, 33, 0, 0), (.iload_n 2, 1, 0, 0, 0, 0), (.aload_n 0, 1, 0, 0, 0, 0), (.getfield 19, 3, 0, 4, 3, 97), (.iload_n 3, 1, 0, 0, 0, 0), (.iaload, 1, 0, 0, 0, 0), (.invokestatic 30, 3, 0, 900, 2, 380), (.istore_n 2, 1, 0, 0, 0, 0)]),
  (33, [(.iinc 3 1, 3, 1, 0, 0, 0), (.goto (-32), 3, 0, 4, 0, 0)]),
  (39, [(.iload_n 2, 1, 0, 0, 0, 0), (.ireturn, 1, 0, 0, 0, 0)])]
/-- X7_has -/
def tp_P12 : List (Nat × List tp_Ins) := [(0, [(.iload_n 1, 1, 0, 0, 0, 0), (.ifCond .lt 15, 3, 0, 16, 0, 0), (.iload_n 1, 1, 0, 0, 0, 0), (.aload_n 0, 1, 0, 0, 0, 0), (.getfield 22, 3, 0, 7, 3, 74), (.if_icmp .ge 7, 3, 0, 16, 0, 0), (.iconst 1, 1, 1, 0, 0, 0), (.goto 4, 3, 0, 17, 0, 0)]),
  (16, [(.iconst 0, 1, 0, 0, 0, 0)]),
  (17, [(.ireturn, 1, 0, 0, 0, 0)])]
/-- X7_add -/
def tp_P13 : List (Nat × List tp_Ins) := [(0, [(.aload_n 0, 1, 0, 0, 0, 0), (.getfield 22, 3, 0, 7, 3, 74), (.bipush 16, 2, 16, 0, 0, 0), (.if_icmp .lt 6, 3, 0, 12, 0, 0), (.bipush (-3), 2, -3, 0, 0, 0), (.ireturn, 1, 0, 0, 0, 0)]),
  (12, [(.aload_n 0, 1, 0, 0, 0, 0), (.getfield 11, 3, 0, 7, 0, 68), (.aload_n 0, 1, 0, 0, 0, 0), (.getfield 22, 3, 0, 7, 3, 74), (.iload_n 1, 1, 0, 0, 0, 0), (.iastore, 1, 0, 0, 0, 0), (.aload_n 0, 1, 0, 0, 0, 0), (.getfield 15, 3, 0, 7, 1, 70), (.aload_n 0, 1, 0, 0, 0, 0), (.getfield 22, 3, 0, 7, 3, 74), (.iload_n 2, 1, 0, 0, 0, 0), (.bastore, 1, 0, 0, 0, 0), (.aload_n 0, 1, 0, 0, 0, 0), (.getfield 19, 3, 0, 7, 2, 72), (.aload_n 0, 1, 0, 0, 0, 0), (.getfield 22, 3, 0, 7, 3, 74), (.iconst 1, 1, 1, 0, 0, 0), (.bastore, 1, 0, 0, 0, 0), (.aload_n 0, 1, 0, 0, 0, 0), (.dup, 1, 0, 0, 0, 0), (.getfield 22, 3, 0, 7, 3, 74), (.dup_x1, 1, 0, 0, 0, 0), (.iconst 1, 1, 1, 0, 0, 0), (.iadd, 1, 0, 0, 0, 0), (.putfield 22, 3, 0, 7, 3, 74), (.ireturn, 1, 0, 0, 0, 0)])]
/-- X7_hasOpen -/
def tp_P14 : List (Nat × List tp_Ins) := [(0, [(.iconst 0, 1, 0, 0, 0, 0), (.istore_n 2, 1, 0, 0, 0, 0)]),
  (2, [(.iload_n 2, 1, 0, 0, 0, 0), (.aload_n 0, 1, 0, 0, 0, 0), (.getfield 22, 3, 0, 7, 3, 74), (.if_icmp .ge 30, 3, 0, 37, 0, 0), (.aload_n 0, 1, 0, 0, 0, 0), (.getfield 19, 3, 0, 7, 2, 72), (.iload_n 2, 1, 0, 0, 0, 0), (.baload, 1, 0, 0, 0, 0), (.ifCond .eq 15, 3, 0, 31, 0, 0), (.aload_n 0, 1, 0, 0, 0, 0), (.getfield 11, 3, 0, 7, 0, 68), (.iload_n 2, 1, 0, 0, 0, 0), (.iaload, 1, 0, 0, 0, 0), (.iload_n 1, 1, 0, 0, 0, 0), (.if_icmp .ne 5, 3, 0, 31, 0, 0), (.iconst 1, 1, 1, 0, 0, 0), (.ireturn, 1, 0, 0, 0, 0)]),
  (31, [(.iinc 2 1, 3, 1, 0, 0, 0), (.goto (-32), 3, 0, 2, 0, 0)]),
  (37, [(.iconst 0, 1, 0, 0, 0, 0), (.ireturn, 1, 0, 0, 0, 0)])]
/-- X7_stepOfStage -/
def tp_P15 : List (Nat × List tp_Ins) := [(0, [(.aload_n 0, 1, 0, 0, 0, 0), (.getfield 15, 3, 0, 7, 1, 70), (.iload_n 1, 1, 0, 0, 0, 0), (.baload, 1, 0, 0, 0, 0), (.ifCond .eq 7, 3, 0, 13, 0, 0), (.iload_n 2, 1, 0, 0, 0, 0), (.goto 7, 3, 0, 17, 0, 0)]),
  (13, [(.bipush 9, 2, 9, 0, 0, 0), (.iload_n 2, 1, 0, 0, 0, 0), (.isub, 1, 0, 0, 0, 0)]),
  (17, [(.ireturn, 1, 0, 0, 0, 0)])]
/-- X7_stepOfSection -/
def tp_P16 : List (Nat × List tp_Ins) := [(0, [(.aload_n 0, 1, 0, 0, 0, 0), (.getfield 15, 3, 0, 7, 1, 70), (.iload_n 1, 1, 0, 0, 0, 0), (.baload, 1, 0, 0, 0, 0), (.ifCond .eq 7, 3, 0, 13, 0, 0), (.iload_n 2, 1, 0, 0, 0, 0), (.goto 7, 3, 0, 17, 0, 0)]),
  (13, [(.bipush 8, 2, 8, 0, 0, 0), (.iload_n 2, 1, 0, 0, 0, 0), (.isub, 1, 0, 0, 0, 0)]),
  (17, [(.ireturn, 1, 0, 0, 0, 0)])]
/-- X8_has -/
def tp_P17 : List (Nat × List tp_Ins) := [(0, [(.iload_n 1, 1, 0, 0, 0, 0), (.ifCond .lt 15, 3, 0, 16, 0, 0), (.iload_n 1, 1, 0, 0, 0, 0), (.aload_n 0, 1, 0, 0, 0, 0), (.getfield 18, 3, 0, 8, 2, 37), (.if_icmp .ge 7, 3, 0, 16, 0, 0), (.iconst 1, 1, 1, 0, 0, 0), (.goto 4, 3, 0, 17, 0, 0)]),
  (16, [(.iconst 0, 1, 0, 0, 0, 0)]),
  (17, [(.ireturn, 1, 0, 0, 0, 0)])]
/-- X8_add -/
def tp_P18 : List (Nat × List tp_Ins) := [(0, [(.aload_n 0, 1, 0, 0, 0, 0), (.getfield 18, 3, 0, 8, 2, 37), (.iconst 5, 1, 5, 0, 0, 0), (.if_icmp .lt 6, 3, 0, 11, 0, 0), (.bipush (-3), 2, -3, 0, 0, 0), (.ireturn, 1, 0, 0, 0, 0)]),
  (11, [(.aload_n 0, 1, 0, 0, 0, 0), (.getfield 11, 3, 0, 8, 0, 33), (.aload_n 0, 1, 0, 0, 0, 0), (.getfield 18, 3, 0, 8, 2, 37), (.iload_n 1, 1, 0, 0, 0, 0), (.iastore, 1, 0, 0, 0, 0), (.aload_n 0, 1, 0, 0, 0, 0), (.getfield 15, 3, 0, 8, 1, 35), (.aload_n 0, 1, 0, 0, 0, 0), (.getfield 18, 3, 0, 8, 2, 37), (.iload_n 2, 1, 0, 0, 0, 0), (.iastore, 1, 0, 0, 0, 0), (.aload_n 0, 1, 0, 0, 0, 0), (.dup, 1, 0, 0, 0, 0), (.getfield 18, 3, 0, 8, 2, 37), (.dup_x1, 1, 0, 0, 0, 0), (.iconst 1, 1, 1, 0, 0, 0), (.iadd, 1, 0, 0, 0, 0), (.putfield 18, 3, 0, 8, 2, 37), (.ireturn, 1, 0, 0, 0, 0)])]
/-- X9_type -/
def tp_P19 : List (Nat × List tp_Ins) := [(0, [(.iload_n 1, 1, 0, 0, 0, 0), (.iconst 1, 1, 1, 0, 0, 0), (.bipush 60, 2, 60, 0, 0, 0), (.invokestatic 58, 3, 0, 32, 3, 253), (.ifCond .ne 13, 3, 0, 20, 0, 0), (.iload_n 2, 1, 0, 0, 0, 0), (.iconst 1, 1, 1, 0, 0, 0), (.bipush 9, 2, 9, 0, 0, 0), (.invokestatic 58, 3, 0, 32, 3, 253), (.ifCond .eq 5, 3, 0, 22, 0, 0)]),
  (20, [(.iconst (-1), 1, -1, 0, 0, 0), (.ireturn, 1, 0, 0, 0, 0)]),
  (22, [(.aload_n 0, 1, 0, 0, 0, 0), (.getfield 10, 3, 0, 9, 0, 227), (.iload_n 1, 1, 0, 0, 0, 0), (.iload_n 2, 1, 0, 0, 0, 0), (.invokevirtual 62, 3, 0, 18, 3, 256), (.ireturn, 1, 0, 0, 0, 0)])]
/-- X9_issue -/
def tp_P20 : List (Nat × List tp_Ins) := [(0, [(.aload_n 0, 1, 0, 0, 0, 0), (.iload_n 1, 1, 0, 0, 0, 0), (.iload_n 2, 1, 0, 0, 0, 0), (.invokevirtual 66, 3, 0, 33, 3, 264), (.ifCond .eq 25, 3, 0, 31, 0, 0), (.iload_n 3, 1, 0, 0, 0, 0), (.iconst 0, 1, 0, 0, 0, 0), (.ldc 70, 2, 100000, 0, 0, 272), (.invokestatic 58, 3, 0, 32, 3, 253), (.ifCond .ne 15, 3, 0, 31, 0, 0), (.iload 4, 2, 0, 0, 0, 0), (.iconst 0, 1, 0, 0, 0, 0), (.sipush 1000, 3, 1000, 0, 0, 0), (.invokestatic 58, 3, 0, 32, 3, 253), (.ifCond .eq 5, 3, 0, 33, 0, 0)]),
  (31, [(.iconst (-1), 1, -1, 0, 0, 0), (.ireturn, 1, 0, 0, 0, 0)]),
  (33, [(.aload_n 0, 1, 0, 0, 0, 0), (.getfield 33, 3, 0, 9, 3, 230), (.iload_n 2, 1, 0, 0, 0, 0), (.iload_n 3, 1, 0, 0, 0, 0), (.iload_n 3, 1, 0, 0, 0, 0), (.iload 4, 2, 0, 0, 0, 0), (.iadd, 1, 0, 0, 0, 0), (.invokevirtual 71, 3, 0, 9, 4, 273), (.ifCond .ne 20, 3, 0, 66, 0, 0), (.aload_n 0, 1, 0, 0, 0, 0), (.getfield 19, 3, 0, 9, 1, 228), (.iload_n 1, 1, 0, 0, 0, 0), (.iload_n 2, 1, 0, 0, 0, 0), (.iload_n 3, 1, 0, 0, 0, 0), (.iload_n 3, 1, 0, 0, 0, 0), (.iload 4, 2, 0, 0, 0, 0), (.iadd, 1, 0, 0, 0, 0), (.invokevirtual 74, 3, 0, 3, 5, 277), (.ifCond .eq 6, 3, 0, 69, 0, 0)]),
  (66, [(.bipush (-2), 2, -2, 0, 0, 0), (.ireturn, 1, 0, 0, 0, 0)]),
  (69, [(.aload_n 0, 1, 0, 0, 0, 0), (.getfield 19, 3, 0, 9, 1, 228), (.iload_n 1, 1, 0, 0, 0, 0), (.iload_n 2, 1, 0, 0, 0, 0), (.invokevirtual 78, 3, 0, 0, 3, 287), (.istore 5, 2, 0, 0, 0, 0), (.aload_n 0, 1, 0, 0, 0, 0), (.getfield 19, 3, 0, 9, 1, 228), (.iload_n 1, 1, 0, 0, 0, 0), (.iload_n 2, 1, 0, 0, 0, 0), (.iload_n 3, 1, 0, 0, 0, 0), (.iload_n 3, 1, 0, 0, 0, 0), (.iload 4, 2, 0, 0, 0, 0), (.iadd, 1, 0, 0, 0, 0), (.invokevirtual 81, 3, 0, 1, 5, 291), (.iload 5, 2, 0, 0, 0, 0), (.ireturn, 1, 0, 0, 0, 0)])]
/-- X9_pack -/
def tp_P21 : List (Nat × List tp_Ins) := [(0, [(.aload_n 0, 1, 0, 0, 0, 0), (.iload_n 1, 1, 0, 0, 0, 0), (.iload_n 2, 1, 0, 0, 0, 0), (.invokevirtual 66, 3, 0, 33, 3, 264), (.ifCond .eq 12, 3, 0, 18, 0, 0), (.iload_n 3, 1, 0, 0, 0, 0), (.iconst 0, 1, 0, 0, 0, 0), (.iconst 1, 1, 1, 0, 0, 0), (.invokestatic 58, 3, 0, 32, 3, 253), (.ifCond .eq 5, 3, 0, 20, 0, 0)]),
  (18, [(.iconst (-1), 1, -1, 0, 0, 0), (.ireturn, 1, 0, 0, 0, 0)]),
  (20, [(.aload_n 0, 1, 0, 0, 0, 0), (.getfield 19, 3, 0, 9, 1, 228), (.iload_n 1, 1, 0, 0, 0, 0), (.iload_n 2, 1, 0, 0, 0, 0), (.invokevirtual 78, 3, 0, 0, 3, 287), (.istore 4, 2, 0, 0, 0, 0), (.iload_n 3, 1, 0, 0, 0, 0), (.iconst 1, 1, 1, 0, 0, 0), (.if_icmp .ne 6, 3, 0, 39, 0, 0), (.iload 4, 2, 0, 0, 0, 0), (.ireturn, 1, 0, 0, 0, 0)]),
  (39, [(.iload 4, 2, 0, 0, 0, 0), (.ifCond .ne 8, 3, 0, 49, 0, 0), (.bipush (-4), 2, -4, 0, 0, 0), (.goto 14, 3, 0, 60, 0, 0)]),
  (49, [(.aload_n 0, 1, 0, 0, 0, 0), (.getfield 19, 3, 0, 9, 1, 228), (.getfield 85, 3, 0, 2, 0, 55), (.iload_n 1, 1, 0, 0, 0, 0), (.aaload, 1, 0, 0, 0, 0), (.iload_n 2, 1, 0, 0, 0, 0), (.iaload, 1, 0, 0, 0, 0)]),
  (60, [(.ireturn, 1, 0, 0, 0, 0)])]
/-- X9_trip -/
def tp_P22 : List (Nat × List tp_Ins) := [(0, [(.iload_n 1, 1, 0, 0, 0, 0), (.iconst 0, 1, 0, 0, 0, 0), (.iconst 5, 1, 5, 0, 0, 0), (.invokestatic 58, 3, 0, 32, 3, 253), (.ifCond .eq 5, 3, 0, 11, 0, 0), (.iconst (-1), 1, -1, 0, 0, 0), (.ireturn, 1, 0, 0, 0, 0)]),
  (11, [(.aload_n 0, 1, 0, 0, 0, 0), (.getfield 26, 3, 0, 9, 2, 229), (.iload_n 1, 1, 0, 0, 0, 0), (.invokevirtual 89, 3, 0, 14, 2, 303), (.ifCond .eq 8, 3, 0, 27, 0, 0), (.bipush (-2), 2, -2, 0, 0, 0), (.goto 12, 3, 0, 36, 0, 0)]),
  (27, [(.aload_n 0, 1, 0, 0, 0, 0), (.getfield 26, 3, 0, 9, 2, 229), (.iload_n 1, 1, 0, 0, 0, 0), (.iload_n 2, 1, 0, 0, 0, 0), (.invokevirtual 93, 3, 0, 13, 3, 307)]),
  (36, [(.ireturn, 1, 0, 0, 0, 0)])]
/-- X9_close -/
def tp_P23 : List (Nat × List tp_Ins) := [(0, [(.aload_n 0, 1, 0, 0, 0, 0), (.getfield 26, 3, 0, 9, 2, 229), (.iload_n 1, 1, 0, 0, 0, 0), (.invokevirtual 96, 3, 0, 12, 2, 315), (.ifCond .ne 5, 3, 0, 13, 0, 0), (.iconst (-1), 1, -1, 0, 0, 0), (.ireturn, 1, 0, 0, 0, 0)]),
  (13, [(.aload_n 0, 1, 0, 0, 0, 0), (.getfield 26, 3, 0, 9, 2, 229), (.getfield 99, 3, 0, 7, 2, 73), (.iload_n 1, 1, 0, 0, 0, 0), (.baload, 1, 0, 0, 0, 0), (.ifCond .ne 6, 3, 0, 28, 0, 0), (.bipush (-2), 2, -2, 0, 0, 0), (.ireturn, 1, 0, 0, 0, 0)]),
  (28, [(.aload_n 0, 1, 0, 0, 0, 0), (.getfield 26, 3, 0, 9, 2, 229), (.getfield 99, 3, 0, 7, 2, 73), (.iload_n 1, 1, 0, 0, 0, 0), (.iconst 0, 1, 0, 0, 0, 0), (.bastore, 1, 0, 0, 0, 0), (.aload_n 0, 1, 0, 0, 0, 0), (.iload_n 1, 1, 0, 0, 0, 0), (.invokevirtual 103, 3, 0, 34, 2, 319), (.ireturn, 1, 0, 0, 0, 0)])]
/-- X9_sell -/
def tp_P24 : List (Nat × List tp_Ins) := [(0, [(.aload_n 0, 1, 0, 0, 0, 0), (.getfield 26, 3, 0, 9, 2, 229), (.iload_n 1, 1, 0, 0, 0, 0), (.invokevirtual 96, 3, 0, 12, 2, 315), (.ifCond .eq 24, 3, 0, 32, 0, 0), (.aload_n 0, 1, 0, 0, 0, 0), (.getfield 10, 3, 0, 9, 0, 227), (.iload_n 2, 1, 0, 0, 0, 0), (.invokevirtual 107, 3, 0, 17, 2, 268), (.ifCond .eq 13, 3, 0, 32, 0, 0), (.iload_n 3, 1, 0, 0, 0, 0), (.iconst 0, 1, 0, 0, 0, 0), (.bipush 9, 2, 9, 0, 0, 0), (.invokestatic 58, 3, 0, 32, 3, 253), (.ifCond .eq 5, 3, 0, 34, 0, 0)]),
  (32, [(.iconst (-1), 1, -1, 0, 0, 0), (.ireturn, 1, 0, 0, 0, 0)]),
  (34, [(.aload_n 0, 1, 0, 0, 0, 0), (.getfield 26, 3, 0, 9, 2, 229), (.iload_n 1, 1, 0, 0, 0, 0), (.iload_n 3, 1, 0, 0, 0, 0), (.invokevirtual 108, 3, 0, 15, 3, 408), (.istore 4, 2, 0, 0, 0, 0), (.aload_n 0, 1, 0, 0, 0, 0), (.getfield 26, 3, 0, 9, 2, 229), (.getfield 99, 3, 0, 7, 2, 73), (.iload_n 1, 1, 0, 0, 0, 0), (.baload, 1, 0, 0, 0, 0), (.ifCond .eq 23, 3, 0, 77, 0, 0), (.iload 4, 2, 0, 0, 0, 0), (.aload_n 0, 1, 0, 0, 0, 0), (.getfield 33, 3, 0, 9, 3, 230), (.iload_n 1, 1, 0, 0, 0, 0), (.invokevirtual 111, 3, 0, 7, 2, 412), (.if_icmp .lt 10, 3, 0, 77, 0, 0), (.iload 4, 2, 0, 0, 0, 0), (.bipush 9, 2, 9, 0, 0, 0), (.if_icmp .ne 6, 3, 0, 80, 0, 0)]),
  (77, [(.bipush (-2), 2, -2, 0, 0, 0), (.ireturn, 1, 0, 0, 0, 0)]),
  (80, [(.aload_n 0, 1, 0, 0, 0, 0), (.getfield 33, 3, 0, 9, 3, 230), (.invokevirtual 114, 3, 0, 5, 1, 416), (.ifCond .eq 6, 3, 0, 93, 0, 0), (.bipush (-3), 2, -3, 0, 0, 0), (.ireturn, 1, 0, 0, 0, 0)]),
  (93, [(.aload_n 0, 1, 0, 0, 0, 0), (.getfield 26, 3, 0, 9, 2, 229), (.getfield 118, 3, 0, 7, 0, 69), (.iload_n 1, 1, 0, 0, 0, 0), (.iaload, 1, 0, 0, 0, 0), (.istore 5, 2, 0, 0, 0, 0), (.aload_n 0, 1, 0, 0, 0, 0), (.getfield 19, 3, 0, 9, 1, 228), (.iload 5, 2, 0, 0, 0, 0), (.iload_n 2, 1, 0, 0, 0, 0), (.invokevirtual 78, 3, 0, 0, 3, 287), (.ifCond .ne 6, 3, 0, 120, 0, 0), (.bipush (-4), 2, -4, 0, 0, 0), (.ireturn, 1, 0, 0, 0, 0)]),
  (120, [(.aload_n 0, 1, 0, 0, 0, 0), (.getfield 19, 3, 0, 9, 1, 228), (.iload 5, 2, 0, 0, 0, 0), (.iload_n 2, 1, 0, 0, 0, 0), (.invokevirtual 122, 3, 0, 2, 3, 420), (.istore 6, 2, 0, 0, 0, 0), (.aload_n 0, 1, 0, 0, 0, 0), (.getfield 33, 3, 0, 9, 3, 230), (.iload_n 1, 1, 0, 0, 0, 0), (.iload_n 2, 1, 0, 0, 0, 0), (.iload 4, 2, 0, 0, 0, 0), (.iload 6, 2, 0, 0, 0, 0), (.invokevirtual 125, 3, 0, 6, 5, 424), (.iload 6, 2, 0, 0, 0, 0), (.ireturn, 1, 0, 0, 0, 0)])]
/-- X9_undo -/
def tp_P25 : List (Nat × List tp_Ins) := [(0, [(.aload_n 0, 1, 0, 0, 0, 0), (.getfield 33, 3, 0, 9, 3, 230), (.getfield 127, 3, 0, 4, 4, 100), (.ifCond .ne 6, 3, 0, 13, 0, 0), (.bipush (-4), 2, -4, 0, 0, 0), (.ireturn, 1, 0, 0, 0, 0)]),
  (13, [(.aload_n 0, 1, 0, 0, 0, 0), (.getfield 33, 3, 0, 9, 3, 230), (.getfield 127, 3, 0, 4, 4, 100), (.iconst 1, 1, 1, 0, 0, 0), (.isub, 1, 0, 0, 0, 0), (.istore_n 1, 1, 0, 0, 0, 0), (.aload_n 0, 1, 0, 0, 0, 0), (.getfield 33, 3, 0, 9, 3, 230), (.getfield 131, 3, 0, 4, 0, 92), (.iload_n 1, 1, 0, 0, 0, 0), (.iaload, 1, 0, 0, 0, 0), (.istore_n 2, 1, 0, 0, 0, 0), (.aload_n 0, 1, 0, 0, 0, 0), (.getfield 19, 3, 0, 9, 1, 228), (.getfield 85, 3, 0, 2, 0, 55), (.aload_n 0, 1, 0, 0, 0, 0), (.getfield 26, 3, 0, 9, 2, 229), (.getfield 118, 3, 0, 7, 0, 69), (.iload_n 2, 1, 0, 0, 0, 0), (.iaload, 1, 0, 0, 0, 0), (.aaload, 1, 0, 0, 0, 0), (.aload_n 0, 1, 0, 0, 0, 0), (.getfield 33, 3, 0, 9, 3, 230), (.getfield 134, 3, 0, 4, 1, 94), (.iload_n 1, 1, 0, 0, 0, 0), (.iaload, 1, 0, 0, 0, 0), (.iaload, 1, 0, 0, 0, 0), (.istore_n 3, 1, 0, 0, 0, 0), (.aload_n 0, 1, 0, 0, 0, 0), (.getfield 26, 3, 0, 9, 2, 229), (.getfield 99, 3, 0, 7, 2, 73), (.iload_n 2, 1, 0, 0, 0, 0), (.baload, 1, 0, 0, 0, 0), (.ifCond .eq 18, 3, 0, 88, 0, 0), (.aload_n 0, 1, 0, 0, 0, 0), (.getfield 33, 3, 0, 9, 3, 230), (.getfield 137, 3, 0, 4, 3, 98), (.iload_n 1, 1, 0, 0, 0, 0), (.iaload, 1, 0, 0, 0, 0), (.iload_n 3, 1, 0, 0, 0, 0), (.iconst 1, 1, 1, 0, 0, 0), (.isub, 1, 0, 0, 0, 0), (.if_icmp .eq 6, 3, 0, 91, 0, 0)]),
  (88, [(.bipush (-2), 2, -2, 0, 0, 0), (.ireturn, 1, 0, 0, 0, 0)]),
  (91, [(.aload_n 0, 1, 0, 0, 0, 0), (.invokevirtual 140, 3, 0, 38, 1, 327), (.aload_n 0, 1, 0, 0, 0, 0), (.getfield 33, 3, 0, 9, 3, 230), (.getfield 127, 3, 0, 4, 4, 100), (.ireturn, 1, 0, 0, 0, 0)])]
/-- X9_money -/
def tp_P26 : List (Nat × List tp_Ins) := [(0, [(.aload_n 0, 1, 0, 0, 0, 0), (.getfield 26, 3, 0, 9, 2, 229), (.iload_n 1, 1, 0, 0, 0, 0), (.invokevirtual 96, 3, 0, 12, 2, 315), (.ifCond .eq 11, 3, 0, 19, 0, 0), (.aload_n 0, 1, 0, 0, 0, 0), (.iload_n 1, 1, 0, 0, 0, 0), (.invokevirtual 103, 3, 0, 34, 2, 319), (.goto 4, 3, 0, 20, 0, 0)]),
  (19, [(.iconst (-1), 1, -1, 0, 0, 0)]),
  (20, [(.ireturn, 1, 0, 0, 0, 0)])]
/-- X9_aboard -/
def tp_P27 : List (Nat × List tp_Ins) := [(0, [(.aload_n 0, 1, 0, 0, 0, 0), (.getfield 26, 3, 0, 9, 2, 229), (.iload_n 1, 1, 0, 0, 0, 0), (.invokevirtual 96, 3, 0, 12, 2, 315), (.ifCond .eq 22, 3, 0, 30, 0, 0), (.iload_n 2, 1, 0, 0, 0, 0), (.iconst 0, 1, 0, 0, 0, 0), (.bipush 8, 2, 8, 0, 0, 0), (.invokestatic 58, 3, 0, 32, 3, 253), (.ifCond .ne 12, 3, 0, 30, 0, 0), (.iload_n 3, 1, 0, 0, 0, 0), (.iconst 0, 1, 0, 0, 0, 0), (.iconst 1, 1, 1, 0, 0, 0), (.invokestatic 58, 3, 0, 32, 3, 253), (.ifCond .eq 5, 3, 0, 32, 0, 0)]),
  (30, [(.iconst (-1), 1, -1, 0, 0, 0), (.ireturn, 1, 0, 0, 0, 0)]),
  (32, [(.aload_n 0, 1, 0, 0, 0, 0), (.iload_n 1, 1, 0, 0, 0, 0), (.iload_n 2, 1, 0, 0, 0, 0), (.iload_n 3, 1, 0, 0, 0, 0), (.invokevirtual 178, 3, 0, 35, 4, 339), (.ireturn, 1, 0, 0, 0, 0)])]
/-- X9_riders -/
def tp_P28 : List (Nat × List tp_Ins) := [(0, [(.iload_n 2, 1, 0, 0, 0, 0), (.iconst 0, 1, 0, 0, 0, 0), (.bipush 8, 2, 8, 0, 0, 0), (.invokestatic 58, 3, 0, 32, 3, 253), (.ifCond .ne 12, 3, 0, 19, 0, 0), (.iload_n 3, 1, 0, 0, 0, 0), (.iconst 0, 1, 0, 0, 0, 0), (.iconst 1, 1, 1, 0, 0, 0), (.invokestatic 58, 3, 0, 32, 3, 253), (.ifCond .eq 5, 3, 0, 21, 0, 0)]),
  (19, [(.iconst (-1), 1, -1, 0, 0, 0), (.ireturn, 1, 0, 0, 0, 0)]),
  (21, [(.iconst 0, 1, 0, 0, 0, 0), (.istore 4, 2, 0, 0, 0, 0), (.iconst 0, 1, 0, 0, 0, 0), (.istore 5, 2, 0, 0, 0, 0)]),
  (27, [(.iload 5, 2, 0, 0, 0, 0), (.aload_n 0, 1, 0, 0, 0, 0), (.getfield 33, 3, 0, 9, 3, 230), (.getfield 127, 3, 0, 4, 4, 100), (.if_icmp .ge 45, 3, 0, 81, 0, 0), (.aload_n 0, 1, 0, 0, 0, 0), (.getfield 26, 3, 0, 9, 2, 229), (.getfield 182, 3, 0, 7, 1, 71), (.aload_n 0, 1, 0, 0, 0, 0), (.getfield 33, 3, 0, 9, 3, 230), (.getfield 131, 3, 0, 4, 0, 92), (.iload 5, 2, 0, 0, 0, 0), (.iaload, 1, 0, 0, 0, 0), (.baload, 1, 0, 0, 0, 0), (.iload_n 1, 1, 0, 0, 0, 0), (.if_icmp .ne 17, 3, 0, 75, 0, 0), (.aload_n 0, 1, 0, 0, 0, 0), (.iload 5, 2, 0, 0, 0, 0), (.iload_n 2, 1, 0, 0, 0, 0), (.iload_n 3, 1, 0, 0, 0, 0), (.invokevirtual 185, 3, 0, 36, 4, 343), (.ifCond .eq 6, 3, 0, 75, 0, 0), (.iinc 4 1, 3, 1, 0, 0, 0)]),
  (75, [(.iinc 5 1, 3, 1, 0, 0, 0), (.goto (-51), 3, 0, 27, 0, 0)]),
  (81, [(.iload 4, 2, 0, 0, 0, 0), (.ireturn, 1, 0, 0, 0, 0)])]
/-- X9_shown -/
def tp_P29 : List (Nat × List tp_Ins) := [(0, [(.aload_n 0, 1, 0, 0, 0, 0), (.getfield 26, 3, 0, 9, 2, 229), (.iload_n 1, 1, 0, 0, 0, 0), (.invokevirtual 96, 3, 0, 12, 2, 315), (.ifCond .eq 29, 3, 0, 37, 0, 0), (.iload_n 2, 1, 0, 0, 0, 0), (.iconst 0, 1, 0, 0, 0, 0), (.bipush 8, 2, 8, 0, 0, 0), (.invokestatic 58, 3, 0, 32, 3, 253), (.ifCond .ne 19, 3, 0, 37, 0, 0), (.aload_n 0, 1, 0, 0, 0, 0), (.getfield 10, 3, 0, 9, 0, 227), (.iload_n 3, 1, 0, 0, 0, 0), (.invokevirtual 107, 3, 0, 17, 2, 268), (.ifCond .eq 8, 3, 0, 37, 0, 0), (.iload 4, 2, 0, 0, 0, 0), (.ifCond .ge 5, 3, 0, 39, 0, 0)]),
  (37, [(.iconst (-1), 1, -1, 0, 0, 0), (.ireturn, 1, 0, 0, 0, 0)]),
  (39, [(.aload_n 0, 1, 0, 0, 0, 0), (.getfield 33, 3, 0, 9, 3, 230), (.iload_n 3, 1, 0, 0, 0, 0), (.iload 4, 2, 0, 0, 0, 0), (.invokevirtual 188, 3, 0, 8, 3, 363), (.istore 5, 2, 0, 0, 0, 0), (.iload 5, 2, 0, 0, 0, 0), (.ifCond .ge 5, 3, 0, 58, 0, 0), (.iconst 1, 1, 1, 0, 0, 0), (.ireturn, 1, 0, 0, 0, 0)]),
  (58, [(.aload_n 0, 1, 0, 0, 0, 0), (.getfield 33, 3, 0, 9, 3, 230), (.getfield 131, 3, 0, 4, 0, 92), (.iload 5, 2, 0, 0, 0, 0), (.iaload, 1, 0, 0, 0, 0), (.iload_n 1, 1, 0, 0, 0, 0), (.if_icmp .eq 5, 3, 0, 74, 0, 0), (.iconst 2, 1, 2, 0, 0, 0), (.ireturn, 1, 0, 0, 0, 0)]),
  (74, [(.aload_n 0, 1, 0, 0, 0, 0), (.getfield 26, 3, 0, 9, 2, 229), (.iload_n 1, 1, 0, 0, 0, 0), (.iload_n 2, 1, 0, 0, 0, 0), (.invokevirtual 191, 3, 0, 16, 3, 347), (.istore 6, 2, 0, 0, 0, 0), (.aload_n 0, 1, 0, 0, 0, 0), (.getfield 33, 3, 0, 9, 3, 230), (.getfield 194, 3, 0, 4, 2, 96), (.iload 5, 2, 0, 0, 0, 0), (.iaload, 1, 0, 0, 0, 0), (.iload 6, 2, 0, 0, 0, 0), (.if_icmp .le 5, 3, 0, 102, 0, 0), (.iconst 3, 1, 3, 0, 0, 0), (.ireturn, 1, 0, 0, 0, 0)]),
  (102, [(.aload_n 0, 1, 0, 0, 0, 0), (.iload 5, 2, 0, 0, 0, 0), (.iload 6, 2, 0, 0, 0, 0), (.invokevirtual 197, 3, 0, 37, 3, 351), (.ifCond .eq 7, 3, 0, 117, 0, 0), (.iconst 0, 1, 0, 0, 0, 0), (.goto 4, 3, 0, 118, 0, 0)]),
  (117, [(.iconst 4, 1, 4, 0, 0, 0)]),
  (118, [(.ireturn, 1, 0, 0, 0, 0)])]
/-- X9_heads -/
def tp_P30 : List (Nat × List tp_Ins) := [(0, [(.aload_n 0, 1, 0, 0, 0, 0), (.getfield 26, 3, 0, 9, 2, 229), (.iload_n 1, 1, 0, 0, 0, 0), (.invokevirtual 96, 3, 0, 12, 2, 315), (.ifCond .eq 24, 3, 0, 32, 0, 0), (.iload_n 2, 1, 0, 0, 0, 0), (.iconst 0, 1, 0, 0, 0, 0), (.bipush 8, 2, 8, 0, 0, 0), (.invokestatic 58, 3, 0, 32, 3, 253), (.ifCond .ne 14, 3, 0, 32, 0, 0), (.iload_n 3, 1, 0, 0, 0, 0), (.iconst 0, 1, 0, 0, 0, 0), (.sipush 1000, 3, 1000, 0, 0, 0), (.invokestatic 58, 3, 0, 32, 3, 253), (.ifCond .eq 6, 3, 0, 35, 0, 0)]),
  (32, [(.ldc 176, 2, -1000000, 0, 0, 371), (.ireturn, 1, 0, 0, 0, 0)]),
  (35, [(.aload_n 0, 1, 0, 0, 0, 0), (.iload_n 1, 1, 0, 0, 0, 0), (.iload_n 2, 1, 0, 0, 0, 0), (.iconst 1, 1, 1, 0, 0, 0), (.invokevirtual 178, 3, 0, 35, 4, 339), (.istore 4, 2, 0, 0, 0, 0), (.iload_n 3, 1, 0, 0, 0, 0), (.iload 4, 2, 0, 0, 0, 0), (.if_icmp .le 8, 3, 0, 55, 0, 0), (.iload_n 3, 1, 0, 0, 0, 0), (.iload 4, 2, 0, 0, 0, 0), (.isub, 1, 0, 0, 0, 0), (.ireturn, 1, 0, 0, 0, 0)]),
  (55, [(.aload_n 0, 1, 0, 0, 0, 0), (.iload_n 1, 1, 0, 0, 0, 0), (.iload_n 2, 1, 0, 0, 0, 0), (.iconst 0, 1, 0, 0, 0, 0), (.invokevirtual 178, 3, 0, 35, 4, 339), (.istore 5, 2, 0, 0, 0, 0), (.iload_n 3, 1, 0, 0, 0, 0), (.iload 5, 2, 0, 0, 0, 0), (.if_icmp .ge 10, 3, 0, 77, 0, 0), (.iload_n 3, 1, 0, 0, 0, 0), (.iload 5, 2, 0, 0, 0, 0), (.isub, 1, 0, 0, 0, 0), (.goto 4, 3, 0, 78, 0, 0)]),
  (77, [(.iconst 0, 1, 0, 0, 0, 0)]),
  (78, [(.ireturn, 1, 0, 0, 0, 0)])]
/-- X9_gap -/
def tp_P31 : List (Nat × List tp_Ins) := [(0, [(.aload_n 0, 1, 0, 0, 0, 0), (.getfield 10, 3, 0, 9, 0, 227), (.iload_n 1, 1, 0, 0, 0, 0), (.invokevirtual 107, 3, 0, 17, 2, 268), (.ifCond .ne 5, 3, 0, 13, 0, 0), (.iconst (-1), 1, -1, 0, 0, 0), (.ireturn, 1, 0, 0, 0, 0)]),
  (13, [(.aload_n 0, 1, 0, 0, 0, 0), (.getfield 33, 3, 0, 9, 3, 230), (.iload_n 1, 1, 0, 0, 0, 0), (.invokevirtual 200, 3, 0, 11, 2, 376), (.istore_n 2, 1, 0, 0, 0, 0), (.iconst 0, 1, 0, 0, 0, 0), (.istore_n 3, 1, 0, 0, 0, 0), (.iconst 0, 1, 0, 0, 0, 0), (.istore 4, 2, 0, 0, 0, 0)]),
  (27, [(.iload 4, 2, 0, 0, 0, 0), (.sipush 206, 3, 206, 0, 0, 0), (.if_icmp .gt 33, 3, 0, 65, 0, 0), (.iload_n 3, 1, 0, 0, 0, 0), (.iload_n 2, 1, 0, 0, 0, 0), (.if_icmp .ge 28, 3, 0, 65, 0, 0), (.aload_n 0, 1, 0, 0, 0, 0), (.iload_n 1, 1, 0, 0, 0, 0), (.iload_n 3, 1, 0, 0, 0, 0), (.invokevirtual 203, 3, 0, 39, 3, 381), (.istore 5, 2, 0, 0, 0, 0), (.iload 5, 2, 0, 0, 0, 0), (.iload_n 3, 1, 0, 0, 0, 0), (.if_icmp .ne 5, 3, 0, 56, 0, 0), (.iload_n 3, 1, 0, 0, 0, 0), (.ireturn, 1, 0, 0, 0, 0)]),
  (56, [(.iload 5, 2, 0, 0, 0, 0), (.istore_n 3, 1, 0, 0, 0, 0), (.iinc 4 1, 3, 1, 0, 0, 0), (.goto (-35), 3, 0, 27, 0, 0)]),
  (65, [(.bipush (-4), 2, -4, 0, 0, 0), (.ireturn, 1, 0, 0, 0, 0)])]
/-- X9_isOutside -/
def tp_P32 : List (Nat × List tp_Ins) := [(0, [(.iload_n 0, 1, 0, 0, 0, 0), (.iload_n 1, 1, 0, 0, 0, 0), (.if_icmp .lt 8, 3, 0, 10, 0, 0), (.iload_n 0, 1, 0, 0, 0, 0), (.iload_n 2, 1, 0, 0, 0, 0), (.if_icmp .le 7, 3, 0, 14, 0, 0)]),
  (10, [(.iconst 1, 1, 1, 0, 0, 0), (.goto 4, 3, 0, 15, 0, 0)]),
  (14, [(.iconst 0, 1, 0, 0, 0, 0)]),
  (15, [(.ireturn, 1, 0, 0, 0, 0)])]
/-- X9_hasPack -/
def tp_P33 : List (Nat × List tp_Ins) := [(0, [(.iload_n 1, 1, 0, 0, 0, 0), (.iconst 0, 1, 0, 0, 0, 0), (.iconst 5, 1, 5, 0, 0, 0), (.invokestatic 58, 3, 0, 32, 3, 253), (.ifCond .ne 18, 3, 0, 24, 0, 0), (.aload_n 0, 1, 0, 0, 0, 0), (.getfield 10, 3, 0, 9, 0, 227), (.iload_n 2, 1, 0, 0, 0, 0), (.invokevirtual 107, 3, 0, 17, 2, 268), (.ifCond .eq 7, 3, 0, 24, 0, 0), (.iconst 1, 1, 1, 0, 0, 0), (.goto 4, 3, 0, 25, 0, 0)]),
  (24, [(.iconst 0, 1, 0, 0, 0, 0)]),
  (25, [(.ireturn, 1, 0, 0, 0, 0)])]
/-- X9_takings -/
def tp_P34 : List (Nat × List tp_Ins) := [(0, [(.iconst 0, 1, 0, 0, 0, 0), (.istore_n 2, 1, 0, 0, 0, 0), (.iconst 0, 1, 0, 0, 0, 0), (.istore_n 3, 1, 0, 0, 0, 0)]),
  (4, [(.iload_n 3, 1, 0, 0, 0, 0), (.aload_n 0, 1, 0, 0, 0, 0), (.getfield 33, 3, 0, 9, 3, 230), (.getfield 127, 3, 0, 4, 4, 100), (.if_icmp .ge 42, 3, 0, 54, 0, 0), (.aload_n 0, 1, 0, 0, 0, 0), (.getfield 33, 3, 0, 9, 3, 230), (.getfield 131, 3, 0, 4, 0, 92), (.iload_n 3, 1, 0, 0, 0, 0), (.iaload, 1, 0, 0, 0, 0), (.iload_n 1, 1, 0, 0, 0, 0), (.if_icmp .ne 23, 3, 0, 48, 0, 0), (.iload_n 2, 1, 0, 0, 0, 0), (.aload_n 0, 1, 0, 0, 0, 0), (.getfield 10, 3, 0, 9, 0, 227), (.getfield 266, 3, 0, 8, 0, 34), (.aload_n 0, 1, 0, 0, 0, 0), (.getfield 33, 3, 0, 9, 3, 230), (.getfield 134, 3, 0, 4, 1, 94), (.iload_n 3, 1, 0, 0, 0, 0), (.iaload, 1, 0, 0, 0, 0), (.iaload, 1, 0, 0, 0, 0), (.iadd, 1, 0, 0, 0, 0), (.istore_n 2, 1, 0, 0, 0, 0)]),
  (48, [(.iinc 3 1, 3, 1, 0, 0, 0), (.goto (-47), 3, 0, 4, 0, 0)]),
  (54, [(.iload_n 2, 1, 0, 0, 0, 0), (.ireturn, 1, 0, 0, 0, 0)])]
/-- X9_howManyAboard -/
def tp_P35 : List (Nat × List tp_Ins) := [(0, [(.iconst 0, 1, 0, 0, 0, 0), (.istore 4, 2, 0, 0, 0, 0), (.iconst 0, 1, 0, 0, 0, 0), (.istore 5, 2, 0, 0, 0, 0)]),
  (6, [(.iload 5, 2, 0, 0, 0, 0), (.aload_n 0, 1, 0, 0, 0, 0), (.getfield 33, 3, 0, 9, 3, 230), (.getfield 127, 3, 0, 4, 4, 100), (.if_icmp .ge 37, 3, 0, 52, 0, 0), (.aload_n 0, 1, 0, 0, 0, 0), (.getfield 33, 3, 0, 9, 3, 230), (.getfield 131, 3, 0, 4, 0, 92), (.iload 5, 2, 0, 0, 0, 0), (.iaload, 1, 0, 0, 0, 0), (.iload_n 1, 1, 0, 0, 0, 0), (.if_icmp .ne 17, 3, 0, 46, 0, 0), (.aload_n 0, 1, 0, 0, 0, 0), (.iload 5, 2, 0, 0, 0, 0), (.iload_n 2, 1, 0, 0, 0, 0), (.iload_n 3, 1, 0, 0, 0, 0), (.invokevirtual 185, 3, 0, 36, 4, 343), (.ifCond .eq 6, 3, 0, 46, 0, 0), (.iinc 4 1, 3, 1, 0, 0, 0)]),
  (46, [(.iinc 5 1, 3, 1, 0, 0, 0), (.goto (-43), 3, 0, 6, 0, 0)]),
  (52, [(.iload 4, 2, 0, 0, 0, 0), (.ireturn, 1, 0, 0, 0, 0)])]
/-- X9_isAboard -/
def tp_P36 : List (Nat × List tp_Ins) := [(0, [(.aload_n 0, 1, 0, 0, 0, 0), (.getfield 26, 3, 0, 9, 2, 229), (.aload_n 0, 1, 0, 0, 0, 0), (.getfield 33, 3, 0, 9, 3, 230), (.getfield 131, 3, 0, 4, 0, 92), (.iload_n 1, 1, 0, 0, 0, 0), (.iaload, 1, 0, 0, 0, 0), (.iload_n 2, 1, 0, 0, 0, 0), (.invokevirtual 191, 3, 0, 16, 3, 347), (.istore 4, 2, 0, 0, 0, 0), (.iload_n 3, 1, 0, 0, 0, 0), (.ifCond .ne 25, 3, 0, 45, 0, 0), (.aload_n 0, 1, 0, 0, 0, 0), (.getfield 33, 3, 0, 9, 3, 230), (.getfield 194, 3, 0, 4, 2, 96), (.iload_n 1, 1, 0, 0, 0, 0), (.iaload, 1, 0, 0, 0, 0), (.iload 4, 2, 0, 0, 0, 0), (.if_icmp .ne 7, 3, 0, 41, 0, 0), (.iconst 1, 1, 1, 0, 0, 0), (.goto 14, 3, 0, 52, 0, 0)]),
  (41, [(.iconst 0, 1, 0, 0, 0, 0), (.goto 10, 3, 0, 52, 0, 0)]),
  (45, [(.aload_n 0, 1, 0, 0, 0, 0), (.iload_n 1, 1, 0, 0, 0, 0), (.iload 4, 2, 0, 0, 0, 0), (.invokevirtual 197, 3, 0, 37, 3, 351)]),
  (52, [(.ireturn, 1, 0, 0, 0, 0)])]
/-- X9_isGoodAt -/
def tp_P37 : List (Nat × List tp_Ins) := [(0, [(.aload_n 0, 1, 0, 0, 0, 0), (.getfield 33, 3, 0, 9, 3, 230), (.getfield 194, 3, 0, 4, 2, 96), (.iload_n 1, 1, 0, 0, 0, 0), (.iaload, 1, 0, 0, 0, 0), (.istore_n 3, 1, 0, 0, 0, 0), (.iload_n 2, 1, 0, 0, 0, 0), (.iload_n 3, 1, 0, 0, 0, 0), (.if_icmp .lt 30, 3, 0, 42, 0, 0), (.iload_n 2, 1, 0, 0, 0, 0), (.iload_n 3, 1, 0, 0, 0, 0), (.aload_n 0, 1, 0, 0, 0, 0), (.getfield 10, 3, 0, 9, 0, 227), (.getfield 269, 3, 0, 8, 1, 36), (.aload_n 0, 1, 0, 0, 0, 0), (.getfield 33, 3, 0, 9, 3, 230), (.getfield 134, 3, 0, 4, 1, 94), (.iload_n 1, 1, 0, 0, 0, 0), (.iaload, 1, 0, 0, 0, 0), (.iaload, 1, 0, 0, 0, 0), (.iadd, 1, 0, 0, 0, 0), (.if_icmp .ge 7, 3, 0, 42, 0, 0), (.iconst 1, 1, 1, 0, 0, 0), (.goto 4, 3, 0, 43, 0, 0)]),
  (42, [(.iconst 0, 1, 0, 0, 0, 0)]),
  (43, [(.ireturn, 1, 0, 0, 0, 0)])]
/-- X9_takeBackLatest -/
def tp_P38 : List (Nat × List tp_Ins) := [(0, [(.aload_n 0, 1, 0, 0, 0, 0), (.getfield 33, 3, 0, 9, 3, 230), (.getfield 127, 3, 0, 4, 4, 100), (.iconst 1, 1, 1, 0, 0, 0), (.isub, 1, 0, 0, 0, 0), (.istore_n 1, 1, 0, 0, 0, 0), (.aload_n 0, 1, 0, 0, 0, 0), (.getfield 26, 3, 0, 9, 2, 229), (.getfield 118, 3, 0, 7, 0, 69), (.aload_n 0, 1, 0, 0, 0, 0), (.getfield 33, 3, 0, 9, 3, 230), (.getfield 131, 3, 0, 4, 0, 92), (.iload_n 1, 1, 0, 0, 0, 0), (.iaload, 1, 0, 0, 0, 0), (.iaload, 1, 0, 0, 0, 0), (.istore_n 2, 1, 0, 0, 0, 0), (.aload_n 0, 1, 0, 0, 0, 0), (.getfield 19, 3, 0, 9, 1, 228), (.getfield 85, 3, 0, 2, 0, 55), (.iload_n 2, 1, 0, 0, 0, 0), (.aaload, 1, 0, 0, 0, 0), (.aload_n 0, 1, 0, 0, 0, 0), (.getfield 33, 3, 0, 9, 3, 230), (.getfield 134, 3, 0, 4, 1, 94), (.iload_n 1, 1, 0, 0, 0, 0), (.iaload, 1, 0, 0, 0, 0), (.aload_n 0, 1, 0, 0, 0, 0), (.getfield 33, 3, 0, 9, 3, 230), (.getfield 137, 3, 0, 4, 3, 98), (.iload_n 1, 1, 0, 0, 0, 0), (.iaload, 1, 0, 0, 0, 0), (.iastore, 1, 0, 0, 0, 0), (.aload_n 0, 1, 0, 0, 0, 0), (.getfield 33, 3, 0, 9, 3, 230), (.iload_n 1, 1, 0, 0, 0, 0), (.putfield 127, 3, 0, 4, 4, 100), (.return_, 1, 0, 0, 0, 0)])]
/-- X9_beyondHeld -/
def tp_P39 : List (Nat × List tp_Ins) := [(0, [(.aload_n 0, 1, 0, 0, 0, 0), (.getfield 19, 3, 0, 9, 1, 228), (.iload_n 1, 1, 0, 0, 0, 0), (.aload_n 0, 1, 0, 0, 0, 0), (.getfield 33, 3, 0, 9, 3, 230), (.iload_n 1, 1, 0, 0, 0, 0), (.iload_n 2, 1, 0, 0, 0, 0), (.invokevirtual 278, 3, 0, 10, 3, 385), (.invokevirtual 281, 3, 0, 4, 3, 389), (.ireturn, 1, 0, 0, 0, 0)])]
/-- L_part -/
def tp_P40 : List (Nat × List tp_Ins) := [(0, [(.iload_n 0, 1, 0, 0, 0, 0), (.ldc 7, 2, 2147483647, 0, 0, 396), (.iand, 1, 0, 0, 0, 0), (.iload_n 1, 1, 0, 0, 0, 0), (.irem, 1, 0, 0, 0, 0), (.ireturn, 1, 0, 0, 0, 0)])]
/-- L_cell -/
def tp_P41 : List (Nat × List tp_Ins) := [(0, [(.aload_n 0, 1, 0, 0, 0, 0), (.arraylength, 1, 0, 0, 0, 0), (.ifCond .ne 13, 3, 0, 15, 0, 0), (.sipush 7919, 3, 7919, 0, 0, 0), (.iload_n 1, 1, 0, 0, 0, 0), (.imul, 1, 0, 0, 0, 0), (.iconst 3, 1, 3, 0, 0, 0), (.iadd, 1, 0, 0, 0, 0), (.goto 27, 3, 0, 39, 0, 0)]),
  (15, [(.aload_n 0, 1, 0, 0, 0, 0), (.iload_n 1, 1, 0, 0, 0, 0), (.aload_n 0, 1, 0, 0, 0, 0), (.arraylength, 1, 0, 0, 0, 0), (.irem, 1, 0, 0, 0, 0), (.iaload, 1, 0, 0, 0, 0), (.iload_n 1, 1, 0, 0, 0, 0), (.bipush 7, 2, 7, 0, 0, 0), (.irem, 1, 0, 0, 0, 0), (.ishr, 1, 0, 0, 0, 0), (.iload_n 1, 1, 0, 0, 0, 0), (.aload_n 0, 1, 0, 0, 0, 0), (.arraylength, 1, 0, 0, 0, 0), (.idiv, 1, 0, 0, 0, 0), (.bipush 31, 2, 31, 0, 0, 0), (.imul, 1, 0, 0, 0, 0), (.ixor, 1, 0, 0, 0, 0), (.iload_n 1, 1, 0, 0, 0, 0), (.ldc 8, 2, 2654435, 0, 0, 400), (.imul, 1, 0, 0, 0, 0), (.ixor, 1, 0, 0, 0, 0)]),
  (39, [(.ireturn, 1, 0, 0, 0, 0)])]
/-- L_sells -/
def tp_P42 : List (Nat × List tp_Ins) := [(0, [(.iconst 0, 1, 0, 0, 0, 0), (.istore 10, 2, 0, 0, 0, 0)]),
  (3, [(.iload 10, 2, 0, 0, 0, 0), (.bipush 14, 2, 14, 0, 0, 0), (.if_icmp .ge 373, 3, 0, 380, 0, 0), (.aload_n 1, 1, 0, 0, 0, 0), (.iload_n 2, 1, 0, 0, 0, 0), (.iload 10, 2, 0, 0, 0, 0), (.iadd, 1, 0, 0, 0, 0), (.invokestatic 9, 3, 0, 41, 2, 397), (.istore 11, 2, 0, 0, 0, 0), (.iload 11, 2, 0, 0, 0, 0), (.iload_n 3, 1, 0, 0, 0, 0), (.invokestatic 15, 3, 0, 40, 2, 393), (.istore 12, 2, 0, 0, 0, 0), (.iload 11, 2, 0, 0, 0, 0), (.iconst 3, 1, 3, 0, 0, 0), (.ishr, 1, 0, 0, 0, 0), (.iload 4, 2, 0, 0, 0, 0), (.invokestatic 15, 3, 0, 40, 2, 393), (.istore 13, 2, 0, 0, 0, 0), (.iconst (-1), 1, -1, 0, 0, 0), (.istore 14, 2, 0, 0, 0, 0), (.iconst 0, 1, 0, 0, 0, 0), (.istore 15, 2, 0, 0, 0, 0)]),
  (45, [(.iload 15, 2, 0, 0, 0, 0), (.aload 6, 2, 0, 0, 0, 0), (.iconst 0, 1, 0, 0, 0, 0), (.iaload, 1, 0, 0, 0, 0), (.if_icmp .ge 34, 3, 0, 85, 0, 0), (.aload 6, 2, 0, 0, 0, 0), (.iconst 4, 1, 4, 0, 0, 0), (.iload 15, 2, 0, 0, 0, 0), (.imul, 1, 0, 0, 0, 0), (.iconst 1, 1, 1, 0, 0, 0), (.iadd, 1, 0, 0, 0, 0), (.iaload, 1, 0, 0, 0, 0), (.iload 12, 2, 0, 0, 0, 0), (.if_icmp .ne 14, 3, 0, 79, 0, 0), (.aload 6, 2, 0, 0, 0, 0), (.iconst 4, 1, 4, 0, 0, 0), (.iload 15, 2, 0, 0, 0, 0), (.imul, 1, 0, 0, 0, 0), (.iconst 4, 1, 4, 0, 0, 0), (.iadd, 1, 0, 0, 0, 0), (.iaload, 1, 0, 0, 0, 0), (.istore 14, 2, 0, 0, 0, 0)]),
  (79, [(.iinc 15 1, 3, 1, 0, 0, 0), (.goto (-37), 3, 0, 45, 0, 0)]),
  (85, [(.iload 14, 2, 0, 0, 0, 0), (.ifCond .ge 15, 3, 0, 102, 0, 0), (.iload 11, 2, 0, 0, 0, 0), (.bipush 6, 2, 6, 0, 0, 0), (.ishr, 1, 0, 0, 0, 0), (.iconst 4, 1, 4, 0, 0, 0), (.invokestatic 15, 3, 0, 40, 2, 393), (.goto 42, 3, 0, 141, 0, 0)]),
  (102, [(.aload 5, 2, 0, 0, 0, 0), (.iload 12, 2, 0, 0, 0, 0), (.iaload, 1, 0, 0, 0, 0), (.iconst 1, 1, 1, 0, 0, 0), (.if_icmp .ne 18, 3, 0, 126, 0, 0), (.iload 14, 2, 0, 0, 0, 0), (.iload 11, 2, 0, 0, 0, 0), (.bipush 6, 2, 6, 0, 0, 0), (.ishr, 1, 0, 0, 0, 0), (.iconst 3, 1, 3, 0, 0, 0), (.invokestatic 15, 3, 0, 40, 2, 393), (.iadd, 1, 0, 0, 0, 0), (.goto 18, 3, 0, 141, 0, 0)]),
  (126, [(.bipush 9, 2, 9, 0, 0, 0), (.iload 14, 2, 0, 0, 0, 0), (.isub, 1, 0, 0, 0, 0), (.iload 11, 2, 0, 0, 0, 0), (.bipush 6, 2, 6, 0, 0, 0), (.ishr, 1, 0, 0, 0, 0), (.iconst 3, 1, 3, 0, 0, 0), (.invokestatic 15, 3, 0, 40, 2, 393), (.iadd, 1, 0, 0, 0, 0)]),
  (141, [(.istore 15, 2, 0, 0, 0, 0), (.iload 11, 2, 0, 0, 0, 0), (.bipush 9, 2, 9, 0, 0, 0), (.ishr, 1, 0, 0, 0, 0), (.bipush 9, 2, 9, 0, 0, 0), (.invokestatic 15, 3, 0, 40, 2, 393), (.ifCond .ne 15, 3, 0, 168, 0, 0), (.iload 11, 2, 0, 0, 0, 0), (.bipush 12, 2, 12, 0, 0, 0), (.ishr, 1, 0, 0, 0, 0), (.bipush 10, 2, 10, 0, 0, 0), (.invokestatic 15, 3, 0, 40, 2, 393), (.istore 15, 2, 0, 0, 0, 0)]),
  (168, [(.iload 15, 2, 0, 0, 0, 0), (.bipush 9, 2, 9, 0, 0, 0), (.if_icmp .le 8, 3, 0, 180, 0, 0), (.bipush 9, 2, 9, 0, 0, 0), (.goto 5, 3, 0, 182, 0, 0)]),
  (180, [(.iload 15, 2, 0, 0, 0, 0)]),
  (182, [(.istore 15, 2, 0, 0, 0, 0), (.aload 5, 2, 0, 0, 0, 0), (.iload 12, 2, 0, 0, 0, 0), (.iaload, 1, 0, 0, 0, 0), (.iconst 1, 1, 1, 0, 0, 0), (.if_icmp .ne 8, 3, 0, 198, 0, 0), (.iload 15, 2, 0, 0, 0, 0), (.goto 8, 3, 0, 203, 0, 0)]),
  (198, [(.bipush 9, 2, 9, 0, 0, 0), (.iload 15, 2, 0, 0, 0, 0), (.isub, 1, 0, 0, 0, 0)]),
  (203, [(.istore 16, 2, 0, 0, 0, 0), (.iload 14, 2, 0, 0, 0, 0), (.ifCond .ge 7, 3, 0, 214, 0, 0), (.iconst 0, 1, 0, 0, 0, 0), (.goto 22, 3, 0, 233, 0, 0)]),
  (214, [(.aload 5, 2, 0, 0, 0, 0), (.iload 12, 2, 0, 0, 0, 0), (.iaload, 1, 0, 0, 0, 0), (.iconst 1, 1, 1, 0, 0, 0), (.if_icmp .ne 8, 3, 0, 228, 0, 0), (.iload 14, 2, 0, 0, 0, 0), (.goto 8, 3, 0, 233, 0, 0)]),
  (228, [(.bipush 9, 2, 9, 0, 0, 0), (.iload 14, 2, 0, 0, 0, 0), (.isub, 1, 0, 0, 0, 0)]),
  (233, [(.istore 17, 2, 0, 0, 0, 0), (.iconst 2, 1, 2, 0, 0, 0), (.aload 9, 2, 0, 0, 0, 0), (.iload 12, 2, 0, 0, 0, 0), (.iaload, 1, 0, 0, 0, 0), (.imul, 1, 0, 0, 0, 0), (.iload 13, 2, 0, 0, 0, 0), (.iadd, 1, 0, 0, 0, 0), (.istore 18, 2, 0, 0, 0, 0), (.iload 15, 2, 0, 0, 0, 0), (.iload 17, 2, 0, 0, 0, 0), (.if_icmp .lt 10, 3, 0, 261, 0, 0), (.iload 15, 2, 0, 0, 0, 0), (.bipush 9, 2, 9, 0, 0, 0), (.if_icmp .ne 8, 3, 0, 266, 0, 0)]),
  (261, [(.bipush (-2), 2, -2, 0, 0, 0), (.goto 26, 3, 0, 289, 0, 0)]),
  (266, [(.aload 7, 2, 0, 0, 0, 0), (.iload 18, 2, 0, 0, 0, 0), (.iaload, 1, 0, 0, 0, 0), (.aload 8, 2, 0, 0, 0, 0), (.iload 18, 2, 0, 0, 0, 0), (.iaload, 1, 0, 0, 0, 0), (.if_icmp .ne 8, 3, 0, 284, 0, 0), (.bipush (-4), 2, -4, 0, 0, 0), (.goto 8, 3, 0, 289, 0, 0)]),
  (284, [(.aload 7, 2, 0, 0, 0, 0), (.iload 18, 2, 0, 0, 0, 0), (.iaload, 1, 0, 0, 0, 0)]),
  (289, [(.istore 19, 2, 0, 0, 0, 0), (.aload_n 0, 1, 0, 0, 0, 0), (.iload 12, 2, 0, 0, 0, 0), (.iload 13, 2, 0, 0, 0, 0), (.iload 16, 2, 0, 0, 0, 0), (.invokevirtual 19, 3, 0, 24, 4, 404), (.iload 19, 2, 0, 0, 0, 0), (.if_icmp .eq 5, 3, 0, 308, 0, 0), (.iconst (-1), 1, -1, 0, 0, 0), (.ireturn, 1, 0, 0, 0, 0)]),
  (308, [(.iload 19, 2, 0, 0, 0, 0), (.ifCond .lt 64, 3, 0, 374, 0, 0), (.iconst 4, 1, 4, 0, 0, 0), (.aload 6, 2, 0, 0, 0, 0), (.iconst 0, 1, 0, 0, 0, 0), (.iaload, 1, 0, 0, 0, 0), (.imul, 1, 0, 0, 0, 0), (.istore 20, 2, 0, 0, 0, 0), (.aload 6, 2, 0, 0, 0, 0), (.iload 20, 2, 0, 0, 0, 0), (.iconst 1, 1, 1, 0, 0, 0), (.iadd, 1, 0, 0, 0, 0), (.iload 12, 2, 0, 0, 0, 0), (.iastore, 1, 0, 0, 0, 0), (.aload 6, 2, 0, 0, 0, 0), (.iload 20, 2, 0, 0, 0, 0), (.iconst 2, 1, 2, 0, 0, 0), (.iadd, 1, 0, 0, 0, 0), (.iload 13, 2, 0, 0, 0, 0), (.iastore, 1, 0, 0, 0, 0), (.aload 6, 2, 0, 0, 0, 0), (.iload 20, 2, 0, 0, 0, 0), (.iconst 3, 1, 3, 0, 0, 0), (.iadd, 1, 0, 0, 0, 0), (.iload 19, 2, 0, 0, 0, 0), (.iastore, 1, 0, 0, 0, 0), (.aload 6, 2, 0, 0, 0, 0), (.iload 20, 2, 0, 0, 0, 0), (.iconst 4, 1, 4, 0, 0, 0), (.iadd, 1, 0, 0, 0, 0), (.iload 16, 2, 0, 0, 0, 0), (.iastore, 1, 0, 0, 0, 0), (.aload 6, 2, 0, 0, 0, 0), (.iconst 0, 1, 0, 0, 0, 0), (.dup2, 1, 0, 0, 0, 0), (.iaload, 1, 0, 0, 0, 0), (.iconst 1, 1, 1, 0, 0, 0), (.iadd, 1, 0, 0, 0, 0), (.iastore, 1, 0, 0, 0, 0), (.aload 7, 2, 0, 0, 0, 0), (.iload 18, 2, 0, 0, 0, 0), (.dup2, 1, 0, 0, 0, 0), (.iaload, 1, 0, 0, 0, 0), (.iconst 1, 1, 1, 0, 0, 0), (.iadd, 1, 0, 0, 0, 0), (.iastore, 1, 0, 0, 0, 0)]),
  (374, [(.iinc 10 1, 3, 1, 0, 0, 0), (.goto (-374), 3, 0, 3, 0, 0)]),
  (380, [(.aload 6, 2, 0, 0, 0, 0), (.iconst 0, 1, 0, 0, 0, 0), (.iaload, 1, 0, 0, 0, 0), (.ireturn, 1, 0, 0, 0, 0)])]
def tp_P43_0 : List (Nat × List tp_Ins) := [(11, [(.astore_n 2, 1, 0, 0, 0, 0), (.aload_n 2, 1, 0, 0, 0, 0), (.iconst 0, 1, 0, 0, 0, 0), (.iconst 1, 1, 1, 0, 0, 0), (.aload_n 0, 1, 0, 0, 0, 0), (.iconst 0, 1, 0, 0, 0, 0), (.invokestatic 9, 3, 0, 41, 2, 397), (.bipush 30, 2, 30, 0, 0, 0), (.invokestatic 15, 3, 0, 40, 2, 393), (.iadd, 1, 0, 0, 0, 0), (.iastore, 1, 0, 0, 0, 0), (.aload_n 2, 1, 0, 0, 0, 0), (.iconst 1, 1, 1, 0, 0, 0), (.iconst 1, 1, 1, 0, 0, 0), (.aload_n 0, 1, 0, 0, 0, 0), (.iconst 1, 1, 1, 0, 0, 0), (.invokestatic 9, 3, 0, 41, 2, 397), (.bipush 30, 2, 30, 0, 0, 0), (.invokestatic 15, 3, 0, 40, 2, 393), (.iadd, 1, 0, 0, 0, 0), (.iastore, 1, 0, 0, 0, 0), (.iconst 2, 1, 2, 0, 0, 0), (.newarray .int, 2, 0, 0, 0, 0)]),
  (45, [(.astore_n 3, 1, 0, 0, 0, 0), (.aload_n 3, 1, 0, 0, 0, 0), (.iconst 0, 1, 0, 0, 0, 0), (.iconst 1, 1, 1, 0, 0, 0), (.aload_n 0, 1, 0, 0, 0, 0), (.iconst 2, 1, 2, 0, 0, 0), (.invokestatic 9, 3, 0, 41, 2, 397), (.iconst 5, 1, 5, 0, 0, 0), (.invokestatic 15, 3, 0, 40, 2, 393), (.iadd, 1, 0, 0, 0, 0), (.iastore, 1, 0, 0, 0, 0), (.aload_n 3, 1, 0, 0, 0, 0), (.iconst 1, 1, 1, 0, 0, 0), (.iconst 1, 1, 1, 0, 0, 0), (.aload_n 0, 1, 0, 0, 0, 0), (.iconst 3, 1, 3, 0, 0, 0), (.invokestatic 9, 3, 0, 41, 2, 397), (.bipush 9, 2, 9, 0, 0, 0), (.invokestatic 15, 3, 0, 40, 2, 393), (.iadd, 1, 0, 0, 0, 0), (.iastore, 1, 0, 0, 0, 0), (.iconst 0, 1, 0, 0, 0, 0), (.istore 4, 2, 0, 0, 0, 0)]),
  (78, [(.iload 4, 2, 0, 0, 0, 0), (.iconst 2, 1, 2, 0, 0, 0), (.if_icmp .ge 28, 3, 0, 109, 0, 0), (.aload_n 1, 1, 0, 0, 0, 0), (.aload_n 2, 1, 0, 0, 0, 0), (.iload 4, 2, 0, 0, 0, 0), (.iaload, 1, 0, 0, 0, 0), (.aload_n 3, 1, 0, 0, 0, 0), (.iload 4, 2, 0, 0, 0, 0), (.iaload, 1, 0, 0, 0, 0), (.invokevirtual 26, 3, 0, 19, 3, 249), (.iload 4, 2, 0, 0, 0, 0), (.if_icmp .eq 5, 3, 0, 103, 0, 0), (.iconst 0, 1, 0, 0, 0, 0), (.ireturn, 1, 0, 0, 0, 0)]),
  (103, [(.iinc 4 1, 3, 1, 0, 0, 0), (.goto (-28), 3, 0, 78, 0, 0)]),
  (109, [(.iconst 4, 1, 4, 0, 0, 0), (.newarray .int, 2, 0, 0, 0, 0)]),
  (112, [(.astore 4, 2, 0, 0, 0, 0), (.iconst 4, 1, 4, 0, 0, 0), (.newarray .int, 2, 0, 0, 0, 0)]),
  (117, [(.astore 5, 2, 0, 0, 0, 0), (.aload 5, 2, 0, 0, 0, 0), (.iconst 0, 1, 0, 0, 0, 0), (.iconst 0, 1, 0, 0, 0, 0), (.iastore, 1, 0, 0, 0, 0), (.aload 5, 2, 0, 0, 0, 0), (.iconst 1, 1, 1, 0, 0, 0), (.iconst 1, 1, 1, 0, 0, 0), (.iastore, 1, 0, 0, 0, 0), (.aload 5, 2, 0, 0, 0, 0), (.iconst 2, 1, 2, 0, 0, 0), (.iconst 2, 1, 2, 0, 0, 0), (.iastore, 1, 0, 0, 0, 0), (.aload 5, 2, 0, 0, 0, 0), (.iconst 3, 1, 3, 0, 0, 0), (.iconst 3, 1, 3, 0, 0, 0), (.iastore, 1, 0, 0, 0, 0), (.bipush 8, 2, 8, 0, 0, 0), (.newarray .int, 2, 0, 0, 0, 0)]),
  (143, [(.astore 6, 2, 0, 0, 0, 0), (.bipush 8, 2, 8, 0, 0, 0), (.newarray .int, 2, 0, 0, 0, 0)]),
  (149, [(.astore 7, 2, 0, 0, 0, 0), (.iconst 0, 1, 0, 0, 0, 0), (.istore 8, 2, 0, 0, 0, 0)]),
  (154, [(.iload 8, 2, 0, 0, 0, 0), (.iconst 4, 1, 4, 0, 0, 0), (.if_icmp .ge 162, 3, 0, 319, 0, 0), (.aload 4, 2, 0, 0, 0, 0), (.iload 8, 2, 0, 0, 0, 0), (.aload_n 0, 1, 0, 0, 0, 0), (.iconst 4, 1, 4, 0, 0, 0), (.iload 8, 2, 0, 0, 0, 0), (.iadd, 1, 0, 0, 0, 0), (.invokestatic 9, 3, 0, 41, 2, 397), (.iconst 1, 1, 1, 0, 0, 0), (.iand, 1, 0, 0, 0, 0), (.iastore, 1, 0, 0, 0, 0), (.aload_n 1, 1, 0, 0, 0, 0), (.iload 8, 2, 0, 0, 0, 0), (.aload 4, 2, 0, 0, 0, 0), (.iload 8, 2, 0, 0, 0, 0), (.iaload, 1, 0, 0, 0, 0), (.iconst 1, 1, 1, 0, 0, 0), (.if_icmp .ne 7, 3, 0, 191, 0, 0), (.iconst 1, 1, 1, 0, 0, 0), (.goto 4, 3, 0, 192, 0, 0)]),
  (191, [(.iconst 0, 1, 0, 0, 0, 0)]),
  (192, [(.invokevirtual 29, 3, 0, 22, 3, 299), (.iload 8, 2, 0, 0, 0, 0), (.if_icmp .eq 5, 3, 0, 202, 0, 0), (.iconst 0, 1, 0, 0, 0, 0), (.ireturn, 1, 0, 0, 0, 0)]),
  (202, [(.iconst 0, 1, 0, 0, 0, 0), (.istore 9, 2, 0, 0, 0, 0)]),
  (205, [(.iload 9, 2, 0, 0, 0, 0), (.iconst 2, 1, 2, 0, 0, 0), (.if_icmp .ge 105, 3, 0, 313, 0, 0), (.aload 6, 2, 0, 0, 0, 0), (.iconst 2, 1, 2, 0, 0, 0), (.iload 8, 2, 0, 0, 0, 0), (.imul, 1, 0, 0, 0, 0), (.iload 9, 2, 0, 0, 0, 0), (.iadd, 1, 0, 0, 0, 0), (.bipush 50, 2, 50, 0, 0, 0), (.iload 8, 2, 0, 0, 0, 0), (.imul, 1, 0, 0, 0, 0), (.iastore, 1, 0, 0, 0, 0), (.aload 7, 2, 0, 0, 0, 0), (.iconst 2, 1, 2, 0, 0, 0), (.iload 8, 2, 0, 0, 0, 0), (.imul, 1, 0, 0, 0, 0), (.iload 9, 2, 0, 0, 0, 0), (.iadd, 1, 0, 0, 0, 0), (.bipush 50, 2, 50, 0, 0, 0), (.iload 8, 2, 0, 0, 0, 0), (.imul, 1, 0, 0, 0, 0), (.iconst 3, 1, 3, 0, 0, 0), (.iadd, 1, 0, 0, 0, 0), (.aload_n 0, 1, 0, 0, 0, 0), (.bipush 8, 2, 8, 0, 0, 0), (.iconst 2, 1, 2, 0, 0, 0), (.iload 8, 2, 0, 0, 0, 0), (.imul, 1, 0, 0, 0, 0), (.iadd, 1, 0, 0, 0, 0), (.iload 9, 2, 0, 0, 0, 0), (.iadd, 1, 0, 0, 0, 0), (.invokestatic 9, 3, 0, 41, 2, 397), (.bipush 10, 2, 10, 0, 0, 0), (.invokestatic 15, 3, 0, 40, 2, 393), (.iadd, 1, 0, 0, 0, 0), (.iastore, 1, 0, 0, 0, 0), (.aload_n 1, 1, 0, 0, 0, 0), (.iload 8, 2, 0, 0, 0, 0), (.iload 9, 2, 0, 0, 0, 0), (.aload 6, 2, 0, 0, 0, 0), (.iconst 2, 1, 2, 0, 0, 0), (.iload 8, 2, 0, 0, 0, 0), (.imul, 1, 0, 0, 0, 0), (.iload 9, 2, 0, 0, 0, 0), (.iadd, 1, 0, 0, 0, 0), (.iaload, 1, 0, 0, 0, 0), (.aload 7, 2, 0, 0, 0, 0), (.iconst 2, 1, 2, 0, 0, 0), (.iload 8, 2, 0, 0, 0, 0), (.imul, 1, 0, 0, 0, 0), (.iload 9, 2, 0, 0, 0, 0), (.iadd, 1, 0, 0, 0, 0), (.iaload, 1, 0, 0, 0, 0), (.aload 6, 2, 0, 0, 0, 0), (.iconst 2, 1, 2, 0, 0, 0), (.iload 8, 2, 0, 0, 0, 0), (.imul, 1, 0, 0, 0, 0), (.iload 9, 2, 0, 0, 0, 0), (.iadd, 1, 0, 0, 0, 0), (.iaload, 1, 0, 0, 0, 0), (.isub, 1, 0, 0, 0, 0), (.invokevirtual 33, 3, 0, 20, 5, 260), (.ifCond .eq 5, 3, 0, 307, 0, 0), (.iconst 0, 1, 0, 0, 0, 0), (.ireturn, 1, 0, 0, 0, 0)]),
  (307, [(.iinc 9 1, 3, 1, 0, 0, 0), (.goto (-105), 3, 0, 205, 0, 0)]),
  (313, [(.iinc 8 1, 3, 1, 0, 0, 0), (.goto (-162), 3, 0, 154, 0, 0)]),
  (319, [(.bipush 60, 2, 60, 0, 0, 0), (.newarray .int, 2, 0, 0, 0, 0)]),
  (323, [(.astore 8, 2, 0, 0, 0, 0), (.aload_n 1, 1, 0, 0, 0, 0), (.aload_n 0, 1, 0, 0, 0, 0), (.bipush 20, 2, 20, 0, 0, 0), (.iconst 4, 1, 4, 0, 0, 0), (.iconst 2, 1, 2, 0, 0, 0), (.aload 4, 2, 0, 0, 0, 0), (.aload 8, 2, 0, 0, 0, 0), (.aload 6, 2, 0, 0, 0, 0), (.aload 7, 2, 0, 0, 0, 0), (.aload 5, 2, 0, 0, 0, 0), (.invokestatic 37, 3, 0, 42, 10, 401), (.istore 9, 2, 0, 0, 0, 0), (.iload 9, 2, 0, 0, 0, 0), (.ifCond .ge 5, 3, 0, 353, 0, 0), (.iconst 0, 1, 0, 0, 0, 0), (.ireturn, 1, 0, 0, 0, 0)]),
  (353, [(.iconst 0, 1, 0, 0, 0, 0), (.istore 10, 2, 0, 0, 0, 0), (.iconst 0, 1, 0, 0, 0, 0), (.istore 11, 2, 0, 0, 0, 0)]),
  (359, [(.iload 11, 2, 0, 0, 0, 0), (.iload 9, 2, 0, 0, 0, 0), (.if_icmp .ge 25, 3, 0, 388, 0, 0), (.iload 10, 2, 0, 0, 0, 0), (.aload_n 2, 1, 0, 0, 0, 0), (.aload 8, 2, 0, 0, 0, 0), (.iconst 4, 1, 4, 0, 0, 0), (.iload 11, 2, 0, 0, 0, 0), (.imul, 1, 0, 0, 0, 0), (.iconst 2, 1, 2, 0, 0, 0), (.iadd, 1, 0, 0, 0, 0), (.iaload, 1, 0, 0, 0, 0), (.iaload, 1, 0, 0, 0, 0), (.iadd, 1, 0, 0, 0, 0), (.istore 10, 2, 0, 0, 0, 0), (.iinc 11 1, 3, 1, 0, 0, 0), (.goto (-26), 3, 0, 359, 0, 0)])]
def tp_P43_20 : List (Nat × List tp_Ins) := [(388, [(.iconst 0, 1, 0, 0, 0, 0), (.istore 11, 2, 0, 0, 0, 0), (.iconst 0, 1, 0, 0, 0, 0), (.istore 12, 2, 0, 0, 0, 0)]),
  (394, [(.iload 12, 2, 0, 0, 0, 0), (.iconst 4, 1, 4, 0, 0, 0), (.if_icmp .ge 20, 3, 0, 417, 0, 0), (.iload 11, 2, 0, 0, 0, 0), (.aload_n 1, 1, 0, 0, 0, 0), (.iload 12, 2, 0, 0, 0, 0), (.invokevirtual 41, 3, 0, 26, 2, 331), (.iadd, 1, 0, 0, 0, 0), (.istore 11, 2, 0, 0, 0, 0), (.iinc 12 1, 3, 1, 0, 0, 0), (.goto (-20), 3, 0, 394, 0, 0)]),
  (417, [(.iload 11, 2, 0, 0, 0, 0), (.iload 10, 2, 0, 0, 0, 0), (.if_icmp .eq 5, 3, 0, 426, 0, 0), (.iconst 0, 1, 0, 0, 0, 0), (.ireturn, 1, 0, 0, 0, 0)]),
  (426, [(.iconst 0, 1, 0, 0, 0, 0), (.istore 12, 2, 0, 0, 0, 0)]),
  (429, [(.iload 12, 2, 0, 0, 0, 0), (.bipush 9, 2, 9, 0, 0, 0), (.if_icmp .ge 464, 3, 0, 897, 0, 0), (.iconst 0, 1, 0, 0, 0, 0), (.istore 13, 2, 0, 0, 0, 0)]),
  (439, [(.iload 13, 2, 0, 0, 0, 0), (.iconst 2, 1, 2, 0, 0, 0), (.if_icmp .ge 449, 3, 0, 891, 0, 0), (.iconst 0, 1, 0, 0, 0, 0), (.istore 14, 2, 0, 0, 0, 0), (.iconst 0, 1, 0, 0, 0, 0), (.istore 15, 2, 0, 0, 0, 0), (.iconst 0, 1, 0, 0, 0, 0), (.istore 16, 2, 0, 0, 0, 0)]),
  (454, [(.iload 16, 2, 0, 0, 0, 0), (.iconst 4, 1, 4, 0, 0, 0), (.if_icmp .ge 382, 3, 0, 839, 0, 0), (.aload 4, 2, 0, 0, 0, 0), (.iload 16, 2, 0, 0, 0, 0), (.iaload, 1, 0, 0, 0, 0), (.iconst 1, 1, 1, 0, 0, 0), (.if_icmp .ne 7, 3, 0, 473, 0, 0), (.iconst 1, 1, 1, 0, 0, 0), (.goto 4, 3, 0, 474, 0, 0)]),
  (473, [(.iconst 0, 1, 0, 0, 0, 0)]),
  (474, [(.iload 13, 2, 0, 0, 0, 0), (.ifCond .ne 7, 3, 0, 483, 0, 0), (.iconst 1, 1, 1, 0, 0, 0), (.goto 4, 3, 0, 484, 0, 0)]),
  (483, [(.iconst 0, 1, 0, 0, 0, 0)]),
  (484, [(.if_icmp .eq 6, 3, 0, 490, 0, 0), (.goto 346, 3, 0, 833, 0, 0)]),
  (490, [(.iload 14, 2, 0, 0, 0, 0), (.aload_n 1, 1, 0, 0, 0, 0), (.iload 16, 2, 0, 0, 0, 0), (.iload 12, 2, 0, 0, 0, 0), (.iconst 0, 1, 0, 0, 0, 0), (.invokevirtual 45, 3, 0, 27, 4, 335), (.iadd, 1, 0, 0, 0, 0), (.istore 14, 2, 0, 0, 0, 0), (.iload 15, 2, 0, 0, 0, 0), (.aload_n 1, 1, 0, 0, 0, 0), (.iload 16, 2, 0, 0, 0, 0), (.iload 12, 2, 0, 0, 0, 0), (.iconst 1, 1, 1, 0, 0, 0), (.invokevirtual 45, 3, 0, 27, 4, 335), (.iadd, 1, 0, 0, 0, 0), (.istore 15, 2, 0, 0, 0, 0), (.aload 4, 2, 0, 0, 0, 0), (.iload 16, 2, 0, 0, 0, 0), (.iaload, 1, 0, 0, 0, 0), (.iconst 1, 1, 1, 0, 0, 0), (.if_icmp .ne 10, 3, 0, 534, 0, 0), (.iload 12, 2, 0, 0, 0, 0), (.iconst 1, 1, 1, 0, 0, 0), (.isub, 1, 0, 0, 0, 0), (.goto 7, 3, 0, 538, 0, 0)]),
  (534, [(.iload 12, 2, 0, 0, 0, 0), (.iconst 1, 1, 1, 0, 0, 0), (.iadd, 1, 0, 0, 0, 0)]),
  (538, [(.istore 17, 2, 0, 0, 0, 0), (.iload 17, 2, 0, 0, 0, 0), (.ifCond .lt 10, 3, 0, 552, 0, 0), (.iload 17, 2, 0, 0, 0, 0), (.bipush 8, 2, 8, 0, 0, 0), (.if_icmp .le 7, 3, 0, 556, 0, 0)]),
  (552, [(.iconst 0, 1, 0, 0, 0, 0), (.goto 12, 3, 0, 565, 0, 0)]),
  (556, [(.aload_n 1, 1, 0, 0, 0, 0), (.iload 16, 2, 0, 0, 0, 0), (.iload 17, 2, 0, 0, 0, 0), (.iconst 1, 1, 1, 0, 0, 0), (.invokevirtual 45, 3, 0, 27, 4, 335)]),
  (565, [(.istore 18, 2, 0, 0, 0, 0), (.iconst 0, 1, 0, 0, 0, 0), (.istore 19, 2, 0, 0, 0, 0), (.iconst 0, 1, 0, 0, 0, 0), (.istore 20, 2, 0, 0, 0, 0), (.iconst 0, 1, 0, 0, 0, 0), (.istore 21, 2, 0, 0, 0, 0)]),
  (576, [(.iload 21, 2, 0, 0, 0, 0), (.iload 9, 2, 0, 0, 0, 0), (.if_icmp .ge 138, 3, 0, 718, 0, 0), (.aload 8, 2, 0, 0, 0, 0), (.iconst 4, 1, 4, 0, 0, 0), (.iload 21, 2, 0, 0, 0, 0), (.imul, 1, 0, 0, 0, 0), (.iconst 1, 1, 1, 0, 0, 0), (.iadd, 1, 0, 0, 0, 0), (.iaload, 1, 0, 0, 0, 0), (.iload 16, 2, 0, 0, 0, 0), (.if_icmp .eq 6, 3, 0, 600, 0, 0), (.goto 115, 3, 0, 712, 0, 0)]),
  (600, [(.aload 8, 2, 0, 0, 0, 0), (.iconst 4, 1, 4, 0, 0, 0), (.iload 21, 2, 0, 0, 0, 0), (.imul, 1, 0, 0, 0, 0), (.iconst 4, 1, 4, 0, 0, 0), (.iadd, 1, 0, 0, 0, 0), (.iaload, 1, 0, 0, 0, 0), (.istore 22, 2, 0, 0, 0, 0), (.aload_n 3, 1, 0, 0, 0, 0), (.aload 8, 2, 0, 0, 0, 0), (.iconst 4, 1, 4, 0, 0, 0), (.iload 21, 2, 0, 0, 0, 0), (.imul, 1, 0, 0, 0, 0), (.iconst 2, 1, 2, 0, 0, 0), (.iadd, 1, 0, 0, 0, 0), (.iaload, 1, 0, 0, 0, 0), (.iaload, 1, 0, 0, 0, 0), (.istore 23, 2, 0, 0, 0, 0), (.iload 19, 2, 0, 0, 0, 0), (.aload 4, 2, 0, 0, 0, 0), (.iload 16, 2, 0, 0, 0, 0), (.iaload, 1, 0, 0, 0, 0), (.iconst 1, 1, 1, 0, 0, 0), (.if_icmp .ne 21, 3, 0, 653, 0, 0), (.iload 22, 2, 0, 0, 0, 0), (.iload 23, 2, 0, 0, 0, 0), (.iadd, 1, 0, 0, 0, 0), (.iload 12, 2, 0, 0, 0, 0), (.if_icmp .ne 7, 3, 0, 649, 0, 0), (.iconst 1, 1, 1, 0, 0, 0), (.goto 24, 3, 0, 670, 0, 0)]),
  (649, [(.iconst 0, 1, 0, 0, 0, 0), (.goto 20, 3, 0, 670, 0, 0)])]
def tp_P43_40 : List (Nat × List tp_Ins) := [(653, [(.iload 22, 2, 0, 0, 0, 0), (.iload 23, 2, 0, 0, 0, 0), (.isub, 1, 0, 0, 0, 0), (.iload 12, 2, 0, 0, 0, 0), (.iconst 1, 1, 1, 0, 0, 0), (.iadd, 1, 0, 0, 0, 0), (.if_icmp .ne 7, 3, 0, 669, 0, 0), (.iconst 1, 1, 1, 0, 0, 0), (.goto 4, 3, 0, 670, 0, 0)]),
  (669, [(.iconst 0, 1, 0, 0, 0, 0)]),
  (670, [(.iadd, 1, 0, 0, 0, 0), (.istore 19, 2, 0, 0, 0, 0), (.iload 20, 2, 0, 0, 0, 0), (.aload_n 1, 1, 0, 0, 0, 0), (.iload 16, 2, 0, 0, 0, 0), (.iload 12, 2, 0, 0, 0, 0), (.aload 8, 2, 0, 0, 0, 0), (.iconst 4, 1, 4, 0, 0, 0), (.iload 21, 2, 0, 0, 0, 0), (.imul, 1, 0, 0, 0, 0), (.iconst 2, 1, 2, 0, 0, 0), (.iadd, 1, 0, 0, 0, 0), (.iaload, 1, 0, 0, 0, 0), (.aload 8, 2, 0, 0, 0, 0), (.iconst 4, 1, 4, 0, 0, 0), (.iload 21, 2, 0, 0, 0, 0), (.imul, 1, 0, 0, 0, 0), (.iconst 3, 1, 3, 0, 0, 0), (.iadd, 1, 0, 0, 0, 0), (.iaload, 1, 0, 0, 0, 0), (.invokevirtual 48, 3, 0, 29, 5, 359), (.ifCond .ne 7, 3, 0, 708, 0, 0), (.iconst 1, 1, 1, 0, 0, 0), (.goto 4, 3, 0, 709, 0, 0)]),
  (708, [(.iconst 0, 1, 0, 0, 0, 0)]),
  (709, [(.iadd, 1, 0, 0, 0, 0), (.istore 20, 2, 0, 0, 0, 0)]),
  (712, [(.iinc 21 1, 3, 1, 0, 0, 0), (.goto (-139), 3, 0, 576, 0, 0)]),
  (718, [(.aload_n 1, 1, 0, 0, 0, 0), (.iload 16, 2, 0, 0, 0, 0), (.iload 12, 2, 0, 0, 0, 0), (.iconst 1, 1, 1, 0, 0, 0), (.invokevirtual 45, 3, 0, 27, 4, 335), (.iload 18, 2, 0, 0, 0, 0), (.aload_n 1, 1, 0, 0, 0, 0), (.iload 16, 2, 0, 0, 0, 0), (.iload 12, 2, 0, 0, 0, 0), (.iconst 0, 1, 0, 0, 0, 0), (.invokevirtual 45, 3, 0, 27, 4, 335), (.iadd, 1, 0, 0, 0, 0), (.iload 19, 2, 0, 0, 0, 0), (.isub, 1, 0, 0, 0, 0), (.if_icmp .ne 17, 3, 0, 759, 0, 0), (.iload 20, 2, 0, 0, 0, 0), (.aload_n 1, 1, 0, 0, 0, 0), (.iload 16, 2, 0, 0, 0, 0), (.iload 12, 2, 0, 0, 0, 0), (.iconst 1, 1, 1, 0, 0, 0), (.invokevirtual 45, 3, 0, 27, 4, 335), (.if_icmp .eq 5, 3, 0, 761, 0, 0)]),
  (759, [(.iconst 0, 1, 0, 0, 0, 0), (.ireturn, 1, 0, 0, 0, 0)]),
  (761, [(.iconst 0, 1, 0, 0, 0, 0), (.istore 21, 2, 0, 0, 0, 0)]),
  (764, [(.iload 21, 2, 0, 0, 0, 0), (.bipush 16, 2, 16, 0, 0, 0), (.if_icmp .ge 65, 3, 0, 833, 0, 0), (.aload_n 1, 1, 0, 0, 0, 0), (.iload 16, 2, 0, 0, 0, 0), (.iload 12, 2, 0, 0, 0, 0), (.iload 21, 2, 0, 0, 0, 0), (.invokevirtual 51, 3, 0, 30, 4, 367), (.ifCond .ne 7, 3, 0, 788, 0, 0), (.iconst 1, 1, 1, 0, 0, 0), (.goto 4, 3, 0, 789, 0, 0)]),
  (788, [(.iconst 0, 1, 0, 0, 0, 0)]),
  (789, [(.iload 21, 2, 0, 0, 0, 0), (.aload_n 1, 1, 0, 0, 0, 0), (.iload 16, 2, 0, 0, 0, 0), (.iload 12, 2, 0, 0, 0, 0), (.iconst 0, 1, 0, 0, 0, 0), (.invokevirtual 45, 3, 0, 27, 4, 335), (.if_icmp .lt 21, 3, 0, 821, 0, 0), (.iload 21, 2, 0, 0, 0, 0), (.aload_n 1, 1, 0, 0, 0, 0), (.iload 16, 2, 0, 0, 0, 0), (.iload 12, 2, 0, 0, 0, 0), (.iconst 1, 1, 1, 0, 0, 0), (.invokevirtual 45, 3, 0, 27, 4, 335), (.if_icmp .gt 7, 3, 0, 821, 0, 0), (.iconst 1, 1, 1, 0, 0, 0), (.goto 4, 3, 0, 822, 0, 0)]),
  (821, [(.iconst 0, 1, 0, 0, 0, 0)]),
  (822, [(.if_icmp .eq 5, 3, 0, 827, 0, 0), (.iconst 0, 1, 0, 0, 0, 0), (.ireturn, 1, 0, 0, 0, 0)]),
  (827, [(.iinc 21 1, 3, 1, 0, 0, 0), (.goto (-66), 3, 0, 764, 0, 0)]),
  (833, [(.iinc 16 1, 3, 1, 0, 0, 0), (.goto (-382), 3, 0, 454, 0, 0)]),
  (839, [(.aload_n 1, 1, 0, 0, 0, 0), (.iload 13, 2, 0, 0, 0, 0), (.ifCond .ne 7, 3, 0, 849, 0, 0), (.iconst 1, 1, 1, 0, 0, 0), (.goto 4, 3, 0, 850, 0, 0)]),
  (849, [(.iconst 0, 1, 0, 0, 0, 0)]),
  (850, [(.iload 12, 2, 0, 0, 0, 0), (.iconst 0, 1, 0, 0, 0, 0), (.invokevirtual 54, 3, 0, 28, 4, 355), (.iload 14, 2, 0, 0, 0, 0), (.if_icmp .ne 25, 3, 0, 883, 0, 0), (.aload_n 1, 1, 0, 0, 0, 0), (.iload 13, 2, 0, 0, 0, 0), (.ifCond .ne 7, 3, 0, 871, 0, 0), (.iconst 1, 1, 1, 0, 0, 0), (.goto 4, 3, 0, 872, 0, 0)]),
  (871, [(.iconst 0, 1, 0, 0, 0, 0)])]
def tp_P43_60 : List (Nat × List tp_Ins) := [(872, [(.iload 12, 2, 0, 0, 0, 0), (.iconst 1, 1, 1, 0, 0, 0), (.invokevirtual 54, 3, 0, 28, 4, 355), (.iload 15, 2, 0, 0, 0, 0), (.if_icmp .eq 5, 3, 0, 885, 0, 0)]),
  (883, [(.iconst 0, 1, 0, 0, 0, 0), (.ireturn, 1, 0, 0, 0, 0)]),
  (885, [(.iinc 13 1, 3, 1, 0, 0, 0), (.goto (-449), 3, 0, 439, 0, 0)]),
  (891, [(.iinc 12 1, 3, 1, 0, 0, 0), (.goto (-465), 3, 0, 429, 0, 0)]),
  (897, [(.iload 9, 2, 0, 0, 0, 0), (.iconst 1, 1, 1, 0, 0, 0), (.isub, 1, 0, 0, 0, 0), (.istore 12, 2, 0, 0, 0, 0)]),
  (903, [(.iload 12, 2, 0, 0, 0, 0), (.ifCond .lt 89, 3, 0, 994, 0, 0), (.aload_n 1, 1, 0, 0, 0, 0), (.invokevirtual 58, 3, 0, 25, 1, 323), (.iload 12, 2, 0, 0, 0, 0), (.if_icmp .eq 5, 3, 0, 919, 0, 0), (.iconst 0, 1, 0, 0, 0, 0), (.ireturn, 1, 0, 0, 0, 0)]),
  (919, [(.aload 8, 2, 0, 0, 0, 0), (.iconst 4, 1, 4, 0, 0, 0), (.iload 12, 2, 0, 0, 0, 0), (.imul, 1, 0, 0, 0, 0), (.iconst 1, 1, 1, 0, 0, 0), (.iadd, 1, 0, 0, 0, 0), (.iaload, 1, 0, 0, 0, 0), (.istore 13, 2, 0, 0, 0, 0), (.aload_n 1, 1, 0, 0, 0, 0), (.iload 13, 2, 0, 0, 0, 0), (.aload 8, 2, 0, 0, 0, 0), (.iconst 4, 1, 4, 0, 0, 0), (.iload 12, 2, 0, 0, 0, 0), (.imul, 1, 0, 0, 0, 0), (.iconst 2, 1, 2, 0, 0, 0), (.iadd, 1, 0, 0, 0, 0), (.iaload, 1, 0, 0, 0, 0), (.iconst 0, 1, 0, 0, 0, 0), (.invokevirtual 62, 3, 0, 21, 4, 295), (.aload 8, 2, 0, 0, 0, 0), (.iconst 4, 1, 4, 0, 0, 0), (.iload 12, 2, 0, 0, 0, 0), (.imul, 1, 0, 0, 0, 0), (.iconst 3, 1, 3, 0, 0, 0), (.iadd, 1, 0, 0, 0, 0), (.iaload, 1, 0, 0, 0, 0), (.if_icmp .ne 31, 3, 0, 986, 0, 0), (.aload_n 1, 1, 0, 0, 0, 0), (.iconst 0, 1, 0, 0, 0, 0), (.iconst 0, 1, 0, 0, 0, 0), (.aload 8, 2, 0, 0, 0, 0), (.iconst 4, 1, 4, 0, 0, 0), (.iload 12, 2, 0, 0, 0, 0), (.imul, 1, 0, 0, 0, 0), (.iconst 2, 1, 2, 0, 0, 0), (.iadd, 1, 0, 0, 0, 0), (.iaload, 1, 0, 0, 0, 0), (.aload 8, 2, 0, 0, 0, 0), (.iconst 4, 1, 4, 0, 0, 0), (.iload 12, 2, 0, 0, 0, 0), (.imul, 1, 0, 0, 0, 0), (.iconst 3, 1, 3, 0, 0, 0), (.iadd, 1, 0, 0, 0, 0), (.iaload, 1, 0, 0, 0, 0), (.invokevirtual 48, 3, 0, 29, 5, 359), (.iconst 1, 1, 1, 0, 0, 0), (.if_icmp .eq 5, 3, 0, 988, 0, 0)]),
  (986, [(.iconst 0, 1, 0, 0, 0, 0), (.ireturn, 1, 0, 0, 0, 0)]),
  (988, [(.iinc 12 (-1), 3, -1, 0, 0, 0), (.goto (-88), 3, 0, 903, 0, 0)]),
  (994, [(.iconst 0, 1, 0, 0, 0, 0), (.istore 12, 2, 0, 0, 0, 0)]),
  (997, [(.iload 12, 2, 0, 0, 0, 0), (.iconst 4, 1, 4, 0, 0, 0), (.if_icmp .ge 29, 3, 0, 1029, 0, 0), (.aload_n 1, 1, 0, 0, 0, 0), (.iload 12, 2, 0, 0, 0, 0), (.invokevirtual 41, 3, 0, 26, 2, 331), (.ifCond .ne 12, 3, 0, 1021, 0, 0), (.aload_n 1, 1, 0, 0, 0, 0), (.iload 12, 2, 0, 0, 0, 0), (.invokevirtual 65, 3, 0, 23, 2, 311), (.ifCond .eq 5, 3, 0, 1023, 0, 0)]),
  (1021, [(.iconst 0, 1, 0, 0, 0, 0), (.ireturn, 1, 0, 0, 0, 0)]),
  (1023, [(.iinc 12 1, 3, 1, 0, 0, 0), (.goto (-29), 3, 0, 997, 0, 0)]),
  (1029, [(.aload_n 1, 1, 0, 0, 0, 0), (.invokevirtual 58, 3, 0, 25, 1, 323), (.bipush (-4), 2, -4, 0, 0, 0), (.if_icmp .ne 27, 3, 0, 1062, 0, 0), (.aload_n 1, 1, 0, 0, 0, 0), (.iconst 0, 1, 0, 0, 0, 0), (.invokevirtual 68, 3, 0, 31, 2, 372), (.bipush (-4), 2, -4, 0, 0, 0), (.if_icmp .ne 17, 3, 0, 1062, 0, 0), (.aload_n 1, 1, 0, 0, 0, 0), (.iconst 1, 1, 1, 0, 0, 0), (.invokevirtual 68, 3, 0, 31, 2, 372), (.bipush (-4), 2, -4, 0, 0, 0), (.if_icmp .ne 7, 3, 0, 1062, 0, 0), (.iconst 1, 1, 1, 0, 0, 0), (.goto 4, 3, 0, 1063, 0, 0)]),
  (1062, [(.iconst 0, 1, 0, 0, 0, 0)]),
  (1063, [(.ireturn, 1, 0, 0, 0, 0)])]
/-- L_law -/
def tp_P43 : List (Nat × List tp_Ins) := tp_P43_0 ++ tp_P43_20 ++ tp_P43_40 ++ tp_P43_60
def tp_PP0 : List (List (Nat × List tp_Ins)) := [tp_P0, tp_P1, tp_P2, tp_P3, tp_P4, tp_P5, tp_P6, tp_P7, tp_P8, tp_P9, tp_P10, tp_P11, tp_P12, tp_P13, tp_P14, tp_P15, tp_P16, tp_P17, tp_P18, tp_P19, tp_P20, tp_P21, tp_P22, tp_P23, tp_P24, tp_P25, tp_P26, tp_P27, tp_P28, tp_P29, tp_P30, tp_P31, tp_P32, tp_P33, tp_P34, tp_P35, tp_P36, tp_P37, tp_P38, tp_P39]
def tp_PP1 : List (List (Nat × List tp_Ins)) := [tp_P40, tp_P41, tp_P42, tp_P43]
def tp_PP : List (List (Nat × List tp_Ins)) := tp_PP0 ++ tp_PP1
def tp_prg (i : Nat) : List (Nat × List tp_Ins) := tp_PP.getD i []
def tp_blk (i pc : Nat) : List tp_Ins := ((tp_prg i).lookup pc).getD []
def tp_pmax : Nat × Nat × Nat := (282, 18, 283)
def tp_pmin : Nat × Nat × Nat := (285, 18, 286)
/-- the places of a method's words: its code, instance or static, selects, its class is initialised -/
def tp_mpl : List (Nat × Nat × Nat × Nat) := [(290, 288, 289, 10), (294, 292, 293, 10), (423, 421, 422, 10), (280, 278, 279, 10), (392, 390, 391, 10), (419, 417, 418, 12), (427, 425, 426, 12), (415, 413, 414, 12), (366, 364, 365, 12), (276, 274, 275, 12), (388, 386, 387, 12), (379, 377, 378, 12), (318, 316, 317, 11), (310, 308, 309, 11), (306, 304, 305, 11), (411, 409, 410, 11), (350, 348, 349, 11), (271, 269, 270, 9), (259, 257, 258, 9), (252, 250, 251, 8), (263, 261, 262, 8), (298, 296, 297, 8), (302, 300, 301, 8), (314, 312, 313, 8), (407, 405, 406, 8), (326, 324, 325, 8), (334, 332, 333, 8), (338, 336, 337, 8), (358, 356, 357, 8), (362, 360, 361, 8), (370, 368, 369, 8), (375, 373, 374, 8), (255, 254, 0, 8), (267, 266, 0, 8), (322, 321, 1, 8), (342, 341, 3, 8), (346, 345, 4, 8), (354, 353, 5, 8), (330, 329, 2, 8), (384, 383, 6, 8), (395, 394, 0, 7), (399, 398, 0, 7), (403, 402, 0, 7)]
/-- what is given of the script, which is never written -/
def tp_ro (ad : Nat → Nat) (A : Nat → Prop) (U : State) (H : Heap) (σ : tp_St) : Prop := va_T .int (ad 90) (σ.1 89 0).toNatClampNeg (fun j => .int (σ.1 90 j)) A U H
