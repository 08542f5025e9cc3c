/-! the objects of the two worlds: kinds (0 .. 10 classes, 20 int[], 21 byte[], 22 boolean[], 23, 24 arrays of references, 26 script, 27 tables, 28 String, 29 its bytes), lengths, references -/
def tp_kdl : List Nat := [9, 8, 2, 7, 4, 23, 0, 3, 20, 20, 24, 24, 20, 22, 22, 20, 20, 20, 20, 6, 5, 5, 5, 5, 1, 1, 20, 21, 20, 20, 20, 20, 20, 20, 20, 20, 20, 20, 20, 20, 20, 20, 20, 20, 20, 20, 20, 20, 20, 20, 20, 20, 20, 20, 20, 20, 20, 20, 10, 20, 20, 20, 20, 20, 22, 22, 20, 20, 20, 20, 20, 20, 20, 20, 20, 20, 20, 20, 20, 20, 20, 20, 99, 99, 99, 99, 99, 99, 99, 99, 26, 27, 27, 27, 28, 28, 28, 29, 29, 29, 99]
def tp_lnl : List Nat := [0, 0, 0, 0, 0, 4, 0, 0, 5, 5, 6, 6, 16, 16, 16, 200, 200, 200, 200, 0, 0, 0, 0, 0, 0, 0, 3, 200, 10, 10, 10, 10, 64, 64, 64, 64, 9, 9, 4, 4, 4, 9, 9, 4, 4, 4, 5, 5, 5, 5, 5, 5, 5, 5, 5, 5, 5, 5, 0, 5, 5, 30, 30, 16, 16, 16, 200, 200, 200, 200, 4, 4, 256, 200, 18, 12, 6, 18, 12, 10, 10, 10, 0, 0, 0, 0, 0, 0, 0, 0, 0, 3, 9, 9, 0, 0, 0, 4, 4, 6, 0]
def tp_rrl : List (List Nat) := [[1, 2, 3, 4, 5, 6, 7], [8, 9, 0], [10, 11], [12, 13, 14, 0], [15, 16, 17, 18, 0], [20], [19, 0, 0, 0, 26, 0, 0], [28, 29, 30, 31, 0, 0, 0], [], [], [46], [52], [], [], [], [], [], [], [], [27, 0, 0, 0, 0], [32, 0, 0], [33, 0, 0], [34, 0, 0], [35, 0, 0], [36, 37, 38, 39, 40, 0, 0, 0], [41, 42, 43, 44, 45, 0, 0, 0], [], [], [], [], [], [], [], [], [], [], [], [], [], [], [], [], [], [], [], [], [], [], [], [], [], [], [], [], [], [], [], [], [0, 59, 60, 61, 62, 0, 63, 64, 65, 0, 66, 67, 68, 69, 70, 71, 72, 73, 0, 0, 0, 74, 0, 75, 0, 0, 0, 0, 0, 0, 0, 0, 76, 0, 0, 0, 77, 78, 0, 79, 80, 0, 81, 0], [], [], [], [], [], [], [], [], [], [], [], [], [], [], [], [], [], [], [], [], [], [], [], [], [], [], [], [], [], [], [], [], [], [], [], [97, 0], [98, 0], [99, 0], [], [], [], []]
def tp_isl : List (List Bool) := [[true, true, false, true, true, false, false], [true, true, true, true, true, false, false, false], [true, true], [true, true, true, true, false, false, false], [true, true, true, true, false], [true, false, false], [true, false, false, false, false], [true, true, true, false], [true, true, false], [true, true, true, true, true, true, true], [false, true, true, true, true, false, true, true, true, false, true, true, true, true, true, true, true, true, false, false, false, true, false, true, false, false, false, false, false, false, false, false, true, false, false, false, true, true, false, true, true, false, true, false]]
def tp_law : Nat := 156
def tp_kd (o : Nat) : Nat := tp_kdl.getD o 99
def tp_ln (o : Nat) : Nat := tp_lnl.getD o 0
def tp_isR (c k : Nat) : Bool := (tp_isl.getD c []).getD k false
/-- the ints of fields and arrays, by object and place; the two references that change -/
abbrev tp_St : Type := (Nat → Nat → Int32) × (Nat × Nat)
def tp_rr (σ : tp_St) (o k : Nat) : Nat := if tp_kd o < 20 then (if o = 6 then (if k = 1 then σ.2.1 else if k = 3 then σ.2.2 else (tp_rrl.getD o []).getD k 0) else (tp_rrl.getD o []).getD k 0) else if tp_kd o = 28 then (tp_rrl.getD o []).getD k 0 else (tp_rrl.getD o []).getD 0 0 + k
def tp_rob (o j : Nat) : Int32 := ([[102, 97, 114, 101], [119, 111, 114, 107], [99, 104, 97, 110, 103, 101]].getD (o - 97) []).getD j 0
abbrev tp_Ins : Type := Instr × Nat × Int32 × Nat × Nat × Nat
/-- methods: class, name, code, locals, answer, room, the receiver's kind, arguments -/
abbrev tp_MI : Type := String × MethodName × ByteArray × Nat × Option FieldType × (Nat × Nat) × Nat × Nat
def tp_M0 : List tp_MI := [(RX0, yX0_readTape, cX0_readTape, 4, (some .int), (7, 147), 0, 1),
  (RX0, yX0_tellDraft, cX0_tellDraft, 2, (some .int), (1, 20), 0, 1),
  (RX0, yX0_take, cX0_take, 2, (some .int), (3, 66), 0, 2),
  (RX0, yX0_beginLaw, cX0_beginLaw, 2, (some .int), (1, 21), 0, 2),
  (RX0, yX0_takeNumber, cX0_takeNumber, 3, (some .int), (1, 22), 0, 2),
  (RX0, yX0_endLaw, cX0_endLaw, 2, (some .int), (2, 45), 0, 2),
  (RX1, yX1_clear, cX1_clear, 1, none, (0, 0), 1, 1),
  (RX1, yX1_howMany, cX1_howMany, 1, (some .int), (0, 0), 1, 1),
  (RX1, yX1_hasRoomFor, cX1_hasRoomFor, 2, (some .boolean), (0, 0), 1, 2),
  (RX1, yX1_add, cX1_add, 5, none, (1, 21), 1, 5),
  (RX1, yX1_latestFare, cX1_latestFare, 2, (some .int), (0, 0), 1, 2),
  (RX1, yX1_priceFor, cX1_priceFor, 4, (some .int), (1, 22), 1, 3),
  (RX1, yX1_shareAt, cX1_shareAt, 3, (some .int), (0, 0), 1, 2),
  (RX1, yX1_isChangeGood, cX1_isChangeGood, 2, (some .boolean), (0, 0), 1, 2),
  (RX2, yX2_size, cX2_size, 3, (some .int), (0, 0), 2, 3),
  (RX2, yX2_replace, cX2_replace, 5, none, (0, 0), 2, 5),
  (RX2, yX2_takeNext, cX2_takeNext, 3, (some .int), (0, 0), 2, 3),
  (RX2, yX2_anyWithOthers, cX2_anyWithOthers, 7, (some .boolean), (1, 21), 2, 5),
  (RX2, yX2_beyond, cX2_beyond, 5, (some .int), (0, 0), 2, 3),
  (RX3, yX3_add, cX3_add, 4, (some .int), (3, 65), 3, 3),
  (RX3, yX3_replaceRest, cX3_replaceRest, 3, (some .int), (3, 65), 3, 2),
  (RX3, yX3_tellCrews, cX3_tellCrews, 3, none, (2, 43), 3, 1),
  (RX3, yX3_firstWithoutCrew, cX3_firstWithoutCrew, 3, (some .int), (0, 0), 3, 1),
  (RX3, yX3_giveCrew, cX3_giveCrew, 3, none, (1, 21), 3, 2),
  (RX3, yX3_minutesOf, cX3_minutesOf, 4, (some .int), (0, 0), 3, 2),
  (RX3, yX3_busiest, cX3_busiest, 5, (some .int), (1, 23), 3, 1),
  (RX3, yX3_lostWithout, cX3_lostWithout, 4, (some .int), (3, 67), 3, 2),
  (RX3, yX3_anotherCould, cX3_anotherCould, 3, (some .boolean), (2, 45), 3, 2),
  (RX3, yX3_couldHave, cX3_couldHave, 4, (some .boolean), (1, 22), 3, 3),
  (RX3, yX3_haveRestBetween, cX3_haveRestBetween, 3, (some .boolean), (0, 0), 3, 3),
  (RX4, yX4_isFull, cX4_isFull, 1, (some .boolean), (0, 0), 4, 1),
  (RX4, yX4_add, cX4_add, 5, none, (1, 20), 4, 5),
  (RX4, yX4_latestStep, cX4_latestStep, 3, (some .int), (0, 0), 4, 2),
  (RX4, yX4_find, cX4_find, 4, (some .int), (0, 0), 4, 3),
  (RX4, yX4_anySold, cX4_anySold, 5, (some .boolean), (0, 0), 4, 4),
  (RX4, yX4_beyond, cX4_beyond, 5, (some .int), (0, 0), 4, 3),
  (RX4, yX4_greatestSold, cX4_greatestSold, 4, (some .int), (1, 21), 4, 2),
  (RX4, yX4_howMany, cX4_howMany, 5, (some .int), (1, 23), 4, 3),
  (RX4, yX4_firstOf, cX4_firstOf, 4, (some .int), (1, 23), 4, 3),
  (RX4, yX4_lastOf, cX4_lastOf, 4, (some .int), (1, 23), 4, 3)]
def tp_M1 : List tp_MI := [(RX4, yX4_isOf, cX4_isOf, 4, (some .boolean), (0, 0), 4, 4),
  (RX5, yX5_isNothing, cX5_isNothing, 1, (some .boolean), (0, 0), 5, 1),
  (RX5, yX5_hasCell, cX5_hasCell, 2, (some .boolean), (0, 0), 5, 2),
  (RX5, yX5_renew, cX5_renew, 4, none, (0, 0), 5, 3),
  (RX5, yX5_write, cX5_write, 3, none, (1, 21), 5, 3),
  (RX6, yX6_append, cX6_append, 4, (some .int), (0, 0), 6, 2),
  (RX6, yX6_rewind, cX6_rewind, 1, none, (0, 0), 6, 1),
  (RX6, yX6_readToken, cX6_readToken, 1, (some .int), (6, 127), 6, 1),
  (RX6, yX6_readName, cX6_readName, 1, (some .int), (5, 107), 6, 1),
  (RX6, yX6_readNumber, cX6_readNumber, 1, (some .int), (1, 21), 6, 1),
  (RX6, yX6_isLetter, cX6_isLetter, 2, (some .boolean), (0, 0), 6, 2),
  (RX6, yX6_isFigure, cX6_isFigure, 2, (some .boolean), (0, 0), 6, 2),
  (RX6, yX6_isSpelled, cX6_isSpelled, 3, (some .boolean), (4, 85), 6, 2),
  (RX7, yX7_has, cX7_has, 2, (some .boolean), (0, 0), 7, 2),
  (RX7, yX7_add, cX7_add, 3, (some .int), (0, 0), 7, 3),
  (RX7, yX7_hasOpen, cX7_hasOpen, 3, (some .boolean), (0, 0), 7, 2),
  (RX7, yX7_howManyOpen, cX7_howManyOpen, 3, (some .int), (0, 0), 7, 1),
  (RX7, yX7_stepOfStage, cX7_stepOfStage, 3, (some .int), (0, 0), 7, 3),
  (RX7, yX7_stepOfSection, cX7_stepOfSection, 3, (some .int), (0, 0), 7, 3),
  (RX8, yX8_has, cX8_has, 2, (some .boolean), (0, 0), 8, 2),
  (RX8, yX8_add, cX8_add, 3, (some .int), (0, 0), 8, 3),
  (RX9, yX9_type, cX9_type, 3, (some .int), (1, 22), 9, 3),
  (RX9, yX9_issue, cX9_issue, 6, (some .int), (2, 47), 9, 5),
  (RX9, yX9_pack, cX9_pack, 5, (some .int), (2, 44), 9, 4),
  (RX9, yX9_trip, cX9_trip, 3, (some .int), (1, 22), 9, 3),
  (RX9, yX9_close, cX9_close, 2, (some .int), (1, 23), 9, 2),
  (RX9, yX9_sell, cX9_sell, 7, (some .int), (2, 44), 9, 4),
  (RX9, yX9_undo, cX9_undo, 4, (some .int), (1, 22), 9, 1),
  (RX9, yX9_sheet, cX9_sheet, 4, (some .int), (1, 23), 9, 4),
  (RX9, yX9_lay, cX9_lay, 5, (some .int), (2, 43), 9, 4),
  (RX9, yX9_scan, cX9_scan, 9, (some .int), (4, 94), 9, 6),
  (RX9, yX9_waybill, cX9_waybill, 5, (some .int), (2, 47), 9, 4),
  (RX9, yX9_money, cX9_money, 2, (some .int), (1, 23), 9, 2),
  (RX9, yX9_paid, cX9_paid, 5, (some .int), (1, 23), 9, 3),
  (RX9, yX9_aboard, cX9_aboard, 4, (some .int), (3, 72), 9, 4),
  (RX9, yX9_riders, cX9_riders, 6, (some .int), (2, 47), 9, 4),
  (RX9, yX9_shown, cX9_shown, 7, (some .int), (1, 23), 9, 5),
  (RX9, yX9_heads, cX9_heads, 6, (some .int), (3, 72), 9, 4),
  (RX9, yX9_gap, cX9_gap, 6, (some .int), (2, 46), 9, 2),
  (RX9, yX9_feed, cX9_feed, 3, (some .int), (1, 23), 9, 2)]
def tp_M2 : List tp_MI := [(RX9, yX9_end, cX9_end, 3, (some .int), (1, 22), 9, 2),
  (RX9, yX9_laws, cX9_laws, 1, (some .int), (8, 170), 9, 1),
  (RX9, yX9_fault, cX9_fault, 1, (some .int), (0, 0), 9, 1),
  (RX9, yX9_fare, cX9_fare, 3, (some .int), (2, 45), 9, 3),
  (RX9, yX9_change, cX9_change, 3, (some .int), (1, 22), 9, 3),
  (RX9, yX9_duty, cX9_duty, 3, (some .int), (4, 88), 9, 3),
  (RX9, yX9_rest, cX9_rest, 2, (some .int), (4, 87), 9, 2),
  (RX9, yX9_crew, cX9_crew, 2, (some .int), (1, 22), 9, 2),
  (RX9, yX9_crews, cX9_crews, 3, (some .int), (2, 47), 9, 2),
  (RX9, yX9_ill, cX9_ill, 2, (some .int), (4, 90), 9, 2),
  (RX9, yX9_count, cX9_count, 2, (some .int), (1, 22), 9, 2),
  (RX9, yX9_isOutside, cX9_isOutside, 3, (some .boolean), (0, 0), 50, 3),
  (RX9, yX9_hasPack, cX9_hasPack, 3, (some .boolean), (1, 22), 9, 3),
  (RX9, yX9_takings, cX9_takings, 4, (some .int), (0, 0), 9, 2),
  (RX9, yX9_howManyAboard, cX9_howManyAboard, 6, (some .int), (2, 47), 9, 4),
  (RX9, yX9_isAboard, cX9_isAboard, 5, (some .boolean), (1, 23), 9, 4),
  (RX9, yX9_isGoodAt, cX9_isGoodAt, 4, (some .boolean), (0, 0), 9, 3),
  (RX9, yX9_sellFromSheet, cX9_sellFromSheet, 5, (some .int), (3, 70), 9, 4),
  (RX9, yX9_takeBack, cX9_takeBack, 3, none, (1, 22), 9, 2),
  (RX9, yX9_takeBackLatest, cX9_takeBackLatest, 3, none, (0, 0), 9, 1),
  (RX9, yX9_beyondHeld, cX9_beyondHeld, 3, (some .int), (1, 24), 9, 3),
  (RX10, yX10_in, cX10_in, 6, (some .boolean), (0, 0), 50, 3),
  (RX10, yX10_type, cX10_type, 3, (some .int), (1, 25), 10, 3),
  (RX10, yX10_isPack, cX10_isPack, 3, (some .boolean), (1, 25), 10, 3),
  (RX10, yX10_issue, cX10_issue, 8, (some .int), (2, 47), 10, 5),
  (RX10, yX10_pack, cX10_pack, 5, (some .int), (2, 47), 10, 4),
  (RX10, yX10_trip, cX10_trip, 4, (some .int), (1, 25), 10, 3),
  (RX10, yX10_isTrip, cX10_isTrip, 2, (some .boolean), (1, 25), 10, 2),
  (RX10, yX10_moneyOf, cX10_moneyOf, 4, (some .int), (0, 0), 10, 2),
  (RX10, yX10_close, cX10_close, 2, (some .int), (2, 46), 10, 2),
  (RX10, yX10_along, cX10_along, 3, (some .int), (0, 0), 10, 3),
  (RX10, yX10_latestOf, cX10_latestOf, 4, (some .int), (1, 22), 10, 2),
  (RX10, yX10_sell, cX10_sell, 5, (some .int), (2, 46), 10, 4),
  (RX10, yX10_undo, cX10_undo, 3, (some .int), (0, 0), 10, 1),
  (RX10, yX10_sheet, cX10_sheet, 5, (some .int), (1, 25), 10, 4),
  (RX10, yX10_lay, cX10_lay, 4, (some .int), (1, 25), 10, 4),
  (RX10, yX10_scan, cX10_scan, 13, (some .int), (3, 70), 10, 6),
  (RX10, yX10_waybill, cX10_waybill, 8, (some .int), (2, 46), 10, 4),
  (RX10, yX10_money, cX10_money, 2, (some .int), (2, 46), 10, 2),
  (RX10, yX10_paid, cX10_paid, 5, (some .int), (1, 25), 10, 3)]
def tp_M3 : List tp_MI := [(RX10, yX10_beginOf, cX10_beginOf, 3, (some .int), (0, 0), 10, 3),
  (RX10, yX10_aboardOf, cX10_aboardOf, 8, (some .int), (1, 22), 10, 4),
  (RX10, yX10_aboard, cX10_aboard, 4, (some .int), (2, 49), 10, 4),
  (RX10, yX10_riders, cX10_riders, 6, (some .int), (2, 49), 10, 4),
  (RX10, yX10_shown, cX10_shown, 8, (some .int), (2, 46), 10, 5),
  (RX10, yX10_heads, cX10_heads, 6, (some .int), (2, 49), 10, 4),
  (RX10, yX10_gap, cX10_gap, 7, (some .int), (1, 25), 10, 2),
  (RX10, yX10_feed, cX10_feed, 4, (some .int), (0, 0), 10, 2),
  (RX10, yX10_end, cX10_end, 3, (some .int), (1, 25), 10, 2),
  (RX10, yX10_byteAt, cX10_byteAt, 2, (some .int), (0, 0), 10, 2),
  (RX10, yX10_fails, cX10_fails, 3, none, (0, 0), 10, 3),
  (RX10, yX10_isName, cX10_isName, 12, (some .boolean), (1, 21), 10, 9),
  (RX10, yX10_next, cX10_next, 2, none, (2, 52), 10, 1),
  (RX10, yX10_number, cX10_number, 4, (some .int), (3, 73), 10, 3),
  (RX10, yX10_above, cX10_above, 4, (some .int), (4, 96), 10, 4),
  (RX10, yX10_law, cX10_law, 3, none, (5, 119), 10, 1),
  (RX10, yX10_laws, cX10_laws, 2, (some .int), (6, 141), 10, 1),
  (RX10, yX10_fault, cX10_fault, 1, (some .int), (0, 0), 10, 1),
  (RX10, yX10_fare, cX10_fare, 5, (some .int), (1, 25), 10, 3),
  (RX10, yX10_change, cX10_change, 3, (some .int), (1, 25), 10, 3),
  (RX10, yX10_duty, cX10_duty, 3, (some .int), (1, 25), 10, 3),
  (RX10, yX10_rest, cX10_rest, 3, (some .int), (1, 25), 10, 2),
  (RX10, yX10_layCrews, cX10_layCrews, 4, none, (1, 24), 10, 1),
  (RX10, yX10_mayHave, cX10_mayHave, 5, (some .boolean), (0, 0), 10, 3),
  (RX10, yX10_crew, cX10_crew, 2, (some .int), (2, 47), 10, 2),
  (RX10, yX10_minutesOf, cX10_minutesOf, 4, (some .int), (0, 0), 10, 2),
  (RX10, yX10_crews, cX10_crews, 4, (some .int), (2, 47), 10, 2),
  (RX10, yX10_ill, cX10_ill, 8, (some .int), (2, 47), 10, 2),
  (RX10, yX10_count, cX10_count, 4, (some .int), (0, 0), 10, 2),
  (RJ0, yJ0_length_8abf5, cJ0_length_8abf5, 1, (some .int), (1, 20), 28, 1),
  (RJ0, yJ0_charAt_5068e, cJ0_charAt_5068e, 2, (some .char), (3, 64), 28, 2),
  (RJ0, yJ0_coder_7d493, cJ0_coder_7d493, 1, (some .byte), (0, 0), 28, 1),
  (RJ0, yJ0_isLatin1_aae02, cJ0_isLatin1_aae02, 1, (some .boolean), (0, 0), 28, 1),
  (RJ0, yJ0_checkIndex_df160, cJ0_checkIndex_df160, 2, none, (1, 22), 50, 2),
  (RJ1, yJ1_charAt_3b067, cJ1_charAt_3b067, 2, (some .char), (2, 43), 50, 2),
  (RJ3, yJ3_checkIndex_8e157, cJ3_checkIndex_8e157, 3, (some .int), (0, 0), 50, 3),
  (RL, yL_law, code, 4, some .boolean, (12, 424), 50, 1)]
def tp_M : List tp_MI := tp_M0 ++ tp_M1 ++ tp_M2 ++ tp_M3
def tp_mi (i : Nat) : tp_MI := tp_M.getD i ("", ⟨"", "", ""⟩, ⟨#[]⟩, 0, none, (0, 0), 0, 0)
/-- X0_readTape -/
def tp_P0 : List (Nat × List tp_Ins) := [(0, [(.aload_n 0, 1, 0, 0, 0, 0), (.getfield 25, 3, 0, 0, 3, 246), (.invokevirtual 32, 3, 0, 6, 1, 569), (.aload_n 0, 1, 0, 0, 0, 0), (.getfield 12, 3, 0, 0, 0, 240), (.invokevirtual 35, 3, 0, 46, 1, 573), (.aload_n 0, 1, 0, 0, 0, 0), (.iconst (-1), 1, -1, 0, 0, 0), (.putfield 38, 3, 0, 0, 5, 248), (.aload_n 0, 1, 0, 0, 0, 0), (.iconst 0, 1, 0, 0, 0, 0), (.putfield 42, 3, 0, 0, 2, 244), (.iconst 0, 1, 0, 0, 0, 0), (.istore_n 1, 1, 0, 0, 0, 0), (.iconst 0, 1, 0, 0, 0, 0), (.istore_n 2, 1, 0, 0, 0, 0)]),
  (28, [(.iload_n 2, 1, 0, 0, 0, 0), (.sipush 200, 3, 200, 0, 0, 0), (.if_icmp .gt 48, 3, 0, 80, 0, 0), (.iload_n 1, 1, 0, 0, 0, 0), (.ifCond .ne 44, 3, 0, 80, 0, 0), (.aload_n 0, 1, 0, 0, 0, 0), (.getfield 42, 3, 0, 0, 2, 244), (.ifCond .ne 37, 3, 0, 80, 0, 0), (.aload_n 0, 1, 0, 0, 0, 0), (.getfield 12, 3, 0, 0, 0, 240), (.invokevirtual 45, 3, 0, 47, 1, 577), (.istore_n 3, 1, 0, 0, 0, 0), (.aload_n 0, 1, 0, 0, 0, 0), (.aload_n 0, 1, 0, 0, 0, 0), (.iload_n 3, 1, 0, 0, 0, 0), (.invokevirtual 49, 3, 0, 2, 2, 652), (.putfield 42, 3, 0, 0, 2, 244), (.iload_n 3, 1, 0, 0, 0, 0), (.iconst 1, 1, 1, 0, 0, 0), (.if_icmp .ne 7, 3, 0, 72, 0, 0), (.iconst 1, 1, 1, 0, 0, 0), (.goto 4, 3, 0, 73, 0, 0)]),
  (72, [(.iconst 0, 1, 0, 0, 0, 0)]),
  (73, [(.istore_n 1, 1, 0, 0, 0, 0), (.iinc 2 1, 3, 1, 0, 0, 0), (.goto (-49), 3, 0, 28, 0, 0)]),
  (80, [(.aload_n 0, 1, 0, 0, 0, 0), (.getfield 12, 3, 0, 0, 0, 240), (.iconst 0, 1, 0, 0, 0, 0), (.putfield 53, 3, 0, 6, 1, 190), (.aload_n 0, 1, 0, 0, 0, 0), (.getfield 42, 3, 0, 0, 2, 244), (.ifCond .ne 10, 3, 0, 102, 0, 0), (.aload_n 0, 1, 0, 0, 0, 0), (.invokevirtual 56, 3, 0, 1, 1, 688), (.goto 13, 3, 0, 112, 0, 0)]),
  (102, [(.bipush (-10), 2, -10, 0, 0, 0), (.aload_n 0, 1, 0, 0, 0, 0), (.getfield 12, 3, 0, 0, 0, 240), (.getfield 59, 3, 0, 6, 2, 192), (.isub, 1, 0, 0, 0, 0)]),
  (112, [(.ireturn, 1, 0, 0, 0, 0)])]
/-- X0_tellDraft -/
def tp_P1 : List (Nat × List tp_Ins) := [(0, [(.aload_n 0, 1, 0, 0, 0, 0), (.getfield 21, 3, 0, 0, 1, 242), (.astore_n 1, 1, 0, 0, 0, 0), (.aload_n 0, 1, 0, 0, 0, 0), (.aload_n 0, 1, 0, 0, 0, 0), (.getfield 25, 3, 0, 0, 3, 246), (.putfield 21, 3, 0, 0, 1, 242), (.aload_n 0, 1, 0, 0, 0, 0), (.aload_n 1, 1, 0, 0, 0, 0), (.putfield 25, 3, 0, 0, 3, 246), (.aload_n 0, 1, 0, 0, 0, 0), (.getfield 21, 3, 0, 0, 1, 242), (.invokevirtual 62, 3, 0, 7, 1, 692), (.ireturn, 1, 0, 0, 0, 0)])]
/-- X0_take -/
def tp_P2 : List (Nat × List tp_Ins) := [(0, [(.iload_n 1, 1, 0, 0, 0, 0), (.ifCond .ne 5, 3, 0, 6, 0, 0), (.iconst 1, 1, 1, 0, 0, 0), (.ireturn, 1, 0, 0, 0, 0)]),
  (6, [(.aload_n 0, 1, 0, 0, 0, 0), (.getfield 38, 3, 0, 0, 5, 248), (.iconst (-1), 1, -1, 0, 0, 0), (.if_icmp .ne 9, 3, 0, 20, 0, 0), (.aload_n 0, 1, 0, 0, 0, 0), (.iload_n 1, 1, 0, 0, 0, 0), (.invokevirtual 65, 3, 0, 3, 2, 656), (.ireturn, 1, 0, 0, 0, 0)]),
  (20, [(.aload_n 0, 1, 0, 0, 0, 0), (.getfield 68, 3, 0, 0, 6, 249), (.getstatic 71, 3, 0, 91, 0, 664), (.aload_n 0, 1, 0, 0, 0, 0), (.getfield 38, 3, 0, 0, 5, 248), (.iaload, 1, 0, 0, 0, 0), (.if_icmp .lt 9, 3, 0, 41, 0, 0), (.aload_n 0, 1, 0, 0, 0, 0), (.iload_n 1, 1, 0, 0, 0, 0), (.invokevirtual 74, 3, 0, 5, 2, 666), (.ireturn, 1, 0, 0, 0, 0)]),
  (41, [(.iload_n 1, 1, 0, 0, 0, 0), (.iconst 3, 1, 3, 0, 0, 0), (.if_icmp .ne 17, 3, 0, 60, 0, 0), (.aload_n 0, 1, 0, 0, 0, 0), (.aload_n 0, 1, 0, 0, 0, 0), (.getfield 12, 3, 0, 0, 0, 240), (.getfield 77, 3, 0, 6, 3, 194), (.invokevirtual 80, 3, 0, 4, 2, 675), (.goto 4, 3, 0, 61, 0, 0)]),
  (60, [(.iconst 2, 1, 2, 0, 0, 0)]),
  (61, [(.ireturn, 1, 0, 0, 0, 0)])]
/-- X0_beginLaw -/
def tp_P3 : List (Nat × List tp_Ins) := [(0, [(.iload_n 1, 1, 0, 0, 0, 0), (.iconst 1, 1, 1, 0, 0, 0), (.if_icmp .ne 5, 3, 0, 7, 0, 0), (.iconst 0, 1, 0, 0, 0, 0), (.ireturn, 1, 0, 0, 0, 0)]),
  (7, [(.iload_n 1, 1, 0, 0, 0, 0), (.iconst 2, 1, 2, 0, 0, 0), (.if_icmp .eq 5, 3, 0, 14, 0, 0), (.iconst 2, 1, 2, 0, 0, 0), (.ireturn, 1, 0, 0, 0, 0)]),
  (14, [(.aload_n 0, 1, 0, 0, 0, 0), (.aload_n 0, 1, 0, 0, 0, 0), (.getfield 12, 3, 0, 0, 0, 240), (.getfield 77, 3, 0, 6, 3, 194), (.putfield 38, 3, 0, 0, 5, 248), (.aload_n 0, 1, 0, 0, 0, 0), (.iconst 0, 1, 0, 0, 0, 0), (.putfield 68, 3, 0, 0, 6, 249), (.aload_n 0, 1, 0, 0, 0, 0), (.getfield 25, 3, 0, 0, 3, 246), (.aload_n 0, 1, 0, 0, 0, 0), (.getfield 38, 3, 0, 0, 5, 248), (.invokevirtual 83, 3, 0, 8, 2, 660), (.ifCond .eq 7, 3, 0, 48, 0, 0), (.iconst 0, 1, 0, 0, 0, 0), (.goto 4, 3, 0, 49, 0, 0)]),
  (48, [(.iconst 5, 1, 5, 0, 0, 0)]),
  (49, [(.ireturn, 1, 0, 0, 0, 0)])]
/-- X0_takeNumber -/
def tp_P4 : List (Nat × List tp_Ins) := [(0, [(.aload_n 0, 1, 0, 0, 0, 0), (.getfield 38, 3, 0, 0, 5, 248), (.iconst 3, 1, 3, 0, 0, 0), (.imul, 1, 0, 0, 0, 0), (.aload_n 0, 1, 0, 0, 0, 0), (.getfield 68, 3, 0, 0, 6, 249), (.iadd, 1, 0, 0, 0, 0), (.istore_n 2, 1, 0, 0, 0, 0), (.iload_n 1, 1, 0, 0, 0, 0), (.getstatic 87, 3, 0, 92, 0, 679), (.iload_n 2, 1, 0, 0, 0, 0), (.iaload, 1, 0, 0, 0, 0), (.getstatic 90, 3, 0, 93, 0, 681), (.iload_n 2, 1, 0, 0, 0, 0), (.iaload, 1, 0, 0, 0, 0), (.invokestatic 93, 3, 0, 91, 3, 683), (.ifCond .eq 5, 3, 0, 31, 0, 0), (.iconst 3, 1, 3, 0, 0, 0), (.ireturn, 1, 0, 0, 0, 0)]),
  (31, [(.aload_n 0, 1, 0, 0, 0, 0), (.getfield 38, 3, 0, 0, 5, 248), (.iconst 1, 1, 1, 0, 0, 0), (.if_icmp .ne 23, 3, 0, 59, 0, 0), (.aload_n 0, 1, 0, 0, 0, 0), (.getfield 68, 3, 0, 0, 6, 249), (.iconst 1, 1, 1, 0, 0, 0), (.if_icmp .ne 15, 3, 0, 59, 0, 0), (.iload_n 1, 1, 0, 0, 0, 0), (.aload_n 0, 1, 0, 0, 0, 0), (.getfield 28, 3, 0, 0, 4, 247), (.iconst 0, 1, 0, 0, 0, 0), (.iaload, 1, 0, 0, 0, 0), (.if_icmp .gt 5, 3, 0, 59, 0, 0), (.iconst 3, 1, 3, 0, 0, 0), (.ireturn, 1, 0, 0, 0, 0)]),
  (59, [(.aload_n 0, 1, 0, 0, 0, 0), (.getfield 38, 3, 0, 0, 5, 248), (.ifCond .ne 20, 3, 0, 83, 0, 0), (.iload_n 1, 1, 0, 0, 0, 0), (.aload_n 0, 1, 0, 0, 0, 0), (.getfield 25, 3, 0, 0, 3, 246), (.aload_n 0, 1, 0, 0, 0, 0), (.getfield 68, 3, 0, 0, 6, 249), (.invokevirtual 97, 3, 0, 10, 2, 684), (.if_icmp .gt 5, 3, 0, 83, 0, 0), (.iconst 4, 1, 4, 0, 0, 0), (.ireturn, 1, 0, 0, 0, 0)]),
  (83, [(.aload_n 0, 1, 0, 0, 0, 0), (.getfield 28, 3, 0, 0, 4, 247), (.aload_n 0, 1, 0, 0, 0, 0), (.getfield 68, 3, 0, 0, 6, 249), (.iload_n 1, 1, 0, 0, 0, 0), (.iastore, 1, 0, 0, 0, 0), (.aload_n 0, 1, 0, 0, 0, 0), (.dup, 1, 0, 0, 0, 0), (.getfield 68, 3, 0, 0, 6, 249), (.iconst 1, 1, 1, 0, 0, 0), (.iadd, 1, 0, 0, 0, 0), (.putfield 68, 3, 0, 0, 6, 249), (.iconst 0, 1, 0, 0, 0, 0), (.ireturn, 1, 0, 0, 0, 0)])]
/-- X0_endLaw -/
def tp_P5 : List (Nat × List tp_Ins) := [(0, [(.iload_n 1, 1, 0, 0, 0, 0), (.iconst 4, 1, 4, 0, 0, 0), (.if_icmp .eq 5, 3, 0, 7, 0, 0), (.iconst 2, 1, 2, 0, 0, 0), (.ireturn, 1, 0, 0, 0, 0)]),
  (7, [(.aload_n 0, 1, 0, 0, 0, 0), (.getfield 25, 3, 0, 0, 3, 246), (.aload_n 0, 1, 0, 0, 0, 0), (.getfield 38, 3, 0, 0, 5, 248), (.aload_n 0, 1, 0, 0, 0, 0), (.getfield 28, 3, 0, 0, 4, 247), (.iconst 0, 1, 0, 0, 0, 0), (.iaload, 1, 0, 0, 0, 0), (.aload_n 0, 1, 0, 0, 0, 0), (.getfield 28, 3, 0, 0, 4, 247), (.iconst 1, 1, 1, 0, 0, 0), (.iaload, 1, 0, 0, 0, 0), (.aload_n 0, 1, 0, 0, 0, 0), (.getfield 28, 3, 0, 0, 4, 247), (.iconst 2, 1, 2, 0, 0, 0), (.iaload, 1, 0, 0, 0, 0), (.invokevirtual 100, 3, 0, 9, 5, 670), (.aload_n 0, 1, 0, 0, 0, 0), (.iconst (-1), 1, -1, 0, 0, 0), (.putfield 38, 3, 0, 0, 5, 248), (.iconst 0, 1, 0, 0, 0, 0), (.ireturn, 1, 0, 0, 0, 0)])]
/-- X1_clear -/
def tp_P6 : List (Nat × List tp_Ins) := [(0, [(.aload_n 0, 1, 0, 0, 0, 0), (.iconst 0, 1, 0, 0, 0, 0), (.putfield 31, 3, 0, 1, 5, 220), (.aload_n 0, 1, 0, 0, 0, 0), (.iconst 0, 1, 0, 0, 0, 0), (.putfield 34, 3, 0, 1, 6, 221), (.aload_n 0, 1, 0, 0, 0, 0), (.iconst (-1), 1, -1, 0, 0, 0), (.putfield 27, 3, 0, 1, 7, 222), (.return_, 1, 0, 0, 0, 0)])]
/-- X1_howMany -/
def tp_P7 : List (Nat × List tp_Ins) := [(0, [(.aload_n 0, 1, 0, 0, 0, 0), (.getfield 31, 3, 0, 1, 5, 220), (.aload_n 0, 1, 0, 0, 0, 0), (.getfield 34, 3, 0, 1, 6, 221), (.iadd, 1, 0, 0, 0, 0), (.aload_n 0, 1, 0, 0, 0, 0), (.getfield 27, 3, 0, 1, 7, 222), (.iconst (-1), 1, -1, 0, 0, 0), (.if_icmp .ne 7, 3, 0, 21, 0, 0), (.iconst 0, 1, 0, 0, 0, 0), (.goto 4, 3, 0, 22, 0, 0)]),
  (21, [(.iconst 1, 1, 1, 0, 0, 0)]),
  (22, [(.iadd, 1, 0, 0, 0, 0), (.ireturn, 1, 0, 0, 0, 0)])]
/-- X1_hasRoomFor -/
def tp_P8 : List (Nat × List tp_Ins) := [(0, [(.iload_n 1, 1, 0, 0, 0, 0), (.lookupswitch 56 #[(0, 27), (1, 42)], 27, 0, 0, 0, 0)]),
  (28, [(.aload_n 0, 1, 0, 0, 0, 0), (.getfield 31, 3, 0, 1, 5, 220), (.bipush 9, 2, 9, 0, 0, 0), (.if_icmp .ge 7, 3, 0, 41, 0, 0), (.iconst 1, 1, 1, 0, 0, 0), (.goto 4, 3, 0, 42, 0, 0)]),
  (41, [(.iconst 0, 1, 0, 0, 0, 0)]),
  (42, [(.ireturn, 1, 0, 0, 0, 0)]),
  (43, [(.aload_n 0, 1, 0, 0, 0, 0), (.getfield 34, 3, 0, 1, 6, 221), (.iconst 4, 1, 4, 0, 0, 0), (.if_icmp .ge 7, 3, 0, 55, 0, 0), (.iconst 1, 1, 1, 0, 0, 0), (.goto 4, 3, 0, 56, 0, 0)]),
  (55, [(.iconst 0, 1, 0, 0, 0, 0)]),
  (56, [(.ireturn, 1, 0, 0, 0, 0)]),
  (57, [(.aload_n 0, 1, 0, 0, 0, 0), (.getfield 27, 3, 0, 1, 7, 222), (.iconst (-1), 1, -1, 0, 0, 0), (.if_icmp .ne 7, 3, 0, 69, 0, 0), (.iconst 1, 1, 1, 0, 0, 0), (.goto 4, 3, 0, 70, 0, 0)]),
  (69, [(.iconst 0, 1, 0, 0, 0, 0)]),
  (70, [(.ireturn, 1, 0, 0, 0, 0)])]
/-- X1_add -/
def tp_P9 : List (Nat × List tp_Ins) := [(0, [(.aload_n 0, 1, 0, 0, 0, 0), (.iload_n 1, 1, 0, 0, 0, 0), (.invokevirtual 37, 3, 0, 8, 2, 674), (.ifCond .ne 4, 3, 0, 9, 0, 0), (.return_, 1, 0, 0, 0, 0)]),
  (9, [(.iload_n 1, 1, 0, 0, 0, 0), (.lookupswitch 103 #[(0, 26), (1, 59)], 26, 0, 0, 0, 0)]),
  (36, [(.aload_n 0, 1, 0, 0, 0, 0), (.getfield 11, 3, 0, 1, 0, 215), (.aload_n 0, 1, 0, 0, 0, 0), (.getfield 31, 3, 0, 1, 5, 220), (.iload_n 2, 1, 0, 0, 0, 0), (.iastore, 1, 0, 0, 0, 0), (.aload_n 0, 1, 0, 0, 0, 0), (.getfield 15, 3, 0, 1, 1, 216), (.aload_n 0, 1, 0, 0, 0, 0), (.getfield 31, 3, 0, 1, 5, 220), (.iload_n 3, 1, 0, 0, 0, 0), (.iastore, 1, 0, 0, 0, 0), (.aload_n 0, 1, 0, 0, 0, 0), (.dup, 1, 0, 0, 0, 0), (.getfield 31, 3, 0, 1, 5, 220), (.iconst 1, 1, 1, 0, 0, 0), (.iadd, 1, 0, 0, 0, 0), (.putfield 31, 3, 0, 1, 5, 220), (.goto 52, 3, 0, 118, 0, 0)]),
  (69, [(.aload_n 0, 1, 0, 0, 0, 0), (.getfield 18, 3, 0, 1, 2, 217), (.aload_n 0, 1, 0, 0, 0, 0), (.getfield 34, 3, 0, 1, 6, 221), (.iload_n 2, 1, 0, 0, 0, 0), (.iastore, 1, 0, 0, 0, 0), (.aload_n 0, 1, 0, 0, 0, 0), (.getfield 21, 3, 0, 1, 3, 218), (.aload_n 0, 1, 0, 0, 0, 0), (.getfield 34, 3, 0, 1, 6, 221), (.iload_n 3, 1, 0, 0, 0, 0), (.iastore, 1, 0, 0, 0, 0), (.aload_n 0, 1, 0, 0, 0, 0), (.getfield 24, 3, 0, 1, 4, 219), (.aload_n 0, 1, 0, 0, 0, 0), (.getfield 34, 3, 0, 1, 6, 221), (.iload 4, 2, 0, 0, 0, 0), (.iastore, 1, 0, 0, 0, 0), (.aload_n 0, 1, 0, 0, 0, 0), (.dup, 1, 0, 0, 0, 0), (.getfield 34, 3, 0, 1, 6, 221), (.iconst 1, 1, 1, 0, 0, 0), (.iadd, 1, 0, 0, 0, 0), (.putfield 34, 3, 0, 1, 6, 221), (.goto 8, 3, 0, 118, 0, 0)]),
  (113, [(.aload_n 0, 1, 0, 0, 0, 0), (.iload_n 2, 1, 0, 0, 0, 0), (.putfield 27, 3, 0, 1, 7, 222)]),
  (118, [(.return_, 1, 0, 0, 0, 0)])]
/-- X1_latestFare -/
def tp_P10 : List (Nat × List tp_Ins) := [(0, [(.aload_n 0, 1, 0, 0, 0, 0), (.getfield 31, 3, 0, 1, 5, 220), (.ifCond .ne 5, 3, 0, 9, 0, 0), (.iconst 0, 1, 0, 0, 0, 0), (.ireturn, 1, 0, 0, 0, 0)]),
  (9, [(.iload_n 1, 1, 0, 0, 0, 0), (.ifCond .ne 17, 3, 0, 27, 0, 0), (.aload_n 0, 1, 0, 0, 0, 0), (.getfield 11, 3, 0, 1, 0, 215), (.aload_n 0, 1, 0, 0, 0, 0), (.getfield 31, 3, 0, 1, 5, 220), (.iconst 1, 1, 1, 0, 0, 0), (.isub, 1, 0, 0, 0, 0), (.iaload, 1, 0, 0, 0, 0), (.goto 14, 3, 0, 38, 0, 0)]),
  (27, [(.aload_n 0, 1, 0, 0, 0, 0), (.getfield 15, 3, 0, 1, 1, 216), (.aload_n 0, 1, 0, 0, 0, 0), (.getfield 31, 3, 0, 1, 5, 220), (.iconst 1, 1, 1, 0, 0, 0), (.isub, 1, 0, 0, 0, 0), (.iaload, 1, 0, 0, 0, 0)]),
  (38, [(.ireturn, 1, 0, 0, 0, 0)])]
/-- X1_priceFor -/
def tp_P11 : List (Nat × List tp_Ins) := [(0, [(.iconst 0, 1, 0, 0, 0, 0), (.istore_n 3, 1, 0, 0, 0, 0)]),
  (2, [(.iload_n 3, 1, 0, 0, 0, 0), (.aload_n 0, 1, 0, 0, 0, 0), (.getfield 31, 3, 0, 1, 5, 220), (.if_icmp .ge 38, 3, 0, 45, 0, 0), (.aload_n 0, 1, 0, 0, 0, 0), (.getfield 11, 3, 0, 1, 0, 215), (.iload_n 3, 1, 0, 0, 0, 0), (.iaload, 1, 0, 0, 0, 0), (.iload_n 1, 1, 0, 0, 0, 0), (.if_icmp .lt 22, 3, 0, 39, 0, 0), (.aload_n 0, 1, 0, 0, 0, 0), (.getfield 15, 3, 0, 1, 1, 216), (.iload_n 3, 1, 0, 0, 0, 0), (.iaload, 1, 0, 0, 0, 0), (.aload_n 0, 1, 0, 0, 0, 0), (.iload_n 2, 1, 0, 0, 0, 0), (.invokevirtual 41, 3, 0, 12, 2, 708), (.imul, 1, 0, 0, 0, 0), (.bipush 99, 2, 99, 0, 0, 0), (.iadd, 1, 0, 0, 0, 0), (.bipush 100, 2, 100, 0, 0, 0), (.idiv, 1, 0, 0, 0, 0), (.ireturn, 1, 0, 0, 0, 0)]),
  (39, [(.iinc 3 1, 3, 1, 0, 0, 0), (.goto (-40), 3, 0, 2, 0, 0)]),
  (45, [(.bipush (-4), 2, -4, 0, 0, 0), (.ireturn, 1, 0, 0, 0, 0)])]
/-- X1_shareAt -/
def tp_P12 : List (Nat × List tp_Ins) := [(0, [(.iconst 0, 1, 0, 0, 0, 0), (.istore_n 2, 1, 0, 0, 0, 0)]),
  (2, [(.iload_n 2, 1, 0, 0, 0, 0), (.aload_n 0, 1, 0, 0, 0, 0), (.getfield 34, 3, 0, 1, 6, 221), (.if_icmp .ge 36, 3, 0, 43, 0, 0), (.iload_n 1, 1, 0, 0, 0, 0), (.aload_n 0, 1, 0, 0, 0, 0), (.getfield 18, 3, 0, 1, 2, 217), (.iload_n 2, 1, 0, 0, 0, 0), (.iaload, 1, 0, 0, 0, 0), (.if_icmp .lt 20, 3, 0, 37, 0, 0), (.iload_n 1, 1, 0, 0, 0, 0), (.aload_n 0, 1, 0, 0, 0, 0), (.getfield 21, 3, 0, 1, 3, 218), (.iload_n 2, 1, 0, 0, 0, 0), (.iaload, 1, 0, 0, 0, 0), (.if_icmp .ge 10, 3, 0, 37, 0, 0), (.aload_n 0, 1, 0, 0, 0, 0), (.getfield 24, 3, 0, 1, 4, 219), (.iload_n 2, 1, 0, 0, 0, 0), (.iaload, 1, 0, 0, 0, 0), (.ireturn, 1, 0, 0, 0, 0)]),
  (37, [(.iinc 2 1, 3, 1, 0, 0, 0), (.goto (-38), 3, 0, 2, 0, 0)]),
  (43, [(.bipush 100, 2, 100, 0, 0, 0), (.ireturn, 1, 0, 0, 0, 0)])]
/-- X1_isChangeGood -/
def tp_P13 : List (Nat × List tp_Ins) := [(0, [(.aload_n 0, 1, 0, 0, 0, 0), (.getfield 27, 3, 0, 1, 7, 222), (.iconst (-1), 1, -1, 0, 0, 0), (.if_icmp .eq 15, 3, 0, 20, 0, 0), (.iload_n 1, 1, 0, 0, 0, 0), (.aload_n 0, 1, 0, 0, 0, 0), (.getfield 27, 3, 0, 1, 7, 222), (.if_icmp .gt 7, 3, 0, 20, 0, 0), (.iconst 1, 1, 1, 0, 0, 0), (.goto 4, 3, 0, 21, 0, 0)]),
  (20, [(.iconst 0, 1, 0, 0, 0, 0)]),
  (21, [(.ireturn, 1, 0, 0, 0, 0)])]
/-- X2_size -/
def tp_P14 : List (Nat × List tp_Ins) := [(0, [(.aload_n 0, 1, 0, 0, 0, 0), (.getfield 18, 3, 0, 2, 1, 99), (.iload_n 1, 1, 0, 0, 0, 0), (.aaload, 1, 0, 0, 0, 0), (.iload_n 2, 1, 0, 0, 0, 0), (.iaload, 1, 0, 0, 0, 0), (.aload_n 0, 1, 0, 0, 0, 0), (.getfield 13, 3, 0, 2, 0, 97), (.iload_n 1, 1, 0, 0, 0, 0), (.aaload, 1, 0, 0, 0, 0), (.iload_n 2, 1, 0, 0, 0, 0), (.iaload, 1, 0, 0, 0, 0), (.isub, 1, 0, 0, 0, 0), (.ireturn, 1, 0, 0, 0, 0)])]
/-- X2_replace -/
def tp_P15 : List (Nat × List tp_Ins) := [(0, [(.aload_n 0, 1, 0, 0, 0, 0), (.getfield 13, 3, 0, 2, 0, 97), (.iload_n 1, 1, 0, 0, 0, 0), (.aaload, 1, 0, 0, 0, 0), (.iload_n 2, 1, 0, 0, 0, 0), (.iload_n 3, 1, 0, 0, 0, 0), (.iastore, 1, 0, 0, 0, 0), (.aload_n 0, 1, 0, 0, 0, 0), (.getfield 18, 3, 0, 2, 1, 99), (.iload_n 1, 1, 0, 0, 0, 0), (.aaload, 1, 0, 0, 0, 0), (.iload_n 2, 1, 0, 0, 0, 0), (.iload 4, 2, 0, 0, 0, 0), (.iastore, 1, 0, 0, 0, 0), (.return_, 1, 0, 0, 0, 0)])]
/-- X2_takeNext -/
def tp_P16 : List (Nat × List tp_Ins) := [(0, [(.aload_n 0, 1, 0, 0, 0, 0), (.getfield 13, 3, 0, 2, 0, 97), (.iload_n 1, 1, 0, 0, 0, 0), (.aaload, 1, 0, 0, 0, 0), (.iload_n 2, 1, 0, 0, 0, 0), (.dup2, 1, 0, 0, 0, 0), (.iaload, 1, 0, 0, 0, 0), (.dup_x2, 1, 0, 0, 0, 0), (.iconst 1, 1, 1, 0, 0, 0), (.iadd, 1, 0, 0, 0, 0), (.iastore, 1, 0, 0, 0, 0), (.ireturn, 1, 0, 0, 0, 0)])]
/-- X2_anyWithOthers -/
def tp_P17 : List (Nat × List tp_Ins) := [(0, [(.iconst 0, 1, 0, 0, 0, 0), (.istore 5, 2, 0, 0, 0, 0)]),
  (3, [(.iload 5, 2, 0, 0, 0, 0), (.bipush 6, 2, 6, 0, 0, 0), (.if_icmp .ge 51, 3, 0, 58, 0, 0), (.iload_n 3, 1, 0, 0, 0, 0), (.aload_n 0, 1, 0, 0, 0, 0), (.getfield 13, 3, 0, 2, 0, 97), (.iload 5, 2, 0, 0, 0, 0), (.aaload, 1, 0, 0, 0, 0), (.iload_n 2, 1, 0, 0, 0, 0), (.iaload, 1, 0, 0, 0, 0), (.invokestatic 21, 3, 0, 900, 2, 350), (.istore 6, 2, 0, 0, 0, 0), (.iload 5, 2, 0, 0, 0, 0), (.iload_n 1, 1, 0, 0, 0, 0), (.if_icmp .eq 24, 3, 0, 52, 0, 0), (.iload 6, 2, 0, 0, 0, 0), (.iload 4, 2, 0, 0, 0, 0), (.aload_n 0, 1, 0, 0, 0, 0), (.getfield 18, 3, 0, 2, 1, 99), (.iload 5, 2, 0, 0, 0, 0), (.aaload, 1, 0, 0, 0, 0), (.iload_n 2, 1, 0, 0, 0, 0), (.iaload, 1, 0, 0, 0, 0), (.invokestatic 27, 3, 0, 901, 2, 353), (.if_icmp .ge 5, 3, 0, 52, 0, 0), (.iconst 1, 1, 1, 0, 0, 0), (.ireturn, 1, 0, 0, 0, 0)]),
  (52, [(.iinc 5 1, 3, 1, 0, 0, 0), (.goto (-52), 3, 0, 3, 0, 0)]),
  (58, [(.iconst 0, 1, 0, 0, 0, 0), (.ireturn, 1, 0, 0, 0, 0)])]
/-- X2_beyond -/
def tp_P18 : List (Nat × List tp_Ins) := [(0, [(.iload_n 2, 1, 0, 0, 0, 0), (.istore_n 3, 1, 0, 0, 0, 0), (.iconst 0, 1, 0, 0, 0, 0), (.istore 4, 2, 0, 0, 0, 0)]),
  (5, [(.iload 4, 2, 0, 0, 0, 0), (.bipush 6, 2, 6, 0, 0, 0), (.if_icmp .ge 45, 3, 0, 54, 0, 0), (.iload_n 3, 1, 0, 0, 0, 0), (.aload_n 0, 1, 0, 0, 0, 0), (.getfield 13, 3, 0, 2, 0, 97), (.iload 4, 2, 0, 0, 0, 0), (.aaload, 1, 0, 0, 0, 0), (.iload_n 1, 1, 0, 0, 0, 0), (.iaload, 1, 0, 0, 0, 0), (.if_icmp .lt 26, 3, 0, 48, 0, 0), (.iload_n 3, 1, 0, 0, 0, 0), (.aload_n 0, 1, 0, 0, 0, 0), (.getfield 18, 3, 0, 2, 1, 99), (.iload 4, 2, 0, 0, 0, 0), (.aaload, 1, 0, 0, 0, 0), (.iload_n 1, 1, 0, 0, 0, 0), (.iaload, 1, 0, 0, 0, 0), (.if_icmp .ge 13, 3, 0, 48, 0, 0), (.aload_n 0, 1, 0, 0, 0, 0), (.getfield 18, 3, 0, 2, 1, 99), (.iload 4, 2, 0, 0, 0, 0), (.aaload, 1, 0, 0, 0, 0), (.iload_n 1, 1, 0, 0, 0, 0), (.iaload, 1, 0, 0, 0, 0), (.istore_n 3, 1, 0, 0, 0, 0)]),
  (48, [(.iinc 4 1, 3, 1, 0, 0, 0), (.goto (-46), 3, 0, 5, 0, 0)]),
  (54, [(.iload_n 3, 1, 0, 0, 0, 0), (.ireturn, 1, 0, 0, 0, 0)])]
/-- X3_add -/
def tp_P19 : List (Nat × List tp_Ins) := [(0, [(.aload_n 0, 1, 0, 0, 0, 0), (.getfield 28, 3, 0, 3, 4, 276), (.bipush 10, 2, 10, 0, 0, 0), (.if_icmp .lt 6, 3, 0, 12, 0, 0), (.bipush (-3), 2, -3, 0, 0, 0), (.ireturn, 1, 0, 0, 0, 0)]),
  (12, [(.aload_n 0, 1, 0, 0, 0, 0), (.getfield 11, 3, 0, 3, 0, 271), (.aload_n 0, 1, 0, 0, 0, 0), (.getfield 28, 3, 0, 3, 4, 276), (.iload_n 1, 1, 0, 0, 0, 0), (.iastore, 1, 0, 0, 0, 0), (.aload_n 0, 1, 0, 0, 0, 0), (.getfield 15, 3, 0, 3, 1, 272), (.aload_n 0, 1, 0, 0, 0, 0), (.getfield 28, 3, 0, 3, 4, 276), (.iload_n 2, 1, 0, 0, 0, 0), (.iastore, 1, 0, 0, 0, 0), (.aload_n 0, 1, 0, 0, 0, 0), (.dup, 1, 0, 0, 0, 0), (.getfield 28, 3, 0, 3, 4, 276), (.dup_x1, 1, 0, 0, 0, 0), (.iconst 1, 1, 1, 0, 0, 0), (.iadd, 1, 0, 0, 0, 0), (.putfield 28, 3, 0, 3, 4, 276), (.istore_n 3, 1, 0, 0, 0, 0), (.aload_n 0, 1, 0, 0, 0, 0), (.invokevirtual 31, 3, 0, 21, 1, 728), (.iload_n 3, 1, 0, 0, 0, 0), (.ireturn, 1, 0, 0, 0, 0)])]
/-- X3_replaceRest -/
def tp_P20 : List (Nat × List tp_Ins) := [(0, [(.aload_n 0, 1, 0, 0, 0, 0), (.getfield 24, 3, 0, 3, 6, 280), (.istore_n 2, 1, 0, 0, 0, 0), (.aload_n 0, 1, 0, 0, 0, 0), (.iload_n 1, 1, 0, 0, 0, 0), (.putfield 24, 3, 0, 3, 6, 280), (.aload_n 0, 1, 0, 0, 0, 0), (.invokevirtual 31, 3, 0, 21, 1, 728), (.iload_n 2, 1, 0, 0, 0, 0), (.ireturn, 1, 0, 0, 0, 0)])]
/-- X3_tellCrews -/
def tp_P21 : List (Nat × List tp_Ins) := [(0, [(.aload_n 0, 1, 0, 0, 0, 0), (.iconst 0, 1, 0, 0, 0, 0), (.putfield 34, 3, 0, 3, 5, 278), (.iconst 0, 1, 0, 0, 0, 0), (.istore_n 1, 1, 0, 0, 0, 0)]),
  (7, [(.iload_n 1, 1, 0, 0, 0, 0), (.aload_n 0, 1, 0, 0, 0, 0), (.getfield 28, 3, 0, 3, 4, 276), (.if_icmp .ge 16, 3, 0, 28, 0, 0), (.aload_n 0, 1, 0, 0, 0, 0), (.getfield 21, 3, 0, 3, 3, 274), (.iload_n 1, 1, 0, 0, 0, 0), (.iconst (-1), 1, -1, 0, 0, 0), (.iastore, 1, 0, 0, 0, 0), (.iinc 1 1, 3, 1, 0, 0, 0), (.goto (-18), 3, 0, 7, 0, 0)]),
  (28, [(.iconst 0, 1, 0, 0, 0, 0), (.istore_n 1, 1, 0, 0, 0, 0)]),
  (30, [(.iload_n 1, 1, 0, 0, 0, 0), (.aload_n 0, 1, 0, 0, 0, 0), (.getfield 28, 3, 0, 3, 4, 276), (.if_icmp .ge 23, 3, 0, 58, 0, 0), (.aload_n 0, 1, 0, 0, 0, 0), (.invokevirtual 37, 3, 0, 22, 1, 732), (.istore_n 2, 1, 0, 0, 0, 0), (.iload_n 2, 1, 0, 0, 0, 0), (.ifCond .lt 8, 3, 0, 52, 0, 0), (.aload_n 0, 1, 0, 0, 0, 0), (.iload_n 2, 1, 0, 0, 0, 0), (.invokevirtual 41, 3, 0, 23, 2, 736)]),
  (52, [(.iinc 1 1, 3, 1, 0, 0, 0), (.goto (-25), 3, 0, 30, 0, 0)]),
  (58, [(.return_, 1, 0, 0, 0, 0)])]
/-- X3_firstWithoutCrew -/
def tp_P22 : List (Nat × List tp_Ins) := [(0, [(.iconst (-1), 1, -1, 0, 0, 0), (.istore_n 1, 1, 0, 0, 0, 0), (.iconst 0, 1, 0, 0, 0, 0), (.istore_n 2, 1, 0, 0, 0, 0)]),
  (4, [(.iload_n 2, 1, 0, 0, 0, 0), (.aload_n 0, 1, 0, 0, 0, 0), (.getfield 28, 3, 0, 3, 4, 276), (.if_icmp .ge 40, 3, 0, 49, 0, 0), (.aload_n 0, 1, 0, 0, 0, 0), (.getfield 21, 3, 0, 3, 3, 274), (.iload_n 2, 1, 0, 0, 0, 0), (.iaload, 1, 0, 0, 0, 0), (.iconst (-1), 1, -1, 0, 0, 0), (.if_icmp .ne 24, 3, 0, 43, 0, 0), (.iload_n 1, 1, 0, 0, 0, 0), (.ifCond .lt 18, 3, 0, 41, 0, 0), (.aload_n 0, 1, 0, 0, 0, 0), (.getfield 11, 3, 0, 3, 0, 271), (.iload_n 2, 1, 0, 0, 0, 0), (.iaload, 1, 0, 0, 0, 0), (.aload_n 0, 1, 0, 0, 0, 0), (.getfield 11, 3, 0, 3, 0, 271), (.iload_n 1, 1, 0, 0, 0, 0), (.iaload, 1, 0, 0, 0, 0), (.if_icmp .ge 5, 3, 0, 43, 0, 0)]),
  (41, [(.iload_n 2, 1, 0, 0, 0, 0), (.istore_n 1, 1, 0, 0, 0, 0)]),
  (43, [(.iinc 2 1, 3, 1, 0, 0, 0), (.goto (-42), 3, 0, 4, 0, 0)]),
  (49, [(.iload_n 1, 1, 0, 0, 0, 0), (.ireturn, 1, 0, 0, 0, 0)])]
/-- X3_giveCrew -/
def tp_P23 : List (Nat × List tp_Ins) := [(0, [(.iconst 0, 1, 0, 0, 0, 0), (.istore_n 2, 1, 0, 0, 0, 0)]),
  (2, [(.iload_n 2, 1, 0, 0, 0, 0), (.aload_n 0, 1, 0, 0, 0, 0), (.getfield 34, 3, 0, 3, 5, 278), (.if_icmp .ge 24, 3, 0, 31, 0, 0), (.aload_n 0, 1, 0, 0, 0, 0), (.getfield 18, 3, 0, 3, 2, 273), (.iload_n 2, 1, 0, 0, 0, 0), (.iaload, 1, 0, 0, 0, 0), (.aload_n 0, 1, 0, 0, 0, 0), (.getfield 11, 3, 0, 3, 0, 271), (.iload_n 1, 1, 0, 0, 0, 0), (.iaload, 1, 0, 0, 0, 0), (.if_icmp .le 9, 3, 0, 31, 0, 0), (.iinc 2 1, 3, 1, 0, 0, 0), (.goto (-26), 3, 0, 2, 0, 0)]),
  (31, [(.iload_n 2, 1, 0, 0, 0, 0), (.bipush 10, 2, 10, 0, 0, 0), (.if_icmp .lt 4, 3, 0, 38, 0, 0), (.return_, 1, 0, 0, 0, 0)]),
  (38, [(.aload_n 0, 1, 0, 0, 0, 0), (.getfield 21, 3, 0, 3, 3, 274), (.iload_n 1, 1, 0, 0, 0, 0), (.iload_n 2, 1, 0, 0, 0, 0), (.iastore, 1, 0, 0, 0, 0), (.aload_n 0, 1, 0, 0, 0, 0), (.getfield 18, 3, 0, 3, 2, 273), (.iload_n 2, 1, 0, 0, 0, 0), (.aload_n 0, 1, 0, 0, 0, 0), (.getfield 15, 3, 0, 3, 1, 272), (.iload_n 1, 1, 0, 0, 0, 0), (.iaload, 1, 0, 0, 0, 0), (.aload_n 0, 1, 0, 0, 0, 0), (.getfield 24, 3, 0, 3, 6, 280), (.iadd, 1, 0, 0, 0, 0), (.iastore, 1, 0, 0, 0, 0), (.aload_n 0, 1, 0, 0, 0, 0), (.aload_n 0, 1, 0, 0, 0, 0), (.getfield 34, 3, 0, 3, 5, 278), (.iload_n 2, 1, 0, 0, 0, 0), (.iconst 1, 1, 1, 0, 0, 0), (.iadd, 1, 0, 0, 0, 0), (.invokestatic 45, 3, 0, 900, 2, 740), (.putfield 34, 3, 0, 3, 5, 278), (.return_, 1, 0, 0, 0, 0)])]
/-- X3_minutesOf -/
def tp_P24 : List (Nat × List tp_Ins) := [(0, [(.iconst 0, 1, 0, 0, 0, 0), (.istore_n 2, 1, 0, 0, 0, 0), (.iconst 0, 1, 0, 0, 0, 0), (.istore_n 3, 1, 0, 0, 0, 0)]),
  (4, [(.iload_n 3, 1, 0, 0, 0, 0), (.aload_n 0, 1, 0, 0, 0, 0), (.getfield 28, 3, 0, 3, 4, 276), (.if_icmp .ge 35, 3, 0, 44, 0, 0), (.aload_n 0, 1, 0, 0, 0, 0), (.getfield 21, 3, 0, 3, 3, 274), (.iload_n 3, 1, 0, 0, 0, 0), (.iaload, 1, 0, 0, 0, 0), (.iload_n 1, 1, 0, 0, 0, 0), (.if_icmp .ne 19, 3, 0, 38, 0, 0), (.iload_n 2, 1, 0, 0, 0, 0), (.aload_n 0, 1, 0, 0, 0, 0), (.getfield 15, 3, 0, 3, 1, 272), (.iload_n 3, 1, 0, 0, 0, 0), (.iaload, 1, 0, 0, 0, 0), (.aload_n 0, 1, 0, 0, 0, 0), (.getfield 11, 3, 0, 3, 0, 271), (.iload_n 3, 1, 0, 0, 0, 0), (.iaload, 1, 0, 0, 0, 0), (.isub, 1, 0, 0, 0, 0), (.iadd, 1, 0, 0, 0, 0), (.istore_n 2, 1, 0, 0, 0, 0)]),
  (38, [(.iinc 3 1, 3, 1, 0, 0, 0), (.goto (-37), 3, 0, 4, 0, 0)]),
  (44, [(.iload_n 2, 1, 0, 0, 0, 0), (.ireturn, 1, 0, 0, 0, 0)])]
/-- X3_busiest -/
def tp_P25 : List (Nat × List tp_Ins) := [(0, [(.iconst (-1), 1, -1, 0, 0, 0), (.istore_n 1, 1, 0, 0, 0, 0), (.iconst 0, 1, 0, 0, 0, 0), (.istore_n 2, 1, 0, 0, 0, 0), (.iconst 0, 1, 0, 0, 0, 0), (.istore_n 3, 1, 0, 0, 0, 0)]),
  (6, [(.iload_n 3, 1, 0, 0, 0, 0), (.aload_n 0, 1, 0, 0, 0, 0), (.getfield 34, 3, 0, 3, 5, 278), (.if_icmp .ge 27, 3, 0, 38, 0, 0), (.aload_n 0, 1, 0, 0, 0, 0), (.iload_n 3, 1, 0, 0, 0, 0), (.invokevirtual 51, 3, 0, 24, 2, 761), (.istore 4, 2, 0, 0, 0, 0), (.iload 4, 2, 0, 0, 0, 0), (.iload_n 2, 1, 0, 0, 0, 0), (.if_icmp .le 8, 3, 0, 32, 0, 0), (.iload_n 3, 1, 0, 0, 0, 0), (.istore_n 1, 1, 0, 0, 0, 0), (.iload 4, 2, 0, 0, 0, 0), (.istore_n 2, 1, 0, 0, 0, 0)]),
  (32, [(.iinc 3 1, 3, 1, 0, 0, 0), (.goto (-29), 3, 0, 6, 0, 0)]),
  (38, [(.iload_n 1, 1, 0, 0, 0, 0), (.ireturn, 1, 0, 0, 0, 0)])]
/-- X3_lostWithout -/
def tp_P26 : List (Nat × List tp_Ins) := [(0, [(.iconst 0, 1, 0, 0, 0, 0), (.istore_n 2, 1, 0, 0, 0, 0), (.iconst 0, 1, 0, 0, 0, 0), (.istore_n 3, 1, 0, 0, 0, 0)]),
  (4, [(.iload_n 3, 1, 0, 0, 0, 0), (.aload_n 0, 1, 0, 0, 0, 0), (.getfield 28, 3, 0, 3, 4, 276), (.if_icmp .ge 30, 3, 0, 39, 0, 0), (.aload_n 0, 1, 0, 0, 0, 0), (.getfield 21, 3, 0, 3, 3, 274), (.iload_n 3, 1, 0, 0, 0, 0), (.iaload, 1, 0, 0, 0, 0), (.iload_n 1, 1, 0, 0, 0, 0), (.if_icmp .ne 14, 3, 0, 33, 0, 0), (.aload_n 0, 1, 0, 0, 0, 0), (.iload_n 3, 1, 0, 0, 0, 0), (.invokevirtual 55, 3, 0, 27, 2, 774), (.ifCond .ne 6, 3, 0, 33, 0, 0), (.iinc 2 1, 3, 1, 0, 0, 0)]),
  (33, [(.iinc 3 1, 3, 1, 0, 0, 0), (.goto (-32), 3, 0, 4, 0, 0)]),
  (39, [(.iload_n 2, 1, 0, 0, 0, 0), (.ireturn, 1, 0, 0, 0, 0)])]
/-- X3_anotherCould -/
def tp_P27 : List (Nat × List tp_Ins) := [(0, [(.iconst 0, 1, 0, 0, 0, 0), (.istore_n 2, 1, 0, 0, 0, 0)]),
  (2, [(.iload_n 2, 1, 0, 0, 0, 0), (.aload_n 0, 1, 0, 0, 0, 0), (.getfield 34, 3, 0, 3, 5, 278), (.if_icmp .ge 30, 3, 0, 37, 0, 0), (.iload_n 2, 1, 0, 0, 0, 0), (.aload_n 0, 1, 0, 0, 0, 0), (.getfield 21, 3, 0, 3, 3, 274), (.iload_n 1, 1, 0, 0, 0, 0), (.iaload, 1, 0, 0, 0, 0), (.if_icmp .eq 14, 3, 0, 31, 0, 0), (.aload_n 0, 1, 0, 0, 0, 0), (.iload_n 2, 1, 0, 0, 0, 0), (.iload_n 1, 1, 0, 0, 0, 0), (.invokevirtual 59, 3, 0, 28, 3, 778), (.ifCond .eq 5, 3, 0, 31, 0, 0), (.iconst 1, 1, 1, 0, 0, 0), (.ireturn, 1, 0, 0, 0, 0)]),
  (31, [(.iinc 2 1, 3, 1, 0, 0, 0), (.goto (-32), 3, 0, 2, 0, 0)]),
  (37, [(.iconst 0, 1, 0, 0, 0, 0), (.ireturn, 1, 0, 0, 0, 0)])]
/-- X3_couldHave -/
def tp_P28 : List (Nat × List tp_Ins) := [(0, [(.iconst 0, 1, 0, 0, 0, 0), (.istore_n 3, 1, 0, 0, 0, 0)]),
  (2, [(.iload_n 3, 1, 0, 0, 0, 0), (.aload_n 0, 1, 0, 0, 0, 0), (.getfield 28, 3, 0, 3, 4, 276), (.if_icmp .ge 30, 3, 0, 37, 0, 0), (.aload_n 0, 1, 0, 0, 0, 0), (.getfield 21, 3, 0, 3, 3, 274), (.iload_n 3, 1, 0, 0, 0, 0), (.iaload, 1, 0, 0, 0, 0), (.iload_n 1, 1, 0, 0, 0, 0), (.if_icmp .ne 14, 3, 0, 31, 0, 0), (.aload_n 0, 1, 0, 0, 0, 0), (.iload_n 3, 1, 0, 0, 0, 0), (.iload_n 2, 1, 0, 0, 0, 0), (.invokevirtual 63, 3, 0, 29, 3, 782), (.ifCond .ne 5, 3, 0, 31, 0, 0), (.iconst 0, 1, 0, 0, 0, 0), (.ireturn, 1, 0, 0, 0, 0)]),
  (31, [(.iinc 3 1, 3, 1, 0, 0, 0), (.goto (-32), 3, 0, 2, 0, 0)]),
  (37, [(.iconst 1, 1, 1, 0, 0, 0), (.ireturn, 1, 0, 0, 0, 0)])]
/-- X3_haveRestBetween -/
def tp_P29 : List (Nat × List tp_Ins) := [(0, [(.aload_n 0, 1, 0, 0, 0, 0), (.getfield 15, 3, 0, 3, 1, 272), (.iload_n 1, 1, 0, 0, 0, 0), (.iaload, 1, 0, 0, 0, 0), (.aload_n 0, 1, 0, 0, 0, 0), (.getfield 24, 3, 0, 3, 6, 280), (.iadd, 1, 0, 0, 0, 0), (.aload_n 0, 1, 0, 0, 0, 0), (.getfield 11, 3, 0, 3, 0, 271), (.iload_n 2, 1, 0, 0, 0, 0), (.iaload, 1, 0, 0, 0, 0), (.if_icmp .le 23, 3, 0, 40, 0, 0), (.aload_n 0, 1, 0, 0, 0, 0), (.getfield 15, 3, 0, 3, 1, 272), (.iload_n 2, 1, 0, 0, 0, 0), (.iaload, 1, 0, 0, 0, 0), (.aload_n 0, 1, 0, 0, 0, 0), (.getfield 24, 3, 0, 3, 6, 280), (.iadd, 1, 0, 0, 0, 0), (.aload_n 0, 1, 0, 0, 0, 0), (.getfield 11, 3, 0, 3, 0, 271), (.iload_n 1, 1, 0, 0, 0, 0), (.iaload, 1, 0, 0, 0, 0), (.if_icmp .gt 7, 3, 0, 44, 0, 0)]),
  (40, [(.iconst 1, 1, 1, 0, 0, 0), (.goto 4, 3, 0, 45, 0, 0)]),
  (44, [(.iconst 0, 1, 0, 0, 0, 0)]),
  (45, [(.ireturn, 1, 0, 0, 0, 0)])]
/-- X4_isFull -/
def tp_P30 : List (Nat × List tp_Ins) := [(0, [(.aload_n 0, 1, 0, 0, 0, 0), (.getfield 22, 3, 0, 4, 4, 143), (.sipush 200, 3, 200, 0, 0, 0), (.if_icmp .lt 7, 3, 0, 14, 0, 0), (.iconst 1, 1, 1, 0, 0, 0), (.goto 4, 3, 0, 15, 0, 0)]),
  (14, [(.iconst 0, 1, 0, 0, 0, 0)]),
  (15, [(.ireturn, 1, 0, 0, 0, 0)])]
/-- X4_add -/
def tp_P31 : List (Nat × List tp_Ins) := [(0, [(.aload_n 0, 1, 0, 0, 0, 0), (.invokevirtual 26, 3, 0, 30, 1, 416), (.ifCond .eq 4, 3, 0, 8, 0, 0), (.return_, 1, 0, 0, 0, 0)]),
  (8, [(.aload_n 0, 1, 0, 0, 0, 0), (.getfield 9, 3, 0, 4, 0, 135), (.aload_n 0, 1, 0, 0, 0, 0), (.getfield 22, 3, 0, 4, 4, 143), (.iload_n 1, 1, 0, 0, 0, 0), (.iastore, 1, 0, 0, 0, 0), (.aload_n 0, 1, 0, 0, 0, 0), (.getfield 13, 3, 0, 4, 1, 137), (.aload_n 0, 1, 0, 0, 0, 0), (.getfield 22, 3, 0, 4, 4, 143), (.iload_n 2, 1, 0, 0, 0, 0), (.iastore, 1, 0, 0, 0, 0), (.aload_n 0, 1, 0, 0, 0, 0), (.getfield 16, 3, 0, 4, 2, 139), (.aload_n 0, 1, 0, 0, 0, 0), (.getfield 22, 3, 0, 4, 4, 143), (.iload_n 3, 1, 0, 0, 0, 0), (.iastore, 1, 0, 0, 0, 0), (.aload_n 0, 1, 0, 0, 0, 0), (.getfield 19, 3, 0, 4, 3, 141), (.aload_n 0, 1, 0, 0, 0, 0), (.getfield 22, 3, 0, 4, 4, 143), (.iload 4, 2, 0, 0, 0, 0), (.iastore, 1, 0, 0, 0, 0), (.aload_n 0, 1, 0, 0, 0, 0), (.dup, 1, 0, 0, 0, 0), (.getfield 22, 3, 0, 4, 4, 143), (.iconst 1, 1, 1, 0, 0, 0), (.iadd, 1, 0, 0, 0, 0), (.putfield 22, 3, 0, 4, 4, 143), (.return_, 1, 0, 0, 0, 0)])]
/-- X4_latestStep -/
def tp_P32 : List (Nat × List tp_Ins) := [(0, [(.aload_n 0, 1, 0, 0, 0, 0), (.getfield 22, 3, 0, 4, 4, 143), (.iconst 1, 1, 1, 0, 0, 0), (.isub, 1, 0, 0, 0, 0), (.istore_n 2, 1, 0, 0, 0, 0)]),
  (7, [(.iload_n 2, 1, 0, 0, 0, 0), (.ifCond .lt 26, 3, 0, 34, 0, 0), (.aload_n 0, 1, 0, 0, 0, 0), (.getfield 9, 3, 0, 4, 0, 135), (.iload_n 2, 1, 0, 0, 0, 0), (.iaload, 1, 0, 0, 0, 0), (.iload_n 1, 1, 0, 0, 0, 0), (.if_icmp .ne 10, 3, 0, 28, 0, 0), (.aload_n 0, 1, 0, 0, 0, 0), (.getfield 16, 3, 0, 4, 2, 139), (.iload_n 2, 1, 0, 0, 0, 0), (.iaload, 1, 0, 0, 0, 0), (.ireturn, 1, 0, 0, 0, 0)]),
  (28, [(.iinc 2 (-1), 3, -1, 0, 0, 0), (.goto (-24), 3, 0, 7, 0, 0)]),
  (34, [(.iconst 0, 1, 0, 0, 0, 0), (.ireturn, 1, 0, 0, 0, 0)])]
/-- X4_find -/
def tp_P33 : List (Nat × List tp_Ins) := [(0, [(.iconst 0, 1, 0, 0, 0, 0), (.istore_n 3, 1, 0, 0, 0, 0)]),
  (2, [(.iload_n 3, 1, 0, 0, 0, 0), (.aload_n 0, 1, 0, 0, 0, 0), (.getfield 22, 3, 0, 4, 4, 143), (.if_icmp .ge 31, 3, 0, 38, 0, 0), (.aload_n 0, 1, 0, 0, 0, 0), (.getfield 13, 3, 0, 4, 1, 137), (.iload_n 3, 1, 0, 0, 0, 0), (.iaload, 1, 0, 0, 0, 0), (.iload_n 1, 1, 0, 0, 0, 0), (.if_icmp .ne 15, 3, 0, 32, 0, 0), (.aload_n 0, 1, 0, 0, 0, 0), (.getfield 19, 3, 0, 4, 3, 141), (.iload_n 3, 1, 0, 0, 0, 0), (.iaload, 1, 0, 0, 0, 0), (.iload_n 2, 1, 0, 0, 0, 0), (.if_icmp .ne 5, 3, 0, 32, 0, 0), (.iload_n 3, 1, 0, 0, 0, 0), (.ireturn, 1, 0, 0, 0, 0)]),
  (32, [(.iinc 3 1, 3, 1, 0, 0, 0), (.goto (-33), 3, 0, 2, 0, 0)]),
  (38, [(.iconst (-1), 1, -1, 0, 0, 0), (.ireturn, 1, 0, 0, 0, 0)])]
/-- X4_anySold -/
def tp_P34 : List (Nat × List tp_Ins) := [(0, [(.iconst 0, 1, 0, 0, 0, 0), (.istore 4, 2, 0, 0, 0, 0)]),
  (3, [(.iload 4, 2, 0, 0, 0, 0), (.aload_n 0, 1, 0, 0, 0, 0), (.getfield 22, 3, 0, 4, 4, 143), (.if_icmp .ge 44, 3, 0, 53, 0, 0), (.aload_n 0, 1, 0, 0, 0, 0), (.getfield 13, 3, 0, 4, 1, 137), (.iload 4, 2, 0, 0, 0, 0), (.iaload, 1, 0, 0, 0, 0), (.iload_n 1, 1, 0, 0, 0, 0), (.if_icmp .ne 27, 3, 0, 47, 0, 0), (.aload_n 0, 1, 0, 0, 0, 0), (.getfield 19, 3, 0, 4, 3, 141), (.iload 4, 2, 0, 0, 0, 0), (.iaload, 1, 0, 0, 0, 0), (.iload_n 2, 1, 0, 0, 0, 0), (.if_icmp .lt 16, 3, 0, 47, 0, 0), (.aload_n 0, 1, 0, 0, 0, 0), (.getfield 19, 3, 0, 4, 3, 141), (.iload 4, 2, 0, 0, 0, 0), (.iaload, 1, 0, 0, 0, 0), (.iload_n 3, 1, 0, 0, 0, 0), (.if_icmp .ge 5, 3, 0, 47, 0, 0), (.iconst 1, 1, 1, 0, 0, 0), (.ireturn, 1, 0, 0, 0, 0)]),
  (47, [(.iinc 4 1, 3, 1, 0, 0, 0), (.goto (-47), 3, 0, 3, 0, 0)]),
  (53, [(.iconst 0, 1, 0, 0, 0, 0), (.ireturn, 1, 0, 0, 0, 0)])]
/-- X4_beyond -/
def tp_P35 : List (Nat × List tp_Ins) := [(0, [(.iload_n 2, 1, 0, 0, 0, 0), (.istore_n 3, 1, 0, 0, 0, 0), (.iconst 0, 1, 0, 0, 0, 0), (.istore 4, 2, 0, 0, 0, 0)]),
  (5, [(.iload 4, 2, 0, 0, 0, 0), (.aload_n 0, 1, 0, 0, 0, 0), (.getfield 22, 3, 0, 4, 4, 143), (.if_icmp .ge 34, 3, 0, 45, 0, 0), (.aload_n 0, 1, 0, 0, 0, 0), (.getfield 13, 3, 0, 4, 1, 137), (.iload 4, 2, 0, 0, 0, 0), (.iaload, 1, 0, 0, 0, 0), (.iload_n 1, 1, 0, 0, 0, 0), (.if_icmp .ne 17, 3, 0, 39, 0, 0), (.aload_n 0, 1, 0, 0, 0, 0), (.getfield 19, 3, 0, 4, 3, 141), (.iload 4, 2, 0, 0, 0, 0), (.iaload, 1, 0, 0, 0, 0), (.iload_n 3, 1, 0, 0, 0, 0), (.if_icmp .ne 6, 3, 0, 39, 0, 0), (.iinc 3 1, 3, 1, 0, 0, 0)]),
  (39, [(.iinc 4 1, 3, 1, 0, 0, 0), (.goto (-37), 3, 0, 5, 0, 0)]),
  (45, [(.iload_n 3, 1, 0, 0, 0, 0), (.ireturn, 1, 0, 0, 0, 0)])]
/-- X4_greatestSold -/
def tp_P36 : List (Nat × List tp_Ins) := [(0, [(.iconst (-1), 1, -1, 0, 0, 0), (.istore_n 2, 1, 0, 0, 0, 0), (.iconst 0, 1, 0, 0, 0, 0), (.istore_n 3, 1, 0, 0, 0, 0)]),
  (4, [(.iload_n 3, 1, 0, 0, 0, 0), (.aload_n 0, 1, 0, 0, 0, 0), (.getfield 22, 3, 0, 4, 4, 143), (.if_icmp .ge 30, 3, 0, 39, 0, 0), (.aload_n 0, 1, 0, 0, 0, 0), (.getfield 13, 3, 0, 4, 1, 137), (.iload_n 3, 1, 0, 0, 0, 0), (.iaload, 1, 0, 0, 0, 0), (.iload_n 1, 1, 0, 0, 0, 0), (.if_icmp .ne 14, 3, 0, 33, 0, 0), (.iload_n 2, 1, 0, 0, 0, 0), (.aload_n 0, 1, 0, 0, 0, 0), (.getfield 19, 3, 0, 4, 3, 141), (.iload_n 3, 1, 0, 0, 0, 0), (.iaload, 1, 0, 0, 0, 0), (.invokestatic 30, 3, 0, 900, 2, 536), (.istore_n 2, 1, 0, 0, 0, 0)]),
  (33, [(.iinc 3 1, 3, 1, 0, 0, 0), (.goto (-32), 3, 0, 4, 0, 0)]),
  (39, [(.iload_n 2, 1, 0, 0, 0, 0), (.ireturn, 1, 0, 0, 0, 0)])]
/-- X4_howMany -/
def tp_P37 : List (Nat × List tp_Ins) := [(0, [(.iconst 0, 1, 0, 0, 0, 0), (.istore_n 3, 1, 0, 0, 0, 0), (.iconst 0, 1, 0, 0, 0, 0), (.istore 4, 2, 0, 0, 0, 0)]),
  (5, [(.iload 4, 2, 0, 0, 0, 0), (.aload_n 0, 1, 0, 0, 0, 0), (.getfield 22, 3, 0, 4, 4, 143), (.if_icmp .ge 23, 3, 0, 34, 0, 0), (.aload_n 0, 1, 0, 0, 0, 0), (.iload 4, 2, 0, 0, 0, 0), (.iload_n 1, 1, 0, 0, 0, 0), (.iload_n 2, 1, 0, 0, 0, 0), (.invokevirtual 36, 3, 0, 40, 4, 471), (.ifCond .eq 6, 3, 0, 28, 0, 0), (.iinc 3 1, 3, 1, 0, 0, 0)]),
  (28, [(.iinc 4 1, 3, 1, 0, 0, 0), (.goto (-26), 3, 0, 5, 0, 0)]),
  (34, [(.iload_n 3, 1, 0, 0, 0, 0), (.ireturn, 1, 0, 0, 0, 0)])]
/-- X4_firstOf -/
def tp_P38 : List (Nat × List tp_Ins) := [(0, [(.iconst 0, 1, 0, 0, 0, 0), (.istore_n 3, 1, 0, 0, 0, 0)]),
  (2, [(.iload_n 3, 1, 0, 0, 0, 0), (.aload_n 0, 1, 0, 0, 0, 0), (.getfield 22, 3, 0, 4, 4, 143), (.if_icmp .ge 21, 3, 0, 28, 0, 0), (.aload_n 0, 1, 0, 0, 0, 0), (.iload_n 3, 1, 0, 0, 0, 0), (.iload_n 1, 1, 0, 0, 0, 0), (.iload_n 2, 1, 0, 0, 0, 0), (.invokevirtual 36, 3, 0, 40, 4, 471), (.ifCond .eq 5, 3, 0, 22, 0, 0), (.iload_n 3, 1, 0, 0, 0, 0), (.ireturn, 1, 0, 0, 0, 0)]),
  (22, [(.iinc 3 1, 3, 1, 0, 0, 0), (.goto (-23), 3, 0, 2, 0, 0)]),
  (28, [(.iconst (-1), 1, -1, 0, 0, 0), (.ireturn, 1, 0, 0, 0, 0)])]
/-- X4_lastOf -/
def tp_P39 : List (Nat × List tp_Ins) := [(0, [(.aload_n 0, 1, 0, 0, 0, 0), (.getfield 22, 3, 0, 4, 4, 143), (.iconst 1, 1, 1, 0, 0, 0), (.isub, 1, 0, 0, 0, 0), (.istore_n 3, 1, 0, 0, 0, 0)]),
  (7, [(.iload_n 3, 1, 0, 0, 0, 0), (.ifCond .lt 21, 3, 0, 29, 0, 0), (.aload_n 0, 1, 0, 0, 0, 0), (.iload_n 3, 1, 0, 0, 0, 0), (.iload_n 1, 1, 0, 0, 0, 0), (.iload_n 2, 1, 0, 0, 0, 0), (.invokevirtual 36, 3, 0, 40, 4, 471), (.ifCond .eq 5, 3, 0, 23, 0, 0), (.iload_n 3, 1, 0, 0, 0, 0), (.ireturn, 1, 0, 0, 0, 0)]),
  (23, [(.iinc 3 (-1), 3, -1, 0, 0, 0), (.goto (-19), 3, 0, 7, 0, 0)]),
  (29, [(.iconst (-1), 1, -1, 0, 0, 0), (.ireturn, 1, 0, 0, 0, 0)])]
/-- X4_isOf -/
def tp_P40 : List (Nat × List tp_Ins) := [(0, [(.aload_n 0, 1, 0, 0, 0, 0), (.getfield 9, 3, 0, 4, 0, 135), (.iload_n 1, 1, 0, 0, 0, 0), (.iaload, 1, 0, 0, 0, 0), (.iload_n 2, 1, 0, 0, 0, 0), (.if_icmp .ne 17, 3, 0, 24, 0, 0), (.aload_n 0, 1, 0, 0, 0, 0), (.getfield 13, 3, 0, 4, 1, 137), (.iload_n 1, 1, 0, 0, 0, 0), (.iaload, 1, 0, 0, 0, 0), (.iload_n 3, 1, 0, 0, 0, 0), (.if_icmp .ne 7, 3, 0, 24, 0, 0), (.iconst 1, 1, 1, 0, 0, 0), (.goto 4, 3, 0, 25, 0, 0)]),
  (24, [(.iconst 0, 1, 0, 0, 0, 0)]),
  (25, [(.ireturn, 1, 0, 0, 0, 0)])]
/-- X5_isNothing -/
def tp_P41 : List (Nat × List tp_Ins) := [(0, [(.aload_n 0, 1, 0, 0, 0, 0), (.getfield 13, 3, 0, 5, 2, 167), (.iconst (-1), 1, -1, 0, 0, 0), (.if_icmp .ne 7, 3, 0, 12, 0, 0), (.iconst 1, 1, 1, 0, 0, 0), (.goto 4, 3, 0, 13, 0, 0)]),
  (12, [(.iconst 0, 1, 0, 0, 0, 0)]),
  (13, [(.ireturn, 1, 0, 0, 0, 0)])]
/-- X5_hasCell -/
def tp_P42 : List (Nat × List tp_Ins) := [(0, [(.iload_n 1, 1, 0, 0, 0, 0), (.ifCond .lt 15, 3, 0, 16, 0, 0), (.iload_n 1, 1, 0, 0, 0, 0), (.aload_n 0, 1, 0, 0, 0, 0), (.getfield 13, 3, 0, 5, 2, 167), (.if_icmp .ge 7, 3, 0, 16, 0, 0), (.iconst 1, 1, 1, 0, 0, 0), (.goto 4, 3, 0, 17, 0, 0)]),
  (16, [(.iconst 0, 1, 0, 0, 0, 0)]),
  (17, [(.ireturn, 1, 0, 0, 0, 0)])]
/-- X5_renew -/
def tp_P43 : List (Nat × List tp_Ins) := [(0, [(.aload_n 0, 1, 0, 0, 0, 0), (.iload_n 1, 1, 0, 0, 0, 0), (.putfield 17, 3, 0, 5, 1, 165), (.aload_n 0, 1, 0, 0, 0, 0), (.iload_n 2, 1, 0, 0, 0, 0), (.putfield 13, 3, 0, 5, 2, 167), (.iconst 0, 1, 0, 0, 0, 0), (.istore_n 3, 1, 0, 0, 0, 0)]),
  (12, [(.iload_n 3, 1, 0, 0, 0, 0), (.bipush 64, 2, 64, 0, 0, 0), (.if_icmp .ge 16, 3, 0, 31, 0, 0), (.aload_n 0, 1, 0, 0, 0, 0), (.getfield 9, 3, 0, 5, 0, 163), (.iload_n 3, 1, 0, 0, 0, 0), (.iconst 0, 1, 0, 0, 0, 0), (.iastore, 1, 0, 0, 0, 0), (.iinc 3 1, 3, 1, 0, 0, 0), (.goto (-16), 3, 0, 12, 0, 0)]),
  (31, [(.return_, 1, 0, 0, 0, 0)])]
/-- X5_write -/
def tp_P44 : List (Nat × List tp_Ins) := [(0, [(.aload_n 0, 1, 0, 0, 0, 0), (.iload_n 1, 1, 0, 0, 0, 0), (.invokevirtual 20, 3, 0, 42, 2, 449), (.ifCond .ne 4, 3, 0, 9, 0, 0), (.return_, 1, 0, 0, 0, 0)]),
  (9, [(.aload_n 0, 1, 0, 0, 0, 0), (.getfield 17, 3, 0, 5, 1, 165), (.lookupswitch 49 #[(0, 27), (1, 38)], 27, 0, 0, 0, 0)]),
  (40, [(.aload_n 0, 1, 0, 0, 0, 0), (.getfield 9, 3, 0, 5, 0, 163), (.iload_n 1, 1, 0, 0, 0, 0), (.iload_n 2, 1, 0, 0, 0, 0), (.i2b, 1, 0, 0, 0, 0), (.iastore, 1, 0, 0, 0, 0), (.goto 21, 3, 0, 69, 0, 0)]),
  (51, [(.aload_n 0, 1, 0, 0, 0, 0), (.getfield 9, 3, 0, 5, 0, 163), (.iload_n 1, 1, 0, 0, 0, 0), (.iload_n 2, 1, 0, 0, 0, 0), (.i2s, 1, 0, 0, 0, 0), (.iastore, 1, 0, 0, 0, 0), (.goto 10, 3, 0, 69, 0, 0)]),
  (62, [(.aload_n 0, 1, 0, 0, 0, 0), (.getfield 9, 3, 0, 5, 0, 163), (.iload_n 1, 1, 0, 0, 0, 0), (.iload_n 2, 1, 0, 0, 0, 0), (.iastore, 1, 0, 0, 0, 0)]),
  (69, [(.return_, 1, 0, 0, 0, 0)])]
/-- X6_append -/
def tp_P45 : List (Nat × List tp_Ins) := [(0, [(.aload_n 0, 1, 0, 0, 0, 0), (.getfield 15, 3, 0, 6, 1, 189), (.bipush 8, 2, 8, 0, 0, 0), (.iadd, 1, 0, 0, 0, 0), (.sipush 200, 3, 200, 0, 0, 0), (.if_icmp .le 6, 3, 0, 16, 0, 0), (.bipush (-3), 2, -3, 0, 0, 0), (.ireturn, 1, 0, 0, 0, 0)]),
  (16, [(.bipush 56, 2, 56, 0, 0, 0), (.istore_n 3, 1, 0, 0, 0, 0)]),
  (19, [(.iload_n 3, 1, 0, 0, 0, 0), (.ifCond .lt 33, 3, 0, 53, 0, 0), (.aload_n 0, 1, 0, 0, 0, 0), (.getfield 11, 3, 0, 6, 0, 188), (.aload_n 0, 1, 0, 0, 0, 0), (.getfield 15, 3, 0, 6, 1, 189), (.lload_n 1, 1, 0, 0, 0, 0), (.iload_n 3, 1, 0, 0, 0, 0), (.lushr, 1, 0, 0, 0, 0), (.l2i, 1, 0, 0, 0, 0), (.i2b, 1, 0, 0, 0, 0), (.bastore, 1, 0, 0, 0, 0), (.aload_n 0, 1, 0, 0, 0, 0), (.dup, 1, 0, 0, 0, 0), (.getfield 15, 3, 0, 6, 1, 189), (.iconst 1, 1, 1, 0, 0, 0), (.iadd, 1, 0, 0, 0, 0), (.putfield 15, 3, 0, 6, 1, 189), (.iinc 3 (-8), 3, -8, 0, 0, 0), (.goto (-31), 3, 0, 19, 0, 0)]),
  (53, [(.aload_n 0, 1, 0, 0, 0, 0), (.getfield 15, 3, 0, 6, 1, 189), (.ireturn, 1, 0, 0, 0, 0)])]
/-- X6_rewind -/
def tp_P46 : List (Nat × List tp_Ins) := [(0, [(.aload_n 0, 1, 0, 0, 0, 0), (.iconst 0, 1, 0, 0, 0, 0), (.putfield 19, 3, 0, 6, 4, 196), (.return_, 1, 0, 0, 0, 0)])]
/-- X6_readToken -/
def tp_P47 : List (Nat × List tp_Ins) := [(0, [(.aload_n 0, 1, 0, 0, 0, 0), (.getfield 19, 3, 0, 6, 4, 196), (.aload_n 0, 1, 0, 0, 0, 0), (.getfield 15, 3, 0, 6, 1, 189), (.if_icmp .ge 30, 3, 0, 38, 0, 0), (.aload_n 0, 1, 0, 0, 0, 0), (.getfield 11, 3, 0, 6, 0, 188), (.aload_n 0, 1, 0, 0, 0, 0), (.getfield 19, 3, 0, 6, 4, 196), (.baload, 1, 0, 0, 0, 0), (.bipush 32, 2, 32, 0, 0, 0), (.if_icmp .ne 16, 3, 0, 38, 0, 0), (.aload_n 0, 1, 0, 0, 0, 0), (.dup, 1, 0, 0, 0, 0), (.getfield 19, 3, 0, 6, 4, 196), (.iconst 1, 1, 1, 0, 0, 0), (.iadd, 1, 0, 0, 0, 0), (.putfield 19, 3, 0, 6, 4, 196), (.goto (-35), 3, 0, 0, 0, 0)]),
  (38, [(.aload_n 0, 1, 0, 0, 0, 0), (.aload_n 0, 1, 0, 0, 0, 0), (.getfield 19, 3, 0, 6, 4, 196), (.putfield 22, 3, 0, 6, 2, 193), (.aload_n 0, 1, 0, 0, 0, 0), (.getfield 19, 3, 0, 6, 4, 196), (.aload_n 0, 1, 0, 0, 0, 0), (.getfield 15, 3, 0, 6, 1, 189), (.if_icmp .lt 5, 3, 0, 59, 0, 0), (.iconst 1, 1, 1, 0, 0, 0), (.ireturn, 1, 0, 0, 0, 0)]),
  (59, [(.aload_n 0, 1, 0, 0, 0, 0), (.aload_n 0, 1, 0, 0, 0, 0), (.getfield 19, 3, 0, 6, 4, 196), (.invokevirtual 25, 3, 0, 50, 2, 581), (.ifCond .eq 8, 3, 0, 75, 0, 0), (.aload_n 0, 1, 0, 0, 0, 0), (.invokevirtual 29, 3, 0, 48, 1, 585), (.ireturn, 1, 0, 0, 0, 0)]),
  (75, [(.aload_n 0, 1, 0, 0, 0, 0), (.aload_n 0, 1, 0, 0, 0, 0), (.getfield 19, 3, 0, 6, 4, 196), (.invokevirtual 33, 3, 0, 51, 2, 644), (.ifCond .eq 8, 3, 0, 91, 0, 0), (.aload_n 0, 1, 0, 0, 0, 0), (.invokevirtual 36, 3, 0, 49, 1, 648), (.ireturn, 1, 0, 0, 0, 0)]),
  (91, [(.aload_n 0, 1, 0, 0, 0, 0), (.getfield 11, 3, 0, 6, 0, 188), (.aload_n 0, 1, 0, 0, 0, 0), (.dup, 1, 0, 0, 0, 0), (.getfield 19, 3, 0, 6, 4, 196), (.dup_x1, 1, 0, 0, 0, 0), (.iconst 1, 1, 1, 0, 0, 0), (.iadd, 1, 0, 0, 0, 0), (.putfield 19, 3, 0, 6, 4, 196), (.baload, 1, 0, 0, 0, 0), (.bipush 59, 2, 59, 0, 0, 0), (.if_icmp .ne 7, 3, 0, 116, 0, 0), (.iconst 4, 1, 4, 0, 0, 0), (.goto 4, 3, 0, 117, 0, 0)]),
  (116, [(.iconst 0, 1, 0, 0, 0, 0)]),
  (117, [(.ireturn, 1, 0, 0, 0, 0)])]
/-- X6_readName -/
def tp_P48 : List (Nat × List tp_Ins) := [(0, [(.aload_n 0, 1, 0, 0, 0, 0), (.getfield 19, 3, 0, 6, 4, 196), (.aload_n 0, 1, 0, 0, 0, 0), (.getfield 15, 3, 0, 6, 1, 189), (.if_icmp .ge 27, 3, 0, 35, 0, 0), (.aload_n 0, 1, 0, 0, 0, 0), (.aload_n 0, 1, 0, 0, 0, 0), (.getfield 19, 3, 0, 6, 4, 196), (.invokevirtual 25, 3, 0, 50, 2, 581), (.ifCond .eq 16, 3, 0, 35, 0, 0), (.aload_n 0, 1, 0, 0, 0, 0), (.dup, 1, 0, 0, 0, 0), (.getfield 19, 3, 0, 6, 4, 196), (.iconst 1, 1, 1, 0, 0, 0), (.iadd, 1, 0, 0, 0, 0), (.putfield 19, 3, 0, 6, 4, 196), (.goto (-32), 3, 0, 0, 0, 0)]),
  (35, [(.aload_n 0, 1, 0, 0, 0, 0), (.ldc 39, 2, 0, 94, 0, 589), (.invokevirtual 41, 3, 0, 52, 2, 590), (.ifCond .eq 10, 3, 0, 51, 0, 0), (.aload_n 0, 1, 0, 0, 0, 0), (.iconst 0, 1, 0, 0, 0, 0), (.putfield 47, 3, 0, 6, 3, 195), (.iconst 2, 1, 2, 0, 0, 0), (.ireturn, 1, 0, 0, 0, 0)]),
  (51, [(.aload_n 0, 1, 0, 0, 0, 0), (.ldc 50, 2, 0, 95, 0, 642), (.invokevirtual 41, 3, 0, 52, 2, 590), (.ifCond .eq 10, 3, 0, 67, 0, 0), (.aload_n 0, 1, 0, 0, 0, 0), (.iconst 1, 1, 1, 0, 0, 0), (.putfield 47, 3, 0, 6, 3, 195), (.iconst 2, 1, 2, 0, 0, 0), (.ireturn, 1, 0, 0, 0, 0)]),
  (67, [(.aload_n 0, 1, 0, 0, 0, 0), (.iconst 2, 1, 2, 0, 0, 0), (.putfield 47, 3, 0, 6, 3, 195), (.aload_n 0, 1, 0, 0, 0, 0), (.ldc 52, 2, 0, 96, 0, 643), (.invokevirtual 41, 3, 0, 52, 2, 590), (.ifCond .eq 7, 3, 0, 85, 0, 0), (.iconst 2, 1, 2, 0, 0, 0), (.goto 4, 3, 0, 86, 0, 0)]),
  (85, [(.iconst 0, 1, 0, 0, 0, 0)]),
  (86, [(.ireturn, 1, 0, 0, 0, 0)])]
/-- X6_readNumber -/
def tp_P49 : List (Nat × List tp_Ins) := [(0, [(.aload_n 0, 1, 0, 0, 0, 0), (.iconst 0, 1, 0, 0, 0, 0), (.putfield 47, 3, 0, 6, 3, 195)]),
  (5, [(.aload_n 0, 1, 0, 0, 0, 0), (.getfield 19, 3, 0, 6, 4, 196), (.aload_n 0, 1, 0, 0, 0, 0), (.getfield 15, 3, 0, 6, 1, 189), (.if_icmp .ge 64, 3, 0, 77, 0, 0), (.aload_n 0, 1, 0, 0, 0, 0), (.aload_n 0, 1, 0, 0, 0, 0), (.getfield 19, 3, 0, 6, 4, 196), (.invokevirtual 33, 3, 0, 51, 2, 644), (.ifCond .eq 53, 3, 0, 77, 0, 0), (.aload_n 0, 1, 0, 0, 0, 0), (.getfield 19, 3, 0, 6, 4, 196), (.aload_n 0, 1, 0, 0, 0, 0), (.getfield 22, 3, 0, 6, 2, 193), (.isub, 1, 0, 0, 0, 0), (.iconst 4, 1, 4, 0, 0, 0), (.if_icmp .ge 27, 3, 0, 64, 0, 0), (.aload_n 0, 1, 0, 0, 0, 0), (.aload_n 0, 1, 0, 0, 0, 0), (.getfield 47, 3, 0, 6, 3, 195), (.bipush 10, 2, 10, 0, 0, 0), (.imul, 1, 0, 0, 0, 0), (.aload_n 0, 1, 0, 0, 0, 0), (.getfield 11, 3, 0, 6, 0, 188), (.aload_n 0, 1, 0, 0, 0, 0), (.getfield 19, 3, 0, 6, 4, 196), (.baload, 1, 0, 0, 0, 0), (.bipush 48, 2, 48, 0, 0, 0), (.isub, 1, 0, 0, 0, 0), (.iadd, 1, 0, 0, 0, 0), (.putfield 47, 3, 0, 6, 3, 195)]),
  (64, [(.aload_n 0, 1, 0, 0, 0, 0), (.dup, 1, 0, 0, 0, 0), (.getfield 19, 3, 0, 6, 4, 196), (.iconst 1, 1, 1, 0, 0, 0), (.iadd, 1, 0, 0, 0, 0), (.putfield 19, 3, 0, 6, 4, 196), (.goto (-69), 3, 0, 5, 0, 0)]),
  (77, [(.aload_n 0, 1, 0, 0, 0, 0), (.getfield 19, 3, 0, 6, 4, 196), (.aload_n 0, 1, 0, 0, 0, 0), (.getfield 22, 3, 0, 6, 2, 193), (.isub, 1, 0, 0, 0, 0), (.iconst 4, 1, 4, 0, 0, 0), (.if_icmp .gt 7, 3, 0, 94, 0, 0), (.iconst 3, 1, 3, 0, 0, 0), (.goto 4, 3, 0, 95, 0, 0)]),
  (94, [(.iconst 0, 1, 0, 0, 0, 0)]),
  (95, [(.ireturn, 1, 0, 0, 0, 0)])]
/-- X6_isLetter -/
def tp_P50 : List (Nat × List tp_Ins) := [(0, [(.aload_n 0, 1, 0, 0, 0, 0), (.getfield 11, 3, 0, 6, 0, 188), (.iload_n 1, 1, 0, 0, 0, 0), (.baload, 1, 0, 0, 0, 0), (.bipush 97, 2, 97, 0, 0, 0), (.if_icmp .lt 18, 3, 0, 26, 0, 0), (.aload_n 0, 1, 0, 0, 0, 0), (.getfield 11, 3, 0, 6, 0, 188), (.iload_n 1, 1, 0, 0, 0, 0), (.baload, 1, 0, 0, 0, 0), (.bipush 122, 2, 122, 0, 0, 0), (.if_icmp .gt 7, 3, 0, 26, 0, 0), (.iconst 1, 1, 1, 0, 0, 0), (.goto 4, 3, 0, 27, 0, 0)]),
  (26, [(.iconst 0, 1, 0, 0, 0, 0)]),
  (27, [(.ireturn, 1, 0, 0, 0, 0)])]
/-- X6_isFigure -/
def tp_P51 : List (Nat × List tp_Ins) := [(0, [(.aload_n 0, 1, 0, 0, 0, 0), (.getfield 11, 3, 0, 6, 0, 188), (.iload_n 1, 1, 0, 0, 0, 0), (.baload, 1, 0, 0, 0, 0), (.bipush 48, 2, 48, 0, 0, 0), (.if_icmp .lt 18, 3, 0, 26, 0, 0), (.aload_n 0, 1, 0, 0, 0, 0), (.getfield 11, 3, 0, 6, 0, 188), (.iload_n 1, 1, 0, 0, 0, 0), (.baload, 1, 0, 0, 0, 0), (.bipush 57, 2, 57, 0, 0, 0), (.if_icmp .gt 7, 3, 0, 26, 0, 0), (.iconst 1, 1, 1, 0, 0, 0), (.goto 4, 3, 0, 27, 0, 0)]),
  (26, [(.iconst 0, 1, 0, 0, 0, 0)]),
  (27, [(.ireturn, 1, 0, 0, 0, 0)])]
/-- X6_isSpelled -/
def tp_P52 : List (Nat × List tp_Ins) := [(0, [(.aload_n 0, 1, 0, 0, 0, 0), (.getfield 19, 3, 0, 6, 4, 196), (.aload_n 0, 1, 0, 0, 0, 0), (.getfield 22, 3, 0, 6, 2, 193), (.isub, 1, 0, 0, 0, 0), (.aload_n 1, 1, 0, 0, 0, 0), (.invokevirtual 54, 3, 0, 149, 1, 594), (.if_icmp .eq 5, 3, 0, 18, 0, 0), (.iconst 0, 1, 0, 0, 0, 0), (.ireturn, 1, 0, 0, 0, 0)]),
  (18, [(.iconst 0, 1, 0, 0, 0, 0), (.istore_n 2, 1, 0, 0, 0, 0)]),
  (20, [(.iload_n 2, 1, 0, 0, 0, 0), (.aload_n 1, 1, 0, 0, 0, 0), (.invokevirtual 54, 3, 0, 149, 1, 594), (.if_icmp .ge 30, 3, 0, 55, 0, 0), (.aload_n 0, 1, 0, 0, 0, 0), (.getfield 11, 3, 0, 6, 0, 188), (.aload_n 0, 1, 0, 0, 0, 0), (.getfield 22, 3, 0, 6, 2, 193), (.iload_n 2, 1, 0, 0, 0, 0), (.iadd, 1, 0, 0, 0, 0), (.baload, 1, 0, 0, 0, 0), (.aload_n 1, 1, 0, 0, 0, 0), (.iload_n 2, 1, 0, 0, 0, 0), (.invokevirtual 58, 3, 0, 150, 2, 604), (.if_icmp .eq 5, 3, 0, 49, 0, 0), (.iconst 0, 1, 0, 0, 0, 0), (.ireturn, 1, 0, 0, 0, 0)]),
  (49, [(.iinc 2 1, 3, 1, 0, 0, 0), (.goto (-32), 3, 0, 20, 0, 0)]),
  (55, [(.iconst 1, 1, 1, 0, 0, 0), (.ireturn, 1, 0, 0, 0, 0)])]
/-- X7_has -/
def tp_P53 : List (Nat × List tp_Ins) := [(0, [(.iload_n 1, 1, 0, 0, 0, 0), (.ifCond .lt 15, 3, 0, 16, 0, 0), (.iload_n 1, 1, 0, 0, 0, 0), (.aload_n 0, 1, 0, 0, 0, 0), (.getfield 22, 3, 0, 7, 3, 117), (.if_icmp .ge 7, 3, 0, 16, 0, 0), (.iconst 1, 1, 1, 0, 0, 0), (.goto 4, 3, 0, 17, 0, 0)]),
  (16, [(.iconst 0, 1, 0, 0, 0, 0)]),
  (17, [(.ireturn, 1, 0, 0, 0, 0)])]
/-- X7_add -/
def tp_P54 : List (Nat × List tp_Ins) := [(0, [(.aload_n 0, 1, 0, 0, 0, 0), (.getfield 22, 3, 0, 7, 3, 117), (.bipush 16, 2, 16, 0, 0, 0), (.if_icmp .lt 6, 3, 0, 12, 0, 0), (.bipush (-3), 2, -3, 0, 0, 0), (.ireturn, 1, 0, 0, 0, 0)]),
  (12, [(.aload_n 0, 1, 0, 0, 0, 0), (.getfield 11, 3, 0, 7, 0, 111), (.aload_n 0, 1, 0, 0, 0, 0), (.getfield 22, 3, 0, 7, 3, 117), (.iload_n 1, 1, 0, 0, 0, 0), (.iastore, 1, 0, 0, 0, 0), (.aload_n 0, 1, 0, 0, 0, 0), (.getfield 15, 3, 0, 7, 1, 113), (.aload_n 0, 1, 0, 0, 0, 0), (.getfield 22, 3, 0, 7, 3, 117), (.iload_n 2, 1, 0, 0, 0, 0), (.bastore, 1, 0, 0, 0, 0), (.aload_n 0, 1, 0, 0, 0, 0), (.getfield 19, 3, 0, 7, 2, 115), (.aload_n 0, 1, 0, 0, 0, 0), (.getfield 22, 3, 0, 7, 3, 117), (.iconst 1, 1, 1, 0, 0, 0), (.bastore, 1, 0, 0, 0, 0), (.aload_n 0, 1, 0, 0, 0, 0), (.dup, 1, 0, 0, 0, 0), (.getfield 22, 3, 0, 7, 3, 117), (.dup_x1, 1, 0, 0, 0, 0), (.iconst 1, 1, 1, 0, 0, 0), (.iadd, 1, 0, 0, 0, 0), (.putfield 22, 3, 0, 7, 3, 117), (.ireturn, 1, 0, 0, 0, 0)])]
/-- X7_hasOpen -/
def tp_P55 : List (Nat × List tp_Ins) := [(0, [(.iconst 0, 1, 0, 0, 0, 0), (.istore_n 2, 1, 0, 0, 0, 0)]),
  (2, [(.iload_n 2, 1, 0, 0, 0, 0), (.aload_n 0, 1, 0, 0, 0, 0), (.getfield 22, 3, 0, 7, 3, 117), (.if_icmp .ge 30, 3, 0, 37, 0, 0), (.aload_n 0, 1, 0, 0, 0, 0), (.getfield 19, 3, 0, 7, 2, 115), (.iload_n 2, 1, 0, 0, 0, 0), (.baload, 1, 0, 0, 0, 0), (.ifCond .eq 15, 3, 0, 31, 0, 0), (.aload_n 0, 1, 0, 0, 0, 0), (.getfield 11, 3, 0, 7, 0, 111), (.iload_n 2, 1, 0, 0, 0, 0), (.iaload, 1, 0, 0, 0, 0), (.iload_n 1, 1, 0, 0, 0, 0), (.if_icmp .ne 5, 3, 0, 31, 0, 0), (.iconst 1, 1, 1, 0, 0, 0), (.ireturn, 1, 0, 0, 0, 0)]),
  (31, [(.iinc 2 1, 3, 1, 0, 0, 0), (.goto (-32), 3, 0, 2, 0, 0)]),
  (37, [(.iconst 0, 1, 0, 0, 0, 0), (.ireturn, 1, 0, 0, 0, 0)])]
/-- X7_howManyOpen -/
def tp_P56 : List (Nat × List tp_Ins) := [(0, [(.iconst 0, 1, 0, 0, 0, 0), (.istore_n 1, 1, 0, 0, 0, 0), (.iconst 0, 1, 0, 0, 0, 0), (.istore_n 2, 1, 0, 0, 0, 0)]),
  (4, [(.iload_n 2, 1, 0, 0, 0, 0), (.aload_n 0, 1, 0, 0, 0, 0), (.getfield 22, 3, 0, 7, 3, 117), (.if_icmp .ge 21, 3, 0, 30, 0, 0), (.aload_n 0, 1, 0, 0, 0, 0), (.getfield 19, 3, 0, 7, 2, 115), (.iload_n 2, 1, 0, 0, 0, 0), (.baload, 1, 0, 0, 0, 0), (.ifCond .eq 6, 3, 0, 24, 0, 0), (.iinc 1 1, 3, 1, 0, 0, 0)]),
  (24, [(.iinc 2 1, 3, 1, 0, 0, 0), (.goto (-23), 3, 0, 4, 0, 0)]),
  (30, [(.iload_n 1, 1, 0, 0, 0, 0), (.ireturn, 1, 0, 0, 0, 0)])]
/-- X7_stepOfStage -/
def tp_P57 : List (Nat × List tp_Ins) := [(0, [(.aload_n 0, 1, 0, 0, 0, 0), (.getfield 15, 3, 0, 7, 1, 113), (.iload_n 1, 1, 0, 0, 0, 0), (.baload, 1, 0, 0, 0, 0), (.ifCond .eq 7, 3, 0, 13, 0, 0), (.iload_n 2, 1, 0, 0, 0, 0), (.goto 7, 3, 0, 17, 0, 0)]),
  (13, [(.bipush 9, 2, 9, 0, 0, 0), (.iload_n 2, 1, 0, 0, 0, 0), (.isub, 1, 0, 0, 0, 0)]),
  (17, [(.ireturn, 1, 0, 0, 0, 0)])]
/-- X7_stepOfSection -/
def tp_P58 : List (Nat × List tp_Ins) := [(0, [(.aload_n 0, 1, 0, 0, 0, 0), (.getfield 15, 3, 0, 7, 1, 113), (.iload_n 1, 1, 0, 0, 0, 0), (.baload, 1, 0, 0, 0, 0), (.ifCond .eq 7, 3, 0, 13, 0, 0), (.iload_n 2, 1, 0, 0, 0, 0), (.goto 7, 3, 0, 17, 0, 0)]),
  (13, [(.bipush 8, 2, 8, 0, 0, 0), (.iload_n 2, 1, 0, 0, 0, 0), (.isub, 1, 0, 0, 0, 0)]),
  (17, [(.ireturn, 1, 0, 0, 0, 0)])]
/-- X8_has -/
def tp_P59 : List (Nat × List tp_Ins) := [(0, [(.iload_n 1, 1, 0, 0, 0, 0), (.ifCond .lt 15, 3, 0, 16, 0, 0), (.iload_n 1, 1, 0, 0, 0, 0), (.aload_n 0, 1, 0, 0, 0, 0), (.getfield 18, 3, 0, 8, 2, 79), (.if_icmp .ge 7, 3, 0, 16, 0, 0), (.iconst 1, 1, 1, 0, 0, 0), (.goto 4, 3, 0, 17, 0, 0)]),
  (16, [(.iconst 0, 1, 0, 0, 0, 0)]),
  (17, [(.ireturn, 1, 0, 0, 0, 0)])]
/-- X8_add -/
def tp_P60 : List (Nat × List tp_Ins) := [(0, [(.aload_n 0, 1, 0, 0, 0, 0), (.getfield 18, 3, 0, 8, 2, 79), (.iconst 5, 1, 5, 0, 0, 0), (.if_icmp .lt 6, 3, 0, 11, 0, 0), (.bipush (-3), 2, -3, 0, 0, 0), (.ireturn, 1, 0, 0, 0, 0)]),
  (11, [(.aload_n 0, 1, 0, 0, 0, 0), (.getfield 11, 3, 0, 8, 0, 75), (.aload_n 0, 1, 0, 0, 0, 0), (.getfield 18, 3, 0, 8, 2, 79), (.iload_n 1, 1, 0, 0, 0, 0), (.iastore, 1, 0, 0, 0, 0), (.aload_n 0, 1, 0, 0, 0, 0), (.getfield 15, 3, 0, 8, 1, 77), (.aload_n 0, 1, 0, 0, 0, 0), (.getfield 18, 3, 0, 8, 2, 79), (.iload_n 2, 1, 0, 0, 0, 0), (.iastore, 1, 0, 0, 0, 0), (.aload_n 0, 1, 0, 0, 0, 0), (.dup, 1, 0, 0, 0, 0), (.getfield 18, 3, 0, 8, 2, 79), (.dup_x1, 1, 0, 0, 0, 0), (.iconst 1, 1, 1, 0, 0, 0), (.iadd, 1, 0, 0, 0, 0), (.putfield 18, 3, 0, 8, 2, 79), (.ireturn, 1, 0, 0, 0, 0)])]
/-- X9_type -/
def tp_P61 : List (Nat × List tp_Ins) := [(0, [(.iload_n 1, 1, 0, 0, 0, 0), (.iconst 1, 1, 1, 0, 0, 0), (.bipush 60, 2, 60, 0, 0, 0), (.invokestatic 58, 3, 0, 91, 3, 322), (.ifCond .ne 13, 3, 0, 20, 0, 0), (.iload_n 2, 1, 0, 0, 0, 0), (.iconst 1, 1, 1, 0, 0, 0), (.bipush 9, 2, 9, 0, 0, 0), (.invokestatic 58, 3, 0, 91, 3, 322), (.ifCond .eq 5, 3, 0, 22, 0, 0)]),
  (20, [(.iconst (-1), 1, -1, 0, 0, 0), (.ireturn, 1, 0, 0, 0, 0)]),
  (22, [(.aload_n 0, 1, 0, 0, 0, 0), (.getfield 10, 3, 0, 9, 0, 296), (.iload_n 1, 1, 0, 0, 0, 0), (.iload_n 2, 1, 0, 0, 0, 0), (.invokevirtual 62, 3, 0, 60, 3, 325), (.ireturn, 1, 0, 0, 0, 0)])]
/-- X9_issue -/
def tp_P62 : List (Nat × List tp_Ins) := [(0, [(.aload_n 0, 1, 0, 0, 0, 0), (.iload_n 1, 1, 0, 0, 0, 0), (.iload_n 2, 1, 0, 0, 0, 0), (.invokevirtual 66, 3, 0, 92, 3, 333), (.ifCond .eq 25, 3, 0, 31, 0, 0), (.iload_n 3, 1, 0, 0, 0, 0), (.iconst 0, 1, 0, 0, 0, 0), (.ldc 70, 2, 100000, 0, 0, 341), (.invokestatic 58, 3, 0, 91, 3, 322), (.ifCond .ne 15, 3, 0, 31, 0, 0), (.iload 4, 2, 0, 0, 0, 0), (.iconst 0, 1, 0, 0, 0, 0), (.sipush 1000, 3, 1000, 0, 0, 0), (.invokestatic 58, 3, 0, 91, 3, 322), (.ifCond .eq 5, 3, 0, 33, 0, 0)]),
  (31, [(.iconst (-1), 1, -1, 0, 0, 0), (.ireturn, 1, 0, 0, 0, 0)]),
  (33, [(.aload_n 0, 1, 0, 0, 0, 0), (.getfield 33, 3, 0, 9, 3, 299), (.iload_n 2, 1, 0, 0, 0, 0), (.iload_n 3, 1, 0, 0, 0, 0), (.iload_n 3, 1, 0, 0, 0, 0), (.iload 4, 2, 0, 0, 0, 0), (.iadd, 1, 0, 0, 0, 0), (.invokevirtual 71, 3, 0, 34, 4, 342), (.ifCond .ne 20, 3, 0, 66, 0, 0), (.aload_n 0, 1, 0, 0, 0, 0), (.getfield 19, 3, 0, 9, 1, 297), (.iload_n 1, 1, 0, 0, 0, 0), (.iload_n 2, 1, 0, 0, 0, 0), (.iload_n 3, 1, 0, 0, 0, 0), (.iload_n 3, 1, 0, 0, 0, 0), (.iload 4, 2, 0, 0, 0, 0), (.iadd, 1, 0, 0, 0, 0), (.invokevirtual 74, 3, 0, 17, 5, 346), (.ifCond .eq 6, 3, 0, 69, 0, 0)]),
  (66, [(.bipush (-2), 2, -2, 0, 0, 0), (.ireturn, 1, 0, 0, 0, 0)]),
  (69, [(.aload_n 0, 1, 0, 0, 0, 0), (.getfield 19, 3, 0, 9, 1, 297), (.iload_n 1, 1, 0, 0, 0, 0), (.iload_n 2, 1, 0, 0, 0, 0), (.invokevirtual 78, 3, 0, 14, 3, 356), (.istore 5, 2, 0, 0, 0, 0), (.aload_n 0, 1, 0, 0, 0, 0), (.getfield 19, 3, 0, 9, 1, 297), (.iload_n 1, 1, 0, 0, 0, 0), (.iload_n 2, 1, 0, 0, 0, 0), (.iload_n 3, 1, 0, 0, 0, 0), (.iload_n 3, 1, 0, 0, 0, 0), (.iload 4, 2, 0, 0, 0, 0), (.iadd, 1, 0, 0, 0, 0), (.invokevirtual 81, 3, 0, 15, 5, 360), (.iload 5, 2, 0, 0, 0, 0), (.ireturn, 1, 0, 0, 0, 0)])]
/-- X9_pack -/
def tp_P63 : List (Nat × List tp_Ins) := [(0, [(.aload_n 0, 1, 0, 0, 0, 0), (.iload_n 1, 1, 0, 0, 0, 0), (.iload_n 2, 1, 0, 0, 0, 0), (.invokevirtual 66, 3, 0, 92, 3, 333), (.ifCond .eq 12, 3, 0, 18, 0, 0), (.iload_n 3, 1, 0, 0, 0, 0), (.iconst 0, 1, 0, 0, 0, 0), (.iconst 1, 1, 1, 0, 0, 0), (.invokestatic 58, 3, 0, 91, 3, 322), (.ifCond .eq 5, 3, 0, 20, 0, 0)]),
  (18, [(.iconst (-1), 1, -1, 0, 0, 0), (.ireturn, 1, 0, 0, 0, 0)]),
  (20, [(.aload_n 0, 1, 0, 0, 0, 0), (.getfield 19, 3, 0, 9, 1, 297), (.iload_n 1, 1, 0, 0, 0, 0), (.iload_n 2, 1, 0, 0, 0, 0), (.invokevirtual 78, 3, 0, 14, 3, 356), (.istore 4, 2, 0, 0, 0, 0), (.iload_n 3, 1, 0, 0, 0, 0), (.iconst 1, 1, 1, 0, 0, 0), (.if_icmp .ne 6, 3, 0, 39, 0, 0), (.iload 4, 2, 0, 0, 0, 0), (.ireturn, 1, 0, 0, 0, 0)]),
  (39, [(.iload 4, 2, 0, 0, 0, 0), (.ifCond .ne 8, 3, 0, 49, 0, 0), (.bipush (-4), 2, -4, 0, 0, 0), (.goto 14, 3, 0, 60, 0, 0)]),
  (49, [(.aload_n 0, 1, 0, 0, 0, 0), (.getfield 19, 3, 0, 9, 1, 297), (.getfield 85, 3, 0, 2, 0, 98), (.iload_n 1, 1, 0, 0, 0, 0), (.aaload, 1, 0, 0, 0, 0), (.iload_n 2, 1, 0, 0, 0, 0), (.iaload, 1, 0, 0, 0, 0)]),
  (60, [(.ireturn, 1, 0, 0, 0, 0)])]
/-- X9_trip -/
def tp_P64 : List (Nat × List tp_Ins) := [(0, [(.iload_n 1, 1, 0, 0, 0, 0), (.iconst 0, 1, 0, 0, 0, 0), (.iconst 5, 1, 5, 0, 0, 0), (.invokestatic 58, 3, 0, 91, 3, 322), (.ifCond .eq 5, 3, 0, 11, 0, 0), (.iconst (-1), 1, -1, 0, 0, 0), (.ireturn, 1, 0, 0, 0, 0)]),
  (11, [(.aload_n 0, 1, 0, 0, 0, 0), (.getfield 26, 3, 0, 9, 2, 298), (.iload_n 1, 1, 0, 0, 0, 0), (.invokevirtual 89, 3, 0, 55, 2, 372), (.ifCond .eq 8, 3, 0, 27, 0, 0), (.bipush (-2), 2, -2, 0, 0, 0), (.goto 12, 3, 0, 36, 0, 0)]),
  (27, [(.aload_n 0, 1, 0, 0, 0, 0), (.getfield 26, 3, 0, 9, 2, 298), (.iload_n 1, 1, 0, 0, 0, 0), (.iload_n 2, 1, 0, 0, 0, 0), (.invokevirtual 93, 3, 0, 54, 3, 376)]),
  (36, [(.ireturn, 1, 0, 0, 0, 0)])]
/-- X9_close -/
def tp_P65 : List (Nat × List tp_Ins) := [(0, [(.aload_n 0, 1, 0, 0, 0, 0), (.getfield 26, 3, 0, 9, 2, 298), (.iload_n 1, 1, 0, 0, 0, 0), (.invokevirtual 96, 3, 0, 53, 2, 384), (.ifCond .ne 5, 3, 0, 13, 0, 0), (.iconst (-1), 1, -1, 0, 0, 0), (.ireturn, 1, 0, 0, 0, 0)]),
  (13, [(.aload_n 0, 1, 0, 0, 0, 0), (.getfield 26, 3, 0, 9, 2, 298), (.getfield 99, 3, 0, 7, 2, 116), (.iload_n 1, 1, 0, 0, 0, 0), (.baload, 1, 0, 0, 0, 0), (.ifCond .ne 6, 3, 0, 28, 0, 0), (.bipush (-2), 2, -2, 0, 0, 0), (.ireturn, 1, 0, 0, 0, 0)]),
  (28, [(.aload_n 0, 1, 0, 0, 0, 0), (.getfield 26, 3, 0, 9, 2, 298), (.getfield 99, 3, 0, 7, 2, 116), (.iload_n 1, 1, 0, 0, 0, 0), (.iconst 0, 1, 0, 0, 0, 0), (.bastore, 1, 0, 0, 0, 0), (.aload_n 0, 1, 0, 0, 0, 0), (.iload_n 1, 1, 0, 0, 0, 0), (.invokevirtual 103, 3, 0, 93, 2, 388), (.ireturn, 1, 0, 0, 0, 0)])]
/-- X9_sell -/
def tp_P66 : List (Nat × List tp_Ins) := [(0, [(.aload_n 0, 1, 0, 0, 0, 0), (.getfield 26, 3, 0, 9, 2, 298), (.iload_n 1, 1, 0, 0, 0, 0), (.invokevirtual 96, 3, 0, 53, 2, 384), (.ifCond .eq 24, 3, 0, 32, 0, 0), (.aload_n 0, 1, 0, 0, 0, 0), (.getfield 10, 3, 0, 9, 0, 296), (.iload_n 2, 1, 0, 0, 0, 0), (.invokevirtual 107, 3, 0, 59, 2, 337), (.ifCond .eq 13, 3, 0, 32, 0, 0), (.iload_n 3, 1, 0, 0, 0, 0), (.iconst 0, 1, 0, 0, 0, 0), (.bipush 9, 2, 9, 0, 0, 0), (.invokestatic 58, 3, 0, 91, 3, 322), (.ifCond .eq 5, 3, 0, 34, 0, 0)]),
  (32, [(.iconst (-1), 1, -1, 0, 0, 0), (.ireturn, 1, 0, 0, 0, 0)]),
  (34, [(.aload_n 0, 1, 0, 0, 0, 0), (.getfield 26, 3, 0, 9, 2, 298), (.iload_n 1, 1, 0, 0, 0, 0), (.iload_n 3, 1, 0, 0, 0, 0), (.invokevirtual 108, 3, 0, 57, 3, 396), (.istore 4, 2, 0, 0, 0, 0), (.aload_n 0, 1, 0, 0, 0, 0), (.getfield 26, 3, 0, 9, 2, 298), (.getfield 99, 3, 0, 7, 2, 116), (.iload_n 1, 1, 0, 0, 0, 0), (.baload, 1, 0, 0, 0, 0), (.ifCond .eq 23, 3, 0, 77, 0, 0), (.iload 4, 2, 0, 0, 0, 0), (.aload_n 0, 1, 0, 0, 0, 0), (.getfield 33, 3, 0, 9, 3, 299), (.iload_n 1, 1, 0, 0, 0, 0), (.invokevirtual 111, 3, 0, 32, 2, 400), (.if_icmp .lt 10, 3, 0, 77, 0, 0), (.iload 4, 2, 0, 0, 0, 0), (.bipush 9, 2, 9, 0, 0, 0), (.if_icmp .ne 6, 3, 0, 80, 0, 0)]),
  (77, [(.bipush (-2), 2, -2, 0, 0, 0), (.ireturn, 1, 0, 0, 0, 0)]),
  (80, [(.aload_n 0, 1, 0, 0, 0, 0), (.getfield 33, 3, 0, 9, 3, 299), (.invokevirtual 114, 3, 0, 30, 1, 404), (.ifCond .eq 6, 3, 0, 93, 0, 0), (.bipush (-3), 2, -3, 0, 0, 0), (.ireturn, 1, 0, 0, 0, 0)]),
  (93, [(.aload_n 0, 1, 0, 0, 0, 0), (.getfield 26, 3, 0, 9, 2, 298), (.getfield 118, 3, 0, 7, 0, 112), (.iload_n 1, 1, 0, 0, 0, 0), (.iaload, 1, 0, 0, 0, 0), (.istore 5, 2, 0, 0, 0, 0), (.aload_n 0, 1, 0, 0, 0, 0), (.getfield 19, 3, 0, 9, 1, 297), (.iload 5, 2, 0, 0, 0, 0), (.iload_n 2, 1, 0, 0, 0, 0), (.invokevirtual 78, 3, 0, 14, 3, 356), (.ifCond .ne 6, 3, 0, 120, 0, 0), (.bipush (-4), 2, -4, 0, 0, 0), (.ireturn, 1, 0, 0, 0, 0)]),
  (120, [(.aload_n 0, 1, 0, 0, 0, 0), (.getfield 19, 3, 0, 9, 1, 297), (.iload 5, 2, 0, 0, 0, 0), (.iload_n 2, 1, 0, 0, 0, 0), (.invokevirtual 122, 3, 0, 16, 3, 408), (.istore 6, 2, 0, 0, 0, 0), (.aload_n 0, 1, 0, 0, 0, 0), (.getfield 33, 3, 0, 9, 3, 299), (.iload_n 1, 1, 0, 0, 0, 0), (.iload_n 2, 1, 0, 0, 0, 0), (.iload 4, 2, 0, 0, 0, 0), (.iload 6, 2, 0, 0, 0, 0), (.invokevirtual 125, 3, 0, 31, 5, 412), (.iload 6, 2, 0, 0, 0, 0), (.ireturn, 1, 0, 0, 0, 0)])]
/-- X9_undo -/
def tp_P67 : List (Nat × List tp_Ins) := [(0, [(.aload_n 0, 1, 0, 0, 0, 0), (.getfield 33, 3, 0, 9, 3, 299), (.getfield 127, 3, 0, 4, 4, 144), (.ifCond .ne 6, 3, 0, 13, 0, 0), (.bipush (-4), 2, -4, 0, 0, 0), (.ireturn, 1, 0, 0, 0, 0)]),
  (13, [(.aload_n 0, 1, 0, 0, 0, 0), (.getfield 33, 3, 0, 9, 3, 299), (.getfield 127, 3, 0, 4, 4, 144), (.iconst 1, 1, 1, 0, 0, 0), (.isub, 1, 0, 0, 0, 0), (.istore_n 1, 1, 0, 0, 0, 0), (.aload_n 0, 1, 0, 0, 0, 0), (.getfield 33, 3, 0, 9, 3, 299), (.getfield 131, 3, 0, 4, 0, 136), (.iload_n 1, 1, 0, 0, 0, 0), (.iaload, 1, 0, 0, 0, 0), (.istore_n 2, 1, 0, 0, 0, 0), (.aload_n 0, 1, 0, 0, 0, 0), (.getfield 19, 3, 0, 9, 1, 297), (.getfield 85, 3, 0, 2, 0, 98), (.aload_n 0, 1, 0, 0, 0, 0), (.getfield 26, 3, 0, 9, 2, 298), (.getfield 118, 3, 0, 7, 0, 112), (.iload_n 2, 1, 0, 0, 0, 0), (.iaload, 1, 0, 0, 0, 0), (.aaload, 1, 0, 0, 0, 0), (.aload_n 0, 1, 0, 0, 0, 0), (.getfield 33, 3, 0, 9, 3, 299), (.getfield 134, 3, 0, 4, 1, 138), (.iload_n 1, 1, 0, 0, 0, 0), (.iaload, 1, 0, 0, 0, 0), (.iaload, 1, 0, 0, 0, 0), (.istore_n 3, 1, 0, 0, 0, 0), (.aload_n 0, 1, 0, 0, 0, 0), (.getfield 26, 3, 0, 9, 2, 298), (.getfield 99, 3, 0, 7, 2, 116), (.iload_n 2, 1, 0, 0, 0, 0), (.baload, 1, 0, 0, 0, 0), (.ifCond .eq 18, 3, 0, 88, 0, 0), (.aload_n 0, 1, 0, 0, 0, 0), (.getfield 33, 3, 0, 9, 3, 299), (.getfield 137, 3, 0, 4, 3, 142), (.iload_n 1, 1, 0, 0, 0, 0), (.iaload, 1, 0, 0, 0, 0), (.iload_n 3, 1, 0, 0, 0, 0), (.iconst 1, 1, 1, 0, 0, 0), (.isub, 1, 0, 0, 0, 0), (.if_icmp .eq 6, 3, 0, 91, 0, 0)]),
  (88, [(.bipush (-2), 2, -2, 0, 0, 0), (.ireturn, 1, 0, 0, 0, 0)]),
  (91, [(.aload_n 0, 1, 0, 0, 0, 0), (.invokevirtual 140, 3, 0, 99, 1, 421), (.aload_n 0, 1, 0, 0, 0, 0), (.getfield 33, 3, 0, 9, 3, 299), (.getfield 127, 3, 0, 4, 4, 144), (.ireturn, 1, 0, 0, 0, 0)])]
/-- X9_sheet -/
def tp_P68 : List (Nat × List tp_Ins) := [(0, [(.iload_n 1, 1, 0, 0, 0, 0), (.iconst 0, 1, 0, 0, 0, 0), (.iconst 3, 1, 3, 0, 0, 0), (.invokestatic 58, 3, 0, 91, 3, 322), (.ifCond .ne 18, 3, 0, 24, 0, 0), (.iload_n 2, 1, 0, 0, 0, 0), (.iconst 0, 1, 0, 0, 0, 0), (.iconst 2, 1, 2, 0, 0, 0), (.invokestatic 58, 3, 0, 91, 3, 322), (.ifCond .ne 9, 3, 0, 24, 0, 0), (.iload_n 3, 1, 0, 0, 0, 0), (.bipush 64, 2, 64, 0, 0, 0), (.if_icmp .le 5, 3, 0, 26, 0, 0)]),
  (24, [(.iconst (-1), 1, -1, 0, 0, 0), (.ireturn, 1, 0, 0, 0, 0)]),
  (26, [(.iload_n 3, 1, 0, 0, 0, 0), (.ifCond .ge 6, 3, 0, 33, 0, 0), (.bipush (-14), 2, -14, 0, 0, 0), (.ireturn, 1, 0, 0, 0, 0)]),
  (33, [(.aload_n 0, 1, 0, 0, 0, 0), (.getfield 39, 3, 0, 9, 4, 300), (.iload_n 1, 1, 0, 0, 0, 0), (.aaload, 1, 0, 0, 0, 0), (.iload_n 2, 1, 0, 0, 0, 0), (.iload_n 3, 1, 0, 0, 0, 0), (.invokevirtual 143, 3, 0, 43, 3, 429), (.iconst 1, 1, 1, 0, 0, 0), (.ireturn, 1, 0, 0, 0, 0)])]
/-- X9_lay -/
def tp_P69 : List (Nat × List tp_Ins) := [(0, [(.iload_n 1, 1, 0, 0, 0, 0), (.iconst 0, 1, 0, 0, 0, 0), (.iconst 3, 1, 3, 0, 0, 0), (.invokestatic 58, 3, 0, 91, 3, 322), (.ifCond .eq 5, 3, 0, 11, 0, 0), (.iconst (-1), 1, -1, 0, 0, 0), (.ireturn, 1, 0, 0, 0, 0)]),
  (11, [(.aload_n 0, 1, 0, 0, 0, 0), (.getfield 39, 3, 0, 9, 4, 300), (.iload_n 1, 1, 0, 0, 0, 0), (.aaload, 1, 0, 0, 0, 0), (.astore 4, 2, 0, 0, 0, 0), (.aload 4, 2, 0, 0, 0, 0), (.invokevirtual 147, 3, 0, 41, 1, 437), (.ifCond .eq 6, 3, 0, 30, 0, 0), (.bipush (-11), 2, -11, 0, 0, 0), (.ireturn, 1, 0, 0, 0, 0)]),
  (30, [(.aload 4, 2, 0, 0, 0, 0), (.iload_n 2, 1, 0, 0, 0, 0), (.invokevirtual 150, 3, 0, 42, 2, 441), (.ifCond .ne 6, 3, 0, 42, 0, 0), (.bipush (-12), 2, -12, 0, 0, 0), (.ireturn, 1, 0, 0, 0, 0)]),
  (42, [(.aload 4, 2, 0, 0, 0, 0), (.iload_n 2, 1, 0, 0, 0, 0), (.iload_n 3, 1, 0, 0, 0, 0), (.invokevirtual 153, 3, 0, 44, 3, 445), (.iconst 1, 1, 1, 0, 0, 0), (.ireturn, 1, 0, 0, 0, 0)])]
/-- X9_scan -/
def tp_P70 : List (Nat × List tp_Ins) := [(0, [(.aload_n 0, 1, 0, 0, 0, 0), (.getfield 26, 3, 0, 9, 2, 298), (.iload_n 1, 1, 0, 0, 0, 0), (.invokevirtual 96, 3, 0, 53, 2, 384), (.ifCond .eq 32, 3, 0, 40, 0, 0), (.iload_n 2, 1, 0, 0, 0, 0), (.iconst 0, 1, 0, 0, 0, 0), (.iconst 3, 1, 3, 0, 0, 0), (.invokestatic 58, 3, 0, 91, 3, 322), (.ifCond .ne 23, 3, 0, 40, 0, 0), (.iload_n 3, 1, 0, 0, 0, 0), (.iconst 0, 1, 0, 0, 0, 0), (.iconst 2, 1, 2, 0, 0, 0), (.invokestatic 58, 3, 0, 91, 3, 322), (.ifCond .ne 14, 3, 0, 40, 0, 0), (.iload 5, 2, 0, 0, 0, 0), (.iconst 0, 1, 0, 0, 0, 0), (.bipush 32, 2, 32, 0, 0, 0), (.invokestatic 58, 3, 0, 91, 3, 322), (.ifCond .eq 5, 3, 0, 42, 0, 0)]),
  (40, [(.iconst (-1), 1, -1, 0, 0, 0), (.ireturn, 1, 0, 0, 0, 0)]),
  (42, [(.aload_n 0, 1, 0, 0, 0, 0), (.getfield 39, 3, 0, 9, 4, 300), (.iload_n 2, 1, 0, 0, 0, 0), (.aaload, 1, 0, 0, 0, 0), (.astore 6, 2, 0, 0, 0, 0), (.aload 6, 2, 0, 0, 0, 0), (.invokevirtual 147, 3, 0, 41, 1, 437), (.ifCond .eq 6, 3, 0, 61, 0, 0), (.bipush (-11), 2, -11, 0, 0, 0), (.ireturn, 1, 0, 0, 0, 0)]),
  (61, [(.aload 6, 2, 0, 0, 0, 0), (.getfield 156, 3, 0, 5, 1, 166), (.iload_n 3, 1, 0, 0, 0, 0), (.if_icmp .eq 6, 3, 0, 73, 0, 0), (.bipush (-13), 2, -13, 0, 0, 0), (.ireturn, 1, 0, 0, 0, 0)]),
  (73, [(.iconst 0, 1, 0, 0, 0, 0), (.istore 7, 2, 0, 0, 0, 0)]),
  (76, [(.iload 7, 2, 0, 0, 0, 0), (.iload 5, 2, 0, 0, 0, 0), (.if_icmp .ge 39, 3, 0, 119, 0, 0), (.aload_n 0, 1, 0, 0, 0, 0), (.iload_n 1, 1, 0, 0, 0, 0), (.aload 6, 2, 0, 0, 0, 0), (.iload 4, 2, 0, 0, 0, 0), (.iconst 2, 1, 2, 0, 0, 0), (.iload 7, 2, 0, 0, 0, 0), (.imul, 1, 0, 0, 0, 0), (.iadd, 1, 0, 0, 0, 0), (.invokevirtual 159, 3, 0, 97, 4, 454), (.istore 8, 2, 0, 0, 0, 0), (.iload 8, 2, 0, 0, 0, 0), (.ifCond .ge 12, 3, 0, 113, 0, 0), (.aload_n 0, 1, 0, 0, 0, 0), (.iload 7, 2, 0, 0, 0, 0), (.invokevirtual 163, 3, 0, 98, 2, 459), (.iload 8, 2, 0, 0, 0, 0), (.ireturn, 1, 0, 0, 0, 0)]),
  (113, [(.iinc 7 1, 3, 1, 0, 0, 0), (.goto (-40), 3, 0, 76, 0, 0)]),
  (119, [(.iload 5, 2, 0, 0, 0, 0), (.ireturn, 1, 0, 0, 0, 0)])]
/-- X9_waybill -/
def tp_P71 : List (Nat × List tp_Ins) := [(0, [(.aload_n 0, 1, 0, 0, 0, 0), (.getfield 26, 3, 0, 9, 2, 298), (.iload_n 1, 1, 0, 0, 0, 0), (.invokevirtual 96, 3, 0, 53, 2, 384), (.ifCond .eq 23, 3, 0, 31, 0, 0), (.aload_n 0, 1, 0, 0, 0, 0), (.getfield 10, 3, 0, 9, 0, 296), (.iload_n 2, 1, 0, 0, 0, 0), (.invokevirtual 107, 3, 0, 59, 2, 337), (.ifCond .eq 12, 3, 0, 31, 0, 0), (.iload_n 3, 1, 0, 0, 0, 0), (.iconst 0, 1, 0, 0, 0, 0), (.iconst 2, 1, 2, 0, 0, 0), (.invokestatic 58, 3, 0, 91, 3, 322), (.ifCond .eq 5, 3, 0, 33, 0, 0)]),
  (31, [(.iconst (-1), 1, -1, 0, 0, 0), (.ireturn, 1, 0, 0, 0, 0)]),
  (33, [(.iload_n 3, 1, 0, 0, 0, 0), (.ifCond .ne 13, 3, 0, 47, 0, 0), (.aload_n 0, 1, 0, 0, 0, 0), (.getfield 33, 3, 0, 9, 3, 299), (.iload_n 1, 1, 0, 0, 0, 0), (.iload_n 2, 1, 0, 0, 0, 0), (.invokevirtual 167, 3, 0, 37, 3, 467), (.ireturn, 1, 0, 0, 0, 0)]),
  (47, [(.iload_n 3, 1, 0, 0, 0, 0), (.iconst 1, 1, 1, 0, 0, 0), (.if_icmp .ne 15, 3, 0, 64, 0, 0), (.aload_n 0, 1, 0, 0, 0, 0), (.getfield 33, 3, 0, 9, 3, 299), (.iload_n 1, 1, 0, 0, 0, 0), (.iload_n 2, 1, 0, 0, 0, 0), (.invokevirtual 170, 3, 0, 38, 3, 475), (.goto 12, 3, 0, 73, 0, 0)]),
  (64, [(.aload_n 0, 1, 0, 0, 0, 0), (.getfield 33, 3, 0, 9, 3, 299), (.iload_n 1, 1, 0, 0, 0, 0), (.iload_n 2, 1, 0, 0, 0, 0), (.invokevirtual 173, 3, 0, 39, 3, 479)]),
  (73, [(.istore 4, 2, 0, 0, 0, 0), (.iload 4, 2, 0, 0, 0, 0), (.ifCond .ge 8, 3, 0, 85, 0, 0), (.bipush (-4), 2, -4, 0, 0, 0), (.goto 13, 3, 0, 95, 0, 0)]),
  (85, [(.aload_n 0, 1, 0, 0, 0, 0), (.getfield 33, 3, 0, 9, 3, 299), (.getfield 137, 3, 0, 4, 3, 142), (.iload 4, 2, 0, 0, 0, 0), (.iaload, 1, 0, 0, 0, 0)]),
  (95, [(.ireturn, 1, 0, 0, 0, 0)])]
/-- X9_money -/
def tp_P72 : List (Nat × List tp_Ins) := [(0, [(.aload_n 0, 1, 0, 0, 0, 0), (.getfield 26, 3, 0, 9, 2, 298), (.iload_n 1, 1, 0, 0, 0, 0), (.invokevirtual 96, 3, 0, 53, 2, 384), (.ifCond .eq 11, 3, 0, 19, 0, 0), (.aload_n 0, 1, 0, 0, 0, 0), (.iload_n 1, 1, 0, 0, 0, 0), (.invokevirtual 103, 3, 0, 93, 2, 388), (.goto 4, 3, 0, 20, 0, 0)]),
  (19, [(.iconst (-1), 1, -1, 0, 0, 0)]),
  (20, [(.ireturn, 1, 0, 0, 0, 0)])]
/-- X9_paid -/
def tp_P73 : List (Nat × List tp_Ins) := [(0, [(.iload_n 1, 1, 0, 0, 0, 0), (.iconst 0, 1, 0, 0, 0, 0), (.iconst 5, 1, 5, 0, 0, 0), (.invokestatic 58, 3, 0, 91, 3, 322), (.ifCond .ne 13, 3, 0, 19, 0, 0), (.iload_n 2, 1, 0, 0, 0, 0), (.iconst 0, 1, 0, 0, 0, 0), (.ldc 70, 2, 100000, 0, 0, 341), (.invokestatic 58, 3, 0, 91, 3, 322), (.ifCond .eq 6, 3, 0, 22, 0, 0)]),
  (19, [(.ldc 176, 2, -1000000, 0, 0, 491), (.ireturn, 1, 0, 0, 0, 0)]),
  (22, [(.iload_n 2, 1, 0, 0, 0, 0), (.istore_n 3, 1, 0, 0, 0, 0), (.iconst 0, 1, 0, 0, 0, 0), (.istore 4, 2, 0, 0, 0, 0)]),
  (27, [(.iload 4, 2, 0, 0, 0, 0), (.aload_n 0, 1, 0, 0, 0, 0), (.getfield 26, 3, 0, 9, 2, 298), (.getfield 177, 3, 0, 7, 3, 118), (.if_icmp .ge 45, 3, 0, 81, 0, 0), (.aload_n 0, 1, 0, 0, 0, 0), (.getfield 26, 3, 0, 9, 2, 298), (.getfield 118, 3, 0, 7, 0, 112), (.iload 4, 2, 0, 0, 0, 0), (.iaload, 1, 0, 0, 0, 0), (.iload_n 1, 1, 0, 0, 0, 0), (.if_icmp .ne 25, 3, 0, 75, 0, 0), (.aload_n 0, 1, 0, 0, 0, 0), (.getfield 26, 3, 0, 9, 2, 298), (.getfield 99, 3, 0, 7, 2, 116), (.iload 4, 2, 0, 0, 0, 0), (.baload, 1, 0, 0, 0, 0), (.ifCond .ne 12, 3, 0, 75, 0, 0), (.iload_n 3, 1, 0, 0, 0, 0), (.aload_n 0, 1, 0, 0, 0, 0), (.iload 4, 2, 0, 0, 0, 0), (.invokevirtual 103, 3, 0, 93, 2, 388), (.isub, 1, 0, 0, 0, 0), (.istore_n 3, 1, 0, 0, 0, 0)]),
  (75, [(.iinc 4 1, 3, 1, 0, 0, 0), (.goto (-51), 3, 0, 27, 0, 0)]),
  (81, [(.iload_n 3, 1, 0, 0, 0, 0), (.ireturn, 1, 0, 0, 0, 0)])]
/-- X9_aboard -/
def tp_P74 : List (Nat × List tp_Ins) := [(0, [(.aload_n 0, 1, 0, 0, 0, 0), (.getfield 26, 3, 0, 9, 2, 298), (.iload_n 1, 1, 0, 0, 0, 0), (.invokevirtual 96, 3, 0, 53, 2, 384), (.ifCond .eq 22, 3, 0, 30, 0, 0), (.iload_n 2, 1, 0, 0, 0, 0), (.iconst 0, 1, 0, 0, 0, 0), (.bipush 8, 2, 8, 0, 0, 0), (.invokestatic 58, 3, 0, 91, 3, 322), (.ifCond .ne 12, 3, 0, 30, 0, 0), (.iload_n 3, 1, 0, 0, 0, 0), (.iconst 0, 1, 0, 0, 0, 0), (.iconst 1, 1, 1, 0, 0, 0), (.invokestatic 58, 3, 0, 91, 3, 322), (.ifCond .eq 5, 3, 0, 32, 0, 0)]),
  (30, [(.iconst (-1), 1, -1, 0, 0, 0), (.ireturn, 1, 0, 0, 0, 0)]),
  (32, [(.aload_n 0, 1, 0, 0, 0, 0), (.iload_n 1, 1, 0, 0, 0, 0), (.iload_n 2, 1, 0, 0, 0, 0), (.iload_n 3, 1, 0, 0, 0, 0), (.invokevirtual 178, 3, 0, 94, 4, 496), (.ireturn, 1, 0, 0, 0, 0)])]
/-- X9_riders -/
def tp_P75 : List (Nat × List tp_Ins) := [(0, [(.iload_n 2, 1, 0, 0, 0, 0), (.iconst 0, 1, 0, 0, 0, 0), (.bipush 8, 2, 8, 0, 0, 0), (.invokestatic 58, 3, 0, 91, 3, 322), (.ifCond .ne 12, 3, 0, 19, 0, 0), (.iload_n 3, 1, 0, 0, 0, 0), (.iconst 0, 1, 0, 0, 0, 0), (.iconst 1, 1, 1, 0, 0, 0), (.invokestatic 58, 3, 0, 91, 3, 322), (.ifCond .eq 5, 3, 0, 21, 0, 0)]),
  (19, [(.iconst (-1), 1, -1, 0, 0, 0), (.ireturn, 1, 0, 0, 0, 0)]),
  (21, [(.iconst 0, 1, 0, 0, 0, 0), (.istore 4, 2, 0, 0, 0, 0), (.iconst 0, 1, 0, 0, 0, 0), (.istore 5, 2, 0, 0, 0, 0)]),
  (27, [(.iload 5, 2, 0, 0, 0, 0), (.aload_n 0, 1, 0, 0, 0, 0), (.getfield 33, 3, 0, 9, 3, 299), (.getfield 127, 3, 0, 4, 4, 144), (.if_icmp .ge 45, 3, 0, 81, 0, 0), (.aload_n 0, 1, 0, 0, 0, 0), (.getfield 26, 3, 0, 9, 2, 298), (.getfield 182, 3, 0, 7, 1, 114), (.aload_n 0, 1, 0, 0, 0, 0), (.getfield 33, 3, 0, 9, 3, 299), (.getfield 131, 3, 0, 4, 0, 136), (.iload 5, 2, 0, 0, 0, 0), (.iaload, 1, 0, 0, 0, 0), (.baload, 1, 0, 0, 0, 0), (.iload_n 1, 1, 0, 0, 0, 0), (.if_icmp .ne 17, 3, 0, 75, 0, 0), (.aload_n 0, 1, 0, 0, 0, 0), (.iload 5, 2, 0, 0, 0, 0), (.iload_n 2, 1, 0, 0, 0, 0), (.iload_n 3, 1, 0, 0, 0, 0), (.invokevirtual 185, 3, 0, 95, 4, 500), (.ifCond .eq 6, 3, 0, 75, 0, 0), (.iinc 4 1, 3, 1, 0, 0, 0)]),
  (75, [(.iinc 5 1, 3, 1, 0, 0, 0), (.goto (-51), 3, 0, 27, 0, 0)]),
  (81, [(.iload 4, 2, 0, 0, 0, 0), (.ireturn, 1, 0, 0, 0, 0)])]
/-- X9_shown -/
def tp_P76 : List (Nat × List tp_Ins) := [(0, [(.aload_n 0, 1, 0, 0, 0, 0), (.getfield 26, 3, 0, 9, 2, 298), (.iload_n 1, 1, 0, 0, 0, 0), (.invokevirtual 96, 3, 0, 53, 2, 384), (.ifCond .eq 29, 3, 0, 37, 0, 0), (.iload_n 2, 1, 0, 0, 0, 0), (.iconst 0, 1, 0, 0, 0, 0), (.bipush 8, 2, 8, 0, 0, 0), (.invokestatic 58, 3, 0, 91, 3, 322), (.ifCond .ne 19, 3, 0, 37, 0, 0), (.aload_n 0, 1, 0, 0, 0, 0), (.getfield 10, 3, 0, 9, 0, 296), (.iload_n 3, 1, 0, 0, 0, 0), (.invokevirtual 107, 3, 0, 59, 2, 337), (.ifCond .eq 8, 3, 0, 37, 0, 0), (.iload 4, 2, 0, 0, 0, 0), (.ifCond .ge 5, 3, 0, 39, 0, 0)]),
  (37, [(.iconst (-1), 1, -1, 0, 0, 0), (.ireturn, 1, 0, 0, 0, 0)]),
  (39, [(.aload_n 0, 1, 0, 0, 0, 0), (.getfield 33, 3, 0, 9, 3, 299), (.iload_n 3, 1, 0, 0, 0, 0), (.iload 4, 2, 0, 0, 0, 0), (.invokevirtual 188, 3, 0, 33, 3, 520), (.istore 5, 2, 0, 0, 0, 0), (.iload 5, 2, 0, 0, 0, 0), (.ifCond .ge 5, 3, 0, 58, 0, 0), (.iconst 1, 1, 1, 0, 0, 0), (.ireturn, 1, 0, 0, 0, 0)]),
  (58, [(.aload_n 0, 1, 0, 0, 0, 0), (.getfield 33, 3, 0, 9, 3, 299), (.getfield 131, 3, 0, 4, 0, 136), (.iload 5, 2, 0, 0, 0, 0), (.iaload, 1, 0, 0, 0, 0), (.iload_n 1, 1, 0, 0, 0, 0), (.if_icmp .eq 5, 3, 0, 74, 0, 0), (.iconst 2, 1, 2, 0, 0, 0), (.ireturn, 1, 0, 0, 0, 0)]),
  (74, [(.aload_n 0, 1, 0, 0, 0, 0), (.getfield 26, 3, 0, 9, 2, 298), (.iload_n 1, 1, 0, 0, 0, 0), (.iload_n 2, 1, 0, 0, 0, 0), (.invokevirtual 191, 3, 0, 58, 3, 504), (.istore 6, 2, 0, 0, 0, 0), (.aload_n 0, 1, 0, 0, 0, 0), (.getfield 33, 3, 0, 9, 3, 299), (.getfield 194, 3, 0, 4, 2, 140), (.iload 5, 2, 0, 0, 0, 0), (.iaload, 1, 0, 0, 0, 0), (.iload 6, 2, 0, 0, 0, 0), (.if_icmp .le 5, 3, 0, 102, 0, 0), (.iconst 3, 1, 3, 0, 0, 0), (.ireturn, 1, 0, 0, 0, 0)]),
  (102, [(.aload_n 0, 1, 0, 0, 0, 0), (.iload 5, 2, 0, 0, 0, 0), (.iload 6, 2, 0, 0, 0, 0), (.invokevirtual 197, 3, 0, 96, 3, 508), (.ifCond .eq 7, 3, 0, 117, 0, 0), (.iconst 0, 1, 0, 0, 0, 0), (.goto 4, 3, 0, 118, 0, 0)]),
  (117, [(.iconst 4, 1, 4, 0, 0, 0)]),
  (118, [(.ireturn, 1, 0, 0, 0, 0)])]
/-- X9_heads -/
def tp_P77 : List (Nat × List tp_Ins) := [(0, [(.aload_n 0, 1, 0, 0, 0, 0), (.getfield 26, 3, 0, 9, 2, 298), (.iload_n 1, 1, 0, 0, 0, 0), (.invokevirtual 96, 3, 0, 53, 2, 384), (.ifCond .eq 24, 3, 0, 32, 0, 0), (.iload_n 2, 1, 0, 0, 0, 0), (.iconst 0, 1, 0, 0, 0, 0), (.bipush 8, 2, 8, 0, 0, 0), (.invokestatic 58, 3, 0, 91, 3, 322), (.ifCond .ne 14, 3, 0, 32, 0, 0), (.iload_n 3, 1, 0, 0, 0, 0), (.iconst 0, 1, 0, 0, 0, 0), (.sipush 1000, 3, 1000, 0, 0, 0), (.invokestatic 58, 3, 0, 91, 3, 322), (.ifCond .eq 6, 3, 0, 35, 0, 0)]),
  (32, [(.ldc 176, 2, -1000000, 0, 0, 491), (.ireturn, 1, 0, 0, 0, 0)]),
  (35, [(.aload_n 0, 1, 0, 0, 0, 0), (.iload_n 1, 1, 0, 0, 0, 0), (.iload_n 2, 1, 0, 0, 0, 0), (.iconst 1, 1, 1, 0, 0, 0), (.invokevirtual 178, 3, 0, 94, 4, 496), (.istore 4, 2, 0, 0, 0, 0), (.iload_n 3, 1, 0, 0, 0, 0), (.iload 4, 2, 0, 0, 0, 0), (.if_icmp .le 8, 3, 0, 55, 0, 0), (.iload_n 3, 1, 0, 0, 0, 0), (.iload 4, 2, 0, 0, 0, 0), (.isub, 1, 0, 0, 0, 0), (.ireturn, 1, 0, 0, 0, 0)]),
  (55, [(.aload_n 0, 1, 0, 0, 0, 0), (.iload_n 1, 1, 0, 0, 0, 0), (.iload_n 2, 1, 0, 0, 0, 0), (.iconst 0, 1, 0, 0, 0, 0), (.invokevirtual 178, 3, 0, 94, 4, 496), (.istore 5, 2, 0, 0, 0, 0), (.iload_n 3, 1, 0, 0, 0, 0), (.iload 5, 2, 0, 0, 0, 0), (.if_icmp .ge 10, 3, 0, 77, 0, 0), (.iload_n 3, 1, 0, 0, 0, 0), (.iload 5, 2, 0, 0, 0, 0), (.isub, 1, 0, 0, 0, 0), (.goto 4, 3, 0, 78, 0, 0)]),
  (77, [(.iconst 0, 1, 0, 0, 0, 0)]),
  (78, [(.ireturn, 1, 0, 0, 0, 0)])]
/-- X9_gap -/
def tp_P78 : List (Nat × List tp_Ins) := [(0, [(.aload_n 0, 1, 0, 0, 0, 0), (.getfield 10, 3, 0, 9, 0, 296), (.iload_n 1, 1, 0, 0, 0, 0), (.invokevirtual 107, 3, 0, 59, 2, 337), (.ifCond .ne 5, 3, 0, 13, 0, 0), (.iconst (-1), 1, -1, 0, 0, 0), (.ireturn, 1, 0, 0, 0, 0)]),
  (13, [(.aload_n 0, 1, 0, 0, 0, 0), (.getfield 33, 3, 0, 9, 3, 299), (.iload_n 1, 1, 0, 0, 0, 0), (.invokevirtual 200, 3, 0, 36, 2, 532), (.istore_n 2, 1, 0, 0, 0, 0), (.iconst 0, 1, 0, 0, 0, 0), (.istore_n 3, 1, 0, 0, 0, 0), (.iconst 0, 1, 0, 0, 0, 0), (.istore 4, 2, 0, 0, 0, 0)]),
  (27, [(.iload 4, 2, 0, 0, 0, 0), (.sipush 206, 3, 206, 0, 0, 0), (.if_icmp .gt 33, 3, 0, 65, 0, 0), (.iload_n 3, 1, 0, 0, 0, 0), (.iload_n 2, 1, 0, 0, 0, 0), (.if_icmp .ge 28, 3, 0, 65, 0, 0), (.aload_n 0, 1, 0, 0, 0, 0), (.iload_n 1, 1, 0, 0, 0, 0), (.iload_n 3, 1, 0, 0, 0, 0), (.invokevirtual 203, 3, 0, 100, 3, 537), (.istore 5, 2, 0, 0, 0, 0), (.iload 5, 2, 0, 0, 0, 0), (.iload_n 3, 1, 0, 0, 0, 0), (.if_icmp .ne 5, 3, 0, 56, 0, 0), (.iload_n 3, 1, 0, 0, 0, 0), (.ireturn, 1, 0, 0, 0, 0)]),
  (56, [(.iload 5, 2, 0, 0, 0, 0), (.istore_n 3, 1, 0, 0, 0, 0), (.iinc 4 1, 3, 1, 0, 0, 0), (.goto (-35), 3, 0, 27, 0, 0)]),
  (65, [(.bipush (-4), 2, -4, 0, 0, 0), (.ireturn, 1, 0, 0, 0, 0)])]
/-- X9_feed -/
def tp_P79 : List (Nat × List tp_Ins) := [(0, [(.aload_n 0, 1, 0, 0, 0, 0), (.getfield 47, 3, 0, 9, 5, 301), (.getfield 206, 3, 0, 0, 0, 241), (.lload_n 1, 1, 0, 0, 0, 0), (.invokevirtual 210, 3, 0, 45, 2, 553), (.ireturn, 1, 0, 0, 0, 0)])]
/-- X9_end -/
def tp_P80 : List (Nat × List tp_Ins) := [(0, [(.aload_n 0, 1, 0, 0, 0, 0), (.getfield 47, 3, 0, 9, 5, 301), (.getfield 206, 3, 0, 0, 0, 241), (.getfield 216, 3, 0, 6, 1, 191), (.istore_n 2, 1, 0, 0, 0, 0), (.iload_n 1, 1, 0, 0, 0, 0), (.iconst 0, 1, 0, 0, 0, 0), (.iload_n 2, 1, 0, 0, 0, 0), (.invokestatic 58, 3, 0, 91, 3, 322), (.ifCond .eq 5, 3, 0, 22, 0, 0), (.iconst (-1), 1, -1, 0, 0, 0), (.ireturn, 1, 0, 0, 0, 0)]),
  (22, [(.aload_n 0, 1, 0, 0, 0, 0), (.getfield 47, 3, 0, 9, 5, 301), (.getfield 206, 3, 0, 0, 0, 241), (.iload_n 1, 1, 0, 0, 0, 0), (.putfield 216, 3, 0, 6, 1, 191), (.iload_n 2, 1, 0, 0, 0, 0), (.ireturn, 1, 0, 0, 0, 0)])]
/-- X9_laws -/
def tp_P81 : List (Nat × List tp_Ins) := [(0, [(.aload_n 0, 1, 0, 0, 0, 0), (.getfield 47, 3, 0, 9, 5, 301), (.invokevirtual 219, 3, 0, 0, 1, 565), (.ireturn, 1, 0, 0, 0, 0)])]
/-- X9_fault -/
def tp_P82 : List (Nat × List tp_Ins) := [(0, [(.aload_n 0, 1, 0, 0, 0, 0), (.getfield 47, 3, 0, 9, 5, 301), (.getfield 223, 3, 0, 0, 2, 245), (.ireturn, 1, 0, 0, 0, 0)])]
/-- X9_fare -/
def tp_P83 : List (Nat × List tp_Ins) := [(0, [(.iload_n 1, 1, 0, 0, 0, 0), (.iconst 1, 1, 1, 0, 0, 0), (.bipush 9, 2, 9, 0, 0, 0), (.invokestatic 58, 3, 0, 91, 3, 322), (.ifCond .ne 14, 3, 0, 21, 0, 0), (.iload_n 2, 1, 0, 0, 0, 0), (.iconst 0, 1, 0, 0, 0, 0), (.sipush 1439, 3, 1439, 0, 0, 0), (.invokestatic 58, 3, 0, 91, 3, 322), (.ifCond .eq 5, 3, 0, 23, 0, 0)]),
  (21, [(.iconst (-1), 1, -1, 0, 0, 0), (.ireturn, 1, 0, 0, 0, 0)]),
  (23, [(.aload_n 0, 1, 0, 0, 0, 0), (.getfield 47, 3, 0, 9, 5, 301), (.getfield 226, 3, 0, 0, 1, 243), (.iload_n 1, 1, 0, 0, 0, 0), (.iload_n 2, 1, 0, 0, 0, 0), (.bipush 60, 2, 60, 0, 0, 0), (.idiv, 1, 0, 0, 0, 0), (.invokevirtual 230, 3, 0, 11, 3, 704), (.ireturn, 1, 0, 0, 0, 0)])]
/-- X9_change -/
def tp_P84 : List (Nat × List tp_Ins) := [(0, [(.iload_n 1, 1, 0, 0, 0, 0), (.iconst 0, 1, 0, 0, 0, 0), (.sipush 1439, 3, 1439, 0, 0, 0), (.invokestatic 58, 3, 0, 91, 3, 322), (.ifCond .ne 14, 3, 0, 22, 0, 0), (.iload_n 2, 1, 0, 0, 0, 0), (.iload_n 1, 1, 0, 0, 0, 0), (.sipush 1439, 3, 1439, 0, 0, 0), (.invokestatic 58, 3, 0, 91, 3, 322), (.ifCond .eq 5, 3, 0, 24, 0, 0)]),
  (22, [(.iconst (-1), 1, -1, 0, 0, 0), (.ireturn, 1, 0, 0, 0, 0)]),
  (24, [(.aload_n 0, 1, 0, 0, 0, 0), (.getfield 47, 3, 0, 9, 5, 301), (.getfield 226, 3, 0, 0, 1, 243), (.iload_n 2, 1, 0, 0, 0, 0), (.iload_n 1, 1, 0, 0, 0, 0), (.isub, 1, 0, 0, 0, 0), (.invokevirtual 235, 3, 0, 13, 2, 716), (.ifCond .eq 7, 3, 0, 44, 0, 0), (.iconst 1, 1, 1, 0, 0, 0), (.goto 4, 3, 0, 45, 0, 0)]),
  (44, [(.iconst 0, 1, 0, 0, 0, 0)]),
  (45, [(.ireturn, 1, 0, 0, 0, 0)])]
/-- X9_duty -/
def tp_P85 : List (Nat × List tp_Ins) := [(0, [(.iload_n 1, 1, 0, 0, 0, 0), (.iconst 0, 1, 0, 0, 0, 0), (.sipush 1440, 3, 1440, 0, 0, 0), (.invokestatic 58, 3, 0, 91, 3, 322), (.ifCond .ne 16, 3, 0, 24, 0, 0), (.iload_n 2, 1, 0, 0, 0, 0), (.iload_n 1, 1, 0, 0, 0, 0), (.iconst 1, 1, 1, 0, 0, 0), (.iadd, 1, 0, 0, 0, 0), (.sipush 1440, 3, 1440, 0, 0, 0), (.invokestatic 58, 3, 0, 91, 3, 322), (.ifCond .eq 5, 3, 0, 26, 0, 0)]),
  (24, [(.iconst (-1), 1, -1, 0, 0, 0), (.ireturn, 1, 0, 0, 0, 0)]),
  (26, [(.aload_n 0, 1, 0, 0, 0, 0), (.getfield 54, 3, 0, 9, 6, 302), (.iload_n 1, 1, 0, 0, 0, 0), (.iload_n 2, 1, 0, 0, 0, 0), (.invokevirtual 238, 3, 0, 19, 3, 724), (.ireturn, 1, 0, 0, 0, 0)])]
/-- X9_rest -/
def tp_P86 : List (Nat × List tp_Ins) := [(0, [(.iload_n 1, 1, 0, 0, 0, 0), (.iconst 0, 1, 0, 0, 0, 0), (.sipush 600, 3, 600, 0, 0, 0), (.invokestatic 58, 3, 0, 91, 3, 322), (.ifCond .eq 7, 3, 0, 15, 0, 0), (.iconst (-1), 1, -1, 0, 0, 0), (.goto 11, 3, 0, 23, 0, 0)]),
  (15, [(.aload_n 0, 1, 0, 0, 0, 0), (.getfield 54, 3, 0, 9, 6, 302), (.iload_n 1, 1, 0, 0, 0, 0), (.invokevirtual 239, 3, 0, 20, 2, 745)]),
  (23, [(.ireturn, 1, 0, 0, 0, 0)])]
/-- X9_crew -/
def tp_P87 : List (Nat × List tp_Ins) := [(0, [(.iload_n 1, 1, 0, 0, 0, 0), (.iconst 0, 1, 0, 0, 0, 0), (.aload_n 0, 1, 0, 0, 0, 0), (.getfield 54, 3, 0, 9, 6, 302), (.getfield 242, 3, 0, 3, 4, 277), (.iconst 1, 1, 1, 0, 0, 0), (.isub, 1, 0, 0, 0, 0), (.invokestatic 58, 3, 0, 91, 3, 322), (.ifCond .eq 7, 3, 0, 21, 0, 0), (.iconst (-1), 1, -1, 0, 0, 0), (.goto 12, 3, 0, 30, 0, 0)]),
  (21, [(.aload_n 0, 1, 0, 0, 0, 0), (.getfield 54, 3, 0, 9, 6, 302), (.getfield 243, 3, 0, 3, 3, 275), (.iload_n 1, 1, 0, 0, 0, 0), (.iaload, 1, 0, 0, 0, 0)]),
  (30, [(.ireturn, 1, 0, 0, 0, 0)])]
/-- X9_crews -/
def tp_P88 : List (Nat × List tp_Ins) := [(0, [(.iload_n 1, 1, 0, 0, 0, 0), (.iconst 0, 1, 0, 0, 0, 0), (.iconst 2, 1, 2, 0, 0, 0), (.invokestatic 58, 3, 0, 91, 3, 322), (.ifCond .eq 5, 3, 0, 11, 0, 0), (.iconst (-1), 1, -1, 0, 0, 0), (.ireturn, 1, 0, 0, 0, 0)]),
  (11, [(.iload_n 1, 1, 0, 0, 0, 0), (.ifCond .ne 11, 3, 0, 23, 0, 0), (.aload_n 0, 1, 0, 0, 0, 0), (.getfield 54, 3, 0, 9, 6, 302), (.getfield 246, 3, 0, 3, 5, 279), (.ireturn, 1, 0, 0, 0, 0)]),
  (23, [(.aload_n 0, 1, 0, 0, 0, 0), (.getfield 54, 3, 0, 9, 6, 302), (.invokevirtual 249, 3, 0, 25, 1, 757), (.istore_n 2, 1, 0, 0, 0, 0), (.iload_n 1, 1, 0, 0, 0, 0), (.iconst 1, 1, 1, 0, 0, 0), (.if_icmp .ne 20, 3, 0, 53, 0, 0), (.iload_n 2, 1, 0, 0, 0, 0), (.ifCond .ge 7, 3, 0, 44, 0, 0), (.iconst 0, 1, 0, 0, 0, 0), (.goto 11, 3, 0, 52, 0, 0)]),
  (44, [(.aload_n 0, 1, 0, 0, 0, 0), (.getfield 54, 3, 0, 9, 6, 302), (.iload_n 2, 1, 0, 0, 0, 0), (.invokevirtual 252, 3, 0, 24, 2, 765)]),
  (52, [(.ireturn, 1, 0, 0, 0, 0)]),
  (53, [(.iload_n 2, 1, 0, 0, 0, 0), (.ifCond .ge 8, 3, 0, 62, 0, 0), (.bipush (-4), 2, -4, 0, 0, 0), (.goto 4, 3, 0, 63, 0, 0)]),
  (62, [(.iload_n 2, 1, 0, 0, 0, 0)]),
  (63, [(.ireturn, 1, 0, 0, 0, 0)])]
/-- X9_ill -/
def tp_P89 : List (Nat × List tp_Ins) := [(0, [(.iload_n 1, 1, 0, 0, 0, 0), (.iconst 0, 1, 0, 0, 0, 0), (.aload_n 0, 1, 0, 0, 0, 0), (.getfield 54, 3, 0, 9, 6, 302), (.getfield 246, 3, 0, 3, 5, 279), (.iconst 1, 1, 1, 0, 0, 0), (.isub, 1, 0, 0, 0, 0), (.invokestatic 58, 3, 0, 91, 3, 322), (.ifCond .eq 7, 3, 0, 21, 0, 0), (.iconst (-1), 1, -1, 0, 0, 0), (.goto 11, 3, 0, 29, 0, 0)]),
  (21, [(.aload_n 0, 1, 0, 0, 0, 0), (.getfield 54, 3, 0, 9, 6, 302), (.iload_n 1, 1, 0, 0, 0, 0), (.invokevirtual 255, 3, 0, 26, 2, 770)]),
  (29, [(.ireturn, 1, 0, 0, 0, 0)])]
/-- X9_count -/
def tp_P90 : List (Nat × List tp_Ins) := [(0, [(.iload_n 1, 1, 0, 0, 0, 0), (.tableswitch 136 0 7 #[47, 55, 63, 71, 79, 87, 98, 125], 47, 0, 0, 0, 0)]),
  (48, [(.aload_n 0, 1, 0, 0, 0, 0), (.getfield 10, 3, 0, 9, 0, 296), (.getfield 258, 3, 0, 8, 2, 80), (.ireturn, 1, 0, 0, 0, 0)]),
  (56, [(.aload_n 0, 1, 0, 0, 0, 0), (.getfield 26, 3, 0, 9, 2, 298), (.getfield 177, 3, 0, 7, 3, 118), (.ireturn, 1, 0, 0, 0, 0)]),
  (64, [(.aload_n 0, 1, 0, 0, 0, 0), (.getfield 33, 3, 0, 9, 3, 299), (.getfield 127, 3, 0, 4, 4, 144), (.ireturn, 1, 0, 0, 0, 0)]),
  (72, [(.aload_n 0, 1, 0, 0, 0, 0), (.getfield 26, 3, 0, 9, 2, 298), (.invokevirtual 259, 3, 0, 56, 1, 790), (.ireturn, 1, 0, 0, 0, 0)]),
  (80, [(.aload_n 0, 1, 0, 0, 0, 0), (.getfield 54, 3, 0, 9, 6, 302), (.getfield 242, 3, 0, 3, 4, 277), (.ireturn, 1, 0, 0, 0, 0)]),
  (88, [(.aload_n 0, 1, 0, 0, 0, 0), (.getfield 47, 3, 0, 9, 5, 301), (.getfield 226, 3, 0, 0, 1, 243), (.invokevirtual 262, 3, 0, 7, 1, 794), (.ireturn, 1, 0, 0, 0, 0)]),
  (99, [(.aload_n 0, 1, 0, 0, 0, 0), (.getfield 39, 3, 0, 9, 4, 300), (.iconst 0, 1, 0, 0, 0, 0), (.aaload, 1, 0, 0, 0, 0), (.invokevirtual 147, 3, 0, 41, 1, 437), (.ifCond .eq 8, 3, 0, 116, 0, 0), (.bipush (-4), 2, -4, 0, 0, 0), (.goto 12, 3, 0, 125, 0, 0)]),
  (116, [(.aload_n 0, 1, 0, 0, 0, 0), (.getfield 39, 3, 0, 9, 4, 300), (.iconst 0, 1, 0, 0, 0, 0), (.aaload, 1, 0, 0, 0, 0), (.getfield 264, 3, 0, 5, 2, 168)]),
  (125, [(.ireturn, 1, 0, 0, 0, 0)]),
  (126, [(.aload_n 0, 1, 0, 0, 0, 0), (.getfield 47, 3, 0, 9, 5, 301), (.getfield 206, 3, 0, 0, 0, 241), (.getfield 216, 3, 0, 6, 1, 191), (.ireturn, 1, 0, 0, 0, 0)]),
  (137, [(.iconst (-1), 1, -1, 0, 0, 0), (.ireturn, 1, 0, 0, 0, 0)])]
/-- X9_isOutside -/
def tp_P91 : List (Nat × List tp_Ins) := [(0, [(.iload_n 0, 1, 0, 0, 0, 0), (.iload_n 1, 1, 0, 0, 0, 0), (.if_icmp .lt 8, 3, 0, 10, 0, 0), (.iload_n 0, 1, 0, 0, 0, 0), (.iload_n 2, 1, 0, 0, 0, 0), (.if_icmp .le 7, 3, 0, 14, 0, 0)]),
  (10, [(.iconst 1, 1, 1, 0, 0, 0), (.goto 4, 3, 0, 15, 0, 0)]),
  (14, [(.iconst 0, 1, 0, 0, 0, 0)]),
  (15, [(.ireturn, 1, 0, 0, 0, 0)])]
/-- X9_hasPack -/
def tp_P92 : List (Nat × List tp_Ins) := [(0, [(.iload_n 1, 1, 0, 0, 0, 0), (.iconst 0, 1, 0, 0, 0, 0), (.iconst 5, 1, 5, 0, 0, 0), (.invokestatic 58, 3, 0, 91, 3, 322), (.ifCond .ne 18, 3, 0, 24, 0, 0), (.aload_n 0, 1, 0, 0, 0, 0), (.getfield 10, 3, 0, 9, 0, 296), (.iload_n 2, 1, 0, 0, 0, 0), (.invokevirtual 107, 3, 0, 59, 2, 337), (.ifCond .eq 7, 3, 0, 24, 0, 0), (.iconst 1, 1, 1, 0, 0, 0), (.goto 4, 3, 0, 25, 0, 0)]),
  (24, [(.iconst 0, 1, 0, 0, 0, 0)]),
  (25, [(.ireturn, 1, 0, 0, 0, 0)])]
/-- X9_takings -/
def tp_P93 : List (Nat × List tp_Ins) := [(0, [(.iconst 0, 1, 0, 0, 0, 0), (.istore_n 2, 1, 0, 0, 0, 0), (.iconst 0, 1, 0, 0, 0, 0), (.istore_n 3, 1, 0, 0, 0, 0)]),
  (4, [(.iload_n 3, 1, 0, 0, 0, 0), (.aload_n 0, 1, 0, 0, 0, 0), (.getfield 33, 3, 0, 9, 3, 299), (.getfield 127, 3, 0, 4, 4, 144), (.if_icmp .ge 42, 3, 0, 54, 0, 0), (.aload_n 0, 1, 0, 0, 0, 0), (.getfield 33, 3, 0, 9, 3, 299), (.getfield 131, 3, 0, 4, 0, 136), (.iload_n 3, 1, 0, 0, 0, 0), (.iaload, 1, 0, 0, 0, 0), (.iload_n 1, 1, 0, 0, 0, 0), (.if_icmp .ne 23, 3, 0, 48, 0, 0), (.iload_n 2, 1, 0, 0, 0, 0), (.aload_n 0, 1, 0, 0, 0, 0), (.getfield 10, 3, 0, 9, 0, 296), (.getfield 266, 3, 0, 8, 0, 76), (.aload_n 0, 1, 0, 0, 0, 0), (.getfield 33, 3, 0, 9, 3, 299), (.getfield 134, 3, 0, 4, 1, 138), (.iload_n 3, 1, 0, 0, 0, 0), (.iaload, 1, 0, 0, 0, 0), (.iaload, 1, 0, 0, 0, 0), (.iadd, 1, 0, 0, 0, 0), (.istore_n 2, 1, 0, 0, 0, 0)]),
  (48, [(.iinc 3 1, 3, 1, 0, 0, 0), (.goto (-47), 3, 0, 4, 0, 0)]),
  (54, [(.iload_n 2, 1, 0, 0, 0, 0), (.ireturn, 1, 0, 0, 0, 0)])]
/-- X9_howManyAboard -/
def tp_P94 : List (Nat × List tp_Ins) := [(0, [(.iconst 0, 1, 0, 0, 0, 0), (.istore 4, 2, 0, 0, 0, 0), (.iconst 0, 1, 0, 0, 0, 0), (.istore 5, 2, 0, 0, 0, 0)]),
  (6, [(.iload 5, 2, 0, 0, 0, 0), (.aload_n 0, 1, 0, 0, 0, 0), (.getfield 33, 3, 0, 9, 3, 299), (.getfield 127, 3, 0, 4, 4, 144), (.if_icmp .ge 37, 3, 0, 52, 0, 0), (.aload_n 0, 1, 0, 0, 0, 0), (.getfield 33, 3, 0, 9, 3, 299), (.getfield 131, 3, 0, 4, 0, 136), (.iload 5, 2, 0, 0, 0, 0), (.iaload, 1, 0, 0, 0, 0), (.iload_n 1, 1, 0, 0, 0, 0), (.if_icmp .ne 17, 3, 0, 46, 0, 0), (.aload_n 0, 1, 0, 0, 0, 0), (.iload 5, 2, 0, 0, 0, 0), (.iload_n 2, 1, 0, 0, 0, 0), (.iload_n 3, 1, 0, 0, 0, 0), (.invokevirtual 185, 3, 0, 95, 4, 500), (.ifCond .eq 6, 3, 0, 46, 0, 0), (.iinc 4 1, 3, 1, 0, 0, 0)]),
  (46, [(.iinc 5 1, 3, 1, 0, 0, 0), (.goto (-43), 3, 0, 6, 0, 0)]),
  (52, [(.iload 4, 2, 0, 0, 0, 0), (.ireturn, 1, 0, 0, 0, 0)])]
/-- X9_isAboard -/
def tp_P95 : List (Nat × List tp_Ins) := [(0, [(.aload_n 0, 1, 0, 0, 0, 0), (.getfield 26, 3, 0, 9, 2, 298), (.aload_n 0, 1, 0, 0, 0, 0), (.getfield 33, 3, 0, 9, 3, 299), (.getfield 131, 3, 0, 4, 0, 136), (.iload_n 1, 1, 0, 0, 0, 0), (.iaload, 1, 0, 0, 0, 0), (.iload_n 2, 1, 0, 0, 0, 0), (.invokevirtual 191, 3, 0, 58, 3, 504), (.istore 4, 2, 0, 0, 0, 0), (.iload_n 3, 1, 0, 0, 0, 0), (.ifCond .ne 25, 3, 0, 45, 0, 0), (.aload_n 0, 1, 0, 0, 0, 0), (.getfield 33, 3, 0, 9, 3, 299), (.getfield 194, 3, 0, 4, 2, 140), (.iload_n 1, 1, 0, 0, 0, 0), (.iaload, 1, 0, 0, 0, 0), (.iload 4, 2, 0, 0, 0, 0), (.if_icmp .ne 7, 3, 0, 41, 0, 0), (.iconst 1, 1, 1, 0, 0, 0), (.goto 14, 3, 0, 52, 0, 0)]),
  (41, [(.iconst 0, 1, 0, 0, 0, 0), (.goto 10, 3, 0, 52, 0, 0)]),
  (45, [(.aload_n 0, 1, 0, 0, 0, 0), (.iload_n 1, 1, 0, 0, 0, 0), (.iload 4, 2, 0, 0, 0, 0), (.invokevirtual 197, 3, 0, 96, 3, 508)]),
  (52, [(.ireturn, 1, 0, 0, 0, 0)])]
/-- X9_isGoodAt -/
def tp_P96 : List (Nat × List tp_Ins) := [(0, [(.aload_n 0, 1, 0, 0, 0, 0), (.getfield 33, 3, 0, 9, 3, 299), (.getfield 194, 3, 0, 4, 2, 140), (.iload_n 1, 1, 0, 0, 0, 0), (.iaload, 1, 0, 0, 0, 0), (.istore_n 3, 1, 0, 0, 0, 0), (.iload_n 2, 1, 0, 0, 0, 0), (.iload_n 3, 1, 0, 0, 0, 0), (.if_icmp .lt 30, 3, 0, 42, 0, 0), (.iload_n 2, 1, 0, 0, 0, 0), (.iload_n 3, 1, 0, 0, 0, 0), (.aload_n 0, 1, 0, 0, 0, 0), (.getfield 10, 3, 0, 9, 0, 296), (.getfield 269, 3, 0, 8, 1, 78), (.aload_n 0, 1, 0, 0, 0, 0), (.getfield 33, 3, 0, 9, 3, 299), (.getfield 134, 3, 0, 4, 1, 138), (.iload_n 1, 1, 0, 0, 0, 0), (.iaload, 1, 0, 0, 0, 0), (.iaload, 1, 0, 0, 0, 0), (.iadd, 1, 0, 0, 0, 0), (.if_icmp .ge 7, 3, 0, 42, 0, 0), (.iconst 1, 1, 1, 0, 0, 0), (.goto 4, 3, 0, 43, 0, 0)]),
  (42, [(.iconst 0, 1, 0, 0, 0, 0)]),
  (43, [(.ireturn, 1, 0, 0, 0, 0)])]
/-- X9_sellFromSheet -/
def tp_P97 : List (Nat × List tp_Ins) := [(0, [(.aload_n 2, 1, 0, 0, 0, 0), (.iload_n 3, 1, 0, 0, 0, 0), (.invokevirtual 150, 3, 0, 42, 2, 441), (.ifCond .eq 13, 3, 0, 18, 0, 0), (.aload_n 2, 1, 0, 0, 0, 0), (.iload_n 3, 1, 0, 0, 0, 0), (.iconst 1, 1, 1, 0, 0, 0), (.iadd, 1, 0, 0, 0, 0), (.invokevirtual 150, 3, 0, 42, 2, 441), (.ifCond .ne 6, 3, 0, 21, 0, 0)]),
  (18, [(.bipush (-12), 2, -12, 0, 0, 0), (.ireturn, 1, 0, 0, 0, 0)]),
  (21, [(.aload_n 0, 1, 0, 0, 0, 0), (.iload_n 1, 1, 0, 0, 0, 0), (.aload_n 2, 1, 0, 0, 0, 0), (.getfield 272, 3, 0, 5, 0, 164), (.iload_n 3, 1, 0, 0, 0, 0), (.iaload, 1, 0, 0, 0, 0), (.aload_n 2, 1, 0, 0, 0, 0), (.getfield 272, 3, 0, 5, 0, 164), (.iload_n 3, 1, 0, 0, 0, 0), (.iconst 1, 1, 1, 0, 0, 0), (.iadd, 1, 0, 0, 0, 0), (.iaload, 1, 0, 0, 0, 0), (.invokevirtual 275, 3, 0, 66, 4, 458), (.istore 4, 2, 0, 0, 0, 0), (.iload 4, 2, 0, 0, 0, 0), (.ifCond .ge 11, 3, 0, 55, 0, 0), (.bipush (-20), 2, -20, 0, 0, 0), (.iload 4, 2, 0, 0, 0, 0), (.iadd, 1, 0, 0, 0, 0), (.goto 5, 3, 0, 57, 0, 0)]),
  (55, [(.iload 4, 2, 0, 0, 0, 0)]),
  (57, [(.ireturn, 1, 0, 0, 0, 0)])]
/-- X9_takeBack -/
def tp_P98 : List (Nat × List tp_Ins) := [(0, [(.iconst 0, 1, 0, 0, 0, 0), (.istore_n 2, 1, 0, 0, 0, 0)]),
  (2, [(.iload_n 2, 1, 0, 0, 0, 0), (.iload_n 1, 1, 0, 0, 0, 0), (.if_icmp .ge 23, 3, 0, 27, 0, 0), (.aload_n 0, 1, 0, 0, 0, 0), (.getfield 33, 3, 0, 9, 3, 299), (.getfield 127, 3, 0, 4, 4, 144), (.ifCond .le 13, 3, 0, 27, 0, 0), (.aload_n 0, 1, 0, 0, 0, 0), (.invokevirtual 140, 3, 0, 99, 1, 421), (.iinc 2 1, 3, 1, 0, 0, 0), (.goto (-22), 3, 0, 2, 0, 0)]),
  (27, [(.return_, 1, 0, 0, 0, 0)])]
/-- X9_takeBackLatest -/
def tp_P99 : List (Nat × List tp_Ins) := [(0, [(.aload_n 0, 1, 0, 0, 0, 0), (.getfield 33, 3, 0, 9, 3, 299), (.getfield 127, 3, 0, 4, 4, 144), (.iconst 1, 1, 1, 0, 0, 0), (.isub, 1, 0, 0, 0, 0), (.istore_n 1, 1, 0, 0, 0, 0), (.aload_n 0, 1, 0, 0, 0, 0), (.getfield 26, 3, 0, 9, 2, 298), (.getfield 118, 3, 0, 7, 0, 112), (.aload_n 0, 1, 0, 0, 0, 0), (.getfield 33, 3, 0, 9, 3, 299), (.getfield 131, 3, 0, 4, 0, 136), (.iload_n 1, 1, 0, 0, 0, 0), (.iaload, 1, 0, 0, 0, 0), (.iaload, 1, 0, 0, 0, 0), (.istore_n 2, 1, 0, 0, 0, 0), (.aload_n 0, 1, 0, 0, 0, 0), (.getfield 19, 3, 0, 9, 1, 297), (.getfield 85, 3, 0, 2, 0, 98), (.iload_n 2, 1, 0, 0, 0, 0), (.aaload, 1, 0, 0, 0, 0), (.aload_n 0, 1, 0, 0, 0, 0), (.getfield 33, 3, 0, 9, 3, 299), (.getfield 134, 3, 0, 4, 1, 138), (.iload_n 1, 1, 0, 0, 0, 0), (.iaload, 1, 0, 0, 0, 0), (.aload_n 0, 1, 0, 0, 0, 0), (.getfield 33, 3, 0, 9, 3, 299), (.getfield 137, 3, 0, 4, 3, 142), (.iload_n 1, 1, 0, 0, 0, 0), (.iaload, 1, 0, 0, 0, 0), (.iastore, 1, 0, 0, 0, 0), (.aload_n 0, 1, 0, 0, 0, 0), (.getfield 33, 3, 0, 9, 3, 299), (.iload_n 1, 1, 0, 0, 0, 0), (.putfield 127, 3, 0, 4, 4, 144), (.return_, 1, 0, 0, 0, 0)])]
/-- X9_beyondHeld -/
def tp_P100 : List (Nat × List tp_Ins) := [(0, [(.aload_n 0, 1, 0, 0, 0, 0), (.getfield 19, 3, 0, 9, 1, 297), (.iload_n 1, 1, 0, 0, 0, 0), (.aload_n 0, 1, 0, 0, 0, 0), (.getfield 33, 3, 0, 9, 3, 299), (.iload_n 1, 1, 0, 0, 0, 0), (.iload_n 2, 1, 0, 0, 0, 0), (.invokevirtual 278, 3, 0, 35, 3, 541), (.invokevirtual 281, 3, 0, 18, 3, 545), (.ireturn, 1, 0, 0, 0, 0)])]
/-- X10_in -/
def tp_P101 : List (Nat × List tp_Ins) := [(0, [(.lload_n 0, 1, 0, 0, 0, 0), (.lload_n 2, 1, 0, 0, 0, 0), (.lcmp, 1, 0, 0, 0, 0), (.ifCond .lt 14, 3, 0, 17, 0, 0), (.lload_n 0, 1, 0, 0, 0, 0), (.lload 4, 2, 0, 0, 0, 0), (.lcmp, 1, 0, 0, 0, 0), (.ifCond .gt 7, 3, 0, 17, 0, 0), (.iconst 1, 1, 1, 0, 0, 0), (.goto 4, 3, 0, 18, 0, 0)]),
  (17, [(.iconst 0, 1, 0, 0, 0, 0)]),
  (18, [(.ireturn, 1, 0, 0, 0, 0)])]
/-- X10_type -/
def tp_P102 : List (Nat × List tp_Ins) := [(0, [(.iload_n 1, 1, 0, 0, 0, 0), (.i2l, 1, 0, 0, 0, 0), (.lconst 1, 1, 0, 0, 0, 0), (.ldc2_w 87, 3, 0, 60, 0, 938), (.invokestatic 89, 3, 0, 101, 3, 939), (.ifCond .eq 15, 3, 0, 24, 0, 0), (.iload_n 2, 1, 0, 0, 0, 0), (.i2l, 1, 0, 0, 0, 0), (.lconst 1, 1, 0, 0, 0, 0), (.ldc2_w 93, 3, 0, 9, 0, 942), (.invokestatic 89, 3, 0, 101, 3, 939), (.ifCond .ne 5, 3, 0, 26, 0, 0)]),
  (24, [(.iconst (-1), 1, -1, 0, 0, 0), (.ireturn, 1, 0, 0, 0, 0)]),
  (26, [(.aload_n 0, 1, 0, 0, 0, 0), (.getfield 95, 3, 0, 10, 0, 801), (.iconst 5, 1, 5, 0, 0, 0), (.if_icmp .ne 6, 3, 0, 37, 0, 0), (.bipush (-3), 2, -3, 0, 0, 0), (.ireturn, 1, 0, 0, 0, 0)]),
  (37, [(.aload_n 0, 1, 0, 0, 0, 0), (.getfield 7, 3, 0, 10, 1, 802), (.aload_n 0, 1, 0, 0, 0, 0), (.getfield 95, 3, 0, 10, 0, 801), (.iload_n 1, 1, 0, 0, 0, 0), (.iastore, 1, 0, 0, 0, 0), (.aload_n 0, 1, 0, 0, 0, 0), (.getfield 13, 3, 0, 10, 2, 803), (.aload_n 0, 1, 0, 0, 0, 0), (.getfield 95, 3, 0, 10, 0, 801), (.iload_n 2, 1, 0, 0, 0, 0), (.iastore, 1, 0, 0, 0, 0), (.aload_n 0, 1, 0, 0, 0, 0), (.dup, 1, 0, 0, 0, 0), (.getfield 95, 3, 0, 10, 0, 801), (.iconst 1, 1, 1, 0, 0, 0), (.iadd, 1, 0, 0, 0, 0), (.putfield 95, 3, 0, 10, 0, 801), (.aload_n 0, 1, 0, 0, 0, 0), (.getfield 95, 3, 0, 10, 0, 801), (.iconst 1, 1, 1, 0, 0, 0), (.isub, 1, 0, 0, 0, 0), (.ireturn, 1, 0, 0, 0, 0)])]
/-- X10_isPack -/
def tp_P103 : List (Nat × List tp_Ins) := [(0, [(.iload_n 1, 1, 0, 0, 0, 0), (.i2l, 1, 0, 0, 0, 0), (.lconst 0, 1, 0, 0, 0, 0), (.ldc2_w 98, 3, 0, 5, 0, 951), (.invokestatic 89, 3, 0, 101, 3, 939), (.ifCond .eq 23, 3, 0, 32, 0, 0), (.iload_n 2, 1, 0, 0, 0, 0), (.i2l, 1, 0, 0, 0, 0), (.lconst 0, 1, 0, 0, 0, 0), (.aload_n 0, 1, 0, 0, 0, 0), (.getfield 95, 3, 0, 10, 0, 801), (.iconst 1, 1, 1, 0, 0, 0), (.isub, 1, 0, 0, 0, 0), (.i2l, 1, 0, 0, 0, 0), (.invokestatic 89, 3, 0, 101, 3, 939), (.ifCond .eq 7, 3, 0, 32, 0, 0), (.iconst 1, 1, 1, 0, 0, 0), (.goto 4, 3, 0, 33, 0, 0)]),
  (32, [(.iconst 0, 1, 0, 0, 0, 0)]),
  (33, [(.ireturn, 1, 0, 0, 0, 0)])]
/-- X10_issue -/
def tp_P104 : List (Nat × List tp_Ins) := [(0, [(.aload_n 0, 1, 0, 0, 0, 0), (.iload_n 1, 1, 0, 0, 0, 0), (.iload_n 2, 1, 0, 0, 0, 0), (.invokevirtual 100, 3, 0, 103, 3, 947), (.ifCond .eq 28, 3, 0, 34, 0, 0), (.iload_n 3, 1, 0, 0, 0, 0), (.i2l, 1, 0, 0, 0, 0), (.lconst 0, 1, 0, 0, 0, 0), (.ldc2_w 104, 3, 0, 100000, 0, 952), (.invokestatic 89, 3, 0, 101, 3, 939), (.ifCond .eq 16, 3, 0, 34, 0, 0), (.iload 4, 2, 0, 0, 0, 0), (.i2l, 1, 0, 0, 0, 0), (.lconst 0, 1, 0, 0, 0, 0), (.ldc2_w 106, 3, 0, 1000, 0, 953), (.invokestatic 89, 3, 0, 101, 3, 939), (.ifCond .ne 5, 3, 0, 36, 0, 0)]),
  (34, [(.iconst (-1), 1, -1, 0, 0, 0), (.ireturn, 1, 0, 0, 0, 0)]),
  (36, [(.iconst 0, 1, 0, 0, 0, 0), (.istore 5, 2, 0, 0, 0, 0), (.iconst 0, 1, 0, 0, 0, 0), (.istore 6, 2, 0, 0, 0, 0)]),
  (42, [(.iload 6, 2, 0, 0, 0, 0), (.aload_n 0, 1, 0, 0, 0, 0), (.getfield 108, 3, 0, 10, 9, 810), (.if_icmp .ge 55, 3, 0, 103, 0, 0), (.iload 5, 2, 0, 0, 0, 0), (.ifCond .ne 37, 3, 0, 90, 0, 0), (.aload_n 0, 1, 0, 0, 0, 0), (.getfield 35, 3, 0, 10, 11, 812), (.iload 6, 2, 0, 0, 0, 0), (.iaload, 1, 0, 0, 0, 0), (.iload_n 2, 1, 0, 0, 0, 0), (.if_icmp .ne 30, 3, 0, 94, 0, 0), (.aload_n 0, 1, 0, 0, 0, 0), (.getfield 41, 3, 0, 10, 13, 814), (.iload 6, 2, 0, 0, 0, 0), (.iaload, 1, 0, 0, 0, 0), (.i2l, 1, 0, 0, 0, 0), (.iload_n 3, 1, 0, 0, 0, 0), (.i2l, 1, 0, 0, 0, 0), (.iload_n 3, 1, 0, 0, 0, 0), (.iload 4, 2, 0, 0, 0, 0), (.iadd, 1, 0, 0, 0, 0), (.iconst 1, 1, 1, 0, 0, 0), (.isub, 1, 0, 0, 0, 0), (.i2l, 1, 0, 0, 0, 0), (.invokestatic 89, 3, 0, 101, 3, 939), (.ifCond .eq 7, 3, 0, 94, 0, 0)]),
  (90, [(.iconst 1, 1, 1, 0, 0, 0), (.goto 4, 3, 0, 95, 0, 0)]),
  (94, [(.iconst 0, 1, 0, 0, 0, 0)]),
  (95, [(.istore 5, 2, 0, 0, 0, 0), (.iinc 6 1, 3, 1, 0, 0, 0), (.goto (-58), 3, 0, 42, 0, 0)]),
  (103, [(.iconst 0, 1, 0, 0, 0, 0), (.istore 6, 2, 0, 0, 0, 0)]),
  (106, [(.iload 6, 2, 0, 0, 0, 0), (.bipush 6, 2, 6, 0, 0, 0), (.if_icmp .ge 82, 3, 0, 192, 0, 0), (.iconst 5, 1, 5, 0, 0, 0), (.iload 6, 2, 0, 0, 0, 0), (.imul, 1, 0, 0, 0, 0), (.iload_n 2, 1, 0, 0, 0, 0), (.iadd, 1, 0, 0, 0, 0), (.istore 7, 2, 0, 0, 0, 0), (.iload 5, 2, 0, 0, 0, 0), (.ifCond .ne 56, 3, 0, 179, 0, 0), (.iload 6, 2, 0, 0, 0, 0), (.iload_n 1, 1, 0, 0, 0, 0), (.if_icmp .eq 54, 3, 0, 183, 0, 0), (.aload_n 0, 1, 0, 0, 0, 0), (.getfield 16, 3, 0, 10, 3, 804), (.iload 7, 2, 0, 0, 0, 0), (.iaload, 1, 0, 0, 0, 0), (.iload_n 3, 1, 0, 0, 0, 0), (.iload 4, 2, 0, 0, 0, 0), (.iadd, 1, 0, 0, 0, 0), (.if_icmp .ge 40, 3, 0, 183, 0, 0), (.iload_n 3, 1, 0, 0, 0, 0), (.aload_n 0, 1, 0, 0, 0, 0), (.getfield 19, 3, 0, 10, 4, 805), (.iload 7, 2, 0, 0, 0, 0), (.iaload, 1, 0, 0, 0, 0), (.if_icmp .ge 29, 3, 0, 183, 0, 0), (.aload_n 0, 1, 0, 0, 0, 0), (.getfield 16, 3, 0, 10, 3, 804), (.iload 7, 2, 0, 0, 0, 0), (.iaload, 1, 0, 0, 0, 0), (.aload_n 0, 1, 0, 0, 0, 0), (.getfield 19, 3, 0, 10, 4, 805), (.iload 7, 2, 0, 0, 0, 0), (.iaload, 1, 0, 0, 0, 0), (.if_icmp .ge 12, 3, 0, 183, 0, 0), (.iload 4, 2, 0, 0, 0, 0), (.ifCond .le 7, 3, 0, 183, 0, 0)]),
  (179, [(.iconst 1, 1, 1, 0, 0, 0), (.goto 4, 3, 0, 184, 0, 0)]),
  (183, [(.iconst 0, 1, 0, 0, 0, 0)]),
  (184, [(.istore 5, 2, 0, 0, 0, 0), (.iinc 6 1, 3, 1, 0, 0, 0), (.goto (-83), 3, 0, 106, 0, 0)]),
  (192, [(.iload 5, 2, 0, 0, 0, 0), (.ifCond .eq 6, 3, 0, 200, 0, 0), (.bipush (-2), 2, -2, 0, 0, 0), (.ireturn, 1, 0, 0, 0, 0)]),
  (200, [(.iconst 5, 1, 5, 0, 0, 0), (.iload_n 1, 1, 0, 0, 0, 0), (.imul, 1, 0, 0, 0, 0), (.iload_n 2, 1, 0, 0, 0, 0), (.iadd, 1, 0, 0, 0, 0), (.istore 6, 2, 0, 0, 0, 0), (.aload_n 0, 1, 0, 0, 0, 0), (.getfield 19, 3, 0, 10, 4, 805), (.iload 6, 2, 0, 0, 0, 0), (.iaload, 1, 0, 0, 0, 0), (.aload_n 0, 1, 0, 0, 0, 0), (.getfield 16, 3, 0, 10, 3, 804), (.iload 6, 2, 0, 0, 0, 0), (.iaload, 1, 0, 0, 0, 0), (.isub, 1, 0, 0, 0, 0), (.istore 7, 2, 0, 0, 0, 0), (.aload_n 0, 1, 0, 0, 0, 0), (.getfield 16, 3, 0, 10, 3, 804), (.iload 6, 2, 0, 0, 0, 0), (.iload_n 3, 1, 0, 0, 0, 0), (.iastore, 1, 0, 0, 0, 0), (.aload_n 0, 1, 0, 0, 0, 0), (.getfield 19, 3, 0, 10, 4, 805), (.iload 6, 2, 0, 0, 0, 0), (.iload_n 3, 1, 0, 0, 0, 0), (.iload 4, 2, 0, 0, 0, 0), (.iadd, 1, 0, 0, 0, 0), (.iastore, 1, 0, 0, 0, 0), (.iload 7, 2, 0, 0, 0, 0), (.ireturn, 1, 0, 0, 0, 0)])]
/-- X10_pack -/
def tp_P105 : List (Nat × List tp_Ins) := [(0, [(.aload_n 0, 1, 0, 0, 0, 0), (.iload_n 1, 1, 0, 0, 0, 0), (.iload_n 2, 1, 0, 0, 0, 0), (.invokevirtual 100, 3, 0, 103, 3, 947), (.ifCond .eq 13, 3, 0, 19, 0, 0), (.iload_n 3, 1, 0, 0, 0, 0), (.i2l, 1, 0, 0, 0, 0), (.lconst 0, 1, 0, 0, 0, 0), (.lconst 1, 1, 0, 0, 0, 0), (.invokestatic 89, 3, 0, 101, 3, 939), (.ifCond .ne 5, 3, 0, 21, 0, 0)]),
  (19, [(.iconst (-1), 1, -1, 0, 0, 0), (.ireturn, 1, 0, 0, 0, 0)]),
  (21, [(.iconst 5, 1, 5, 0, 0, 0), (.iload_n 1, 1, 0, 0, 0, 0), (.imul, 1, 0, 0, 0, 0), (.iload_n 2, 1, 0, 0, 0, 0), (.iadd, 1, 0, 0, 0, 0), (.istore 4, 2, 0, 0, 0, 0), (.iload_n 3, 1, 0, 0, 0, 0), (.iconst 1, 1, 1, 0, 0, 0), (.if_icmp .ne 21, 3, 0, 51, 0, 0), (.aload_n 0, 1, 0, 0, 0, 0), (.getfield 19, 3, 0, 10, 4, 805), (.iload 4, 2, 0, 0, 0, 0), (.iaload, 1, 0, 0, 0, 0), (.aload_n 0, 1, 0, 0, 0, 0), (.getfield 16, 3, 0, 10, 3, 804), (.iload 4, 2, 0, 0, 0, 0), (.iaload, 1, 0, 0, 0, 0), (.isub, 1, 0, 0, 0, 0), (.goto 32, 3, 0, 80, 0, 0)]),
  (51, [(.aload_n 0, 1, 0, 0, 0, 0), (.getfield 16, 3, 0, 10, 3, 804), (.iload 4, 2, 0, 0, 0, 0), (.iaload, 1, 0, 0, 0, 0), (.aload_n 0, 1, 0, 0, 0, 0), (.getfield 19, 3, 0, 10, 4, 805), (.iload 4, 2, 0, 0, 0, 0), (.iaload, 1, 0, 0, 0, 0), (.if_icmp .ge 13, 3, 0, 78, 0, 0), (.aload_n 0, 1, 0, 0, 0, 0), (.getfield 16, 3, 0, 10, 3, 804), (.iload 4, 2, 0, 0, 0, 0), (.iaload, 1, 0, 0, 0, 0), (.goto 5, 3, 0, 80, 0, 0)]),
  (78, [(.bipush (-4), 2, -4, 0, 0, 0)]),
  (80, [(.ireturn, 1, 0, 0, 0, 0)])]
/-- X10_trip -/
def tp_P106 : List (Nat × List tp_Ins) := [(0, [(.iload_n 1, 1, 0, 0, 0, 0), (.i2l, 1, 0, 0, 0, 0), (.lconst 0, 1, 0, 0, 0, 0), (.ldc2_w 98, 3, 0, 5, 0, 951), (.invokestatic 89, 3, 0, 101, 3, 939), (.ifCond .ne 5, 3, 0, 14, 0, 0), (.iconst (-1), 1, -1, 0, 0, 0), (.ireturn, 1, 0, 0, 0, 0)]),
  (14, [(.iconst 0, 1, 0, 0, 0, 0), (.istore_n 3, 1, 0, 0, 0, 0)]),
  (16, [(.iload_n 3, 1, 0, 0, 0, 0), (.aload_n 0, 1, 0, 0, 0, 0), (.getfield 111, 3, 0, 10, 5, 806), (.if_icmp .ge 31, 3, 0, 52, 0, 0), (.aload_n 0, 1, 0, 0, 0, 0), (.getfield 22, 3, 0, 10, 6, 807), (.iload_n 3, 1, 0, 0, 0, 0), (.iaload, 1, 0, 0, 0, 0), (.iload_n 1, 1, 0, 0, 0, 0), (.if_icmp .ne 15, 3, 0, 46, 0, 0), (.aload_n 0, 1, 0, 0, 0, 0), (.getfield 29, 3, 0, 10, 8, 809), (.iload_n 3, 1, 0, 0, 0, 0), (.baload, 1, 0, 0, 0, 0), (.ifCond .eq 6, 3, 0, 46, 0, 0), (.bipush (-2), 2, -2, 0, 0, 0), (.ireturn, 1, 0, 0, 0, 0)]),
  (46, [(.iinc 3 1, 3, 1, 0, 0, 0), (.goto (-33), 3, 0, 16, 0, 0)]),
  (52, [(.aload_n 0, 1, 0, 0, 0, 0), (.getfield 111, 3, 0, 10, 5, 806), (.bipush 16, 2, 16, 0, 0, 0), (.if_icmp .ne 6, 3, 0, 64, 0, 0), (.bipush (-3), 2, -3, 0, 0, 0), (.ireturn, 1, 0, 0, 0, 0)]),
  (64, [(.aload_n 0, 1, 0, 0, 0, 0), (.getfield 22, 3, 0, 10, 6, 807), (.aload_n 0, 1, 0, 0, 0, 0), (.getfield 111, 3, 0, 10, 5, 806), (.iload_n 1, 1, 0, 0, 0, 0), (.iastore, 1, 0, 0, 0, 0), (.aload_n 0, 1, 0, 0, 0, 0), (.getfield 25, 3, 0, 10, 7, 808), (.aload_n 0, 1, 0, 0, 0, 0), (.getfield 111, 3, 0, 10, 5, 806), (.iload_n 2, 1, 0, 0, 0, 0), (.bastore, 1, 0, 0, 0, 0), (.aload_n 0, 1, 0, 0, 0, 0), (.getfield 29, 3, 0, 10, 8, 809), (.aload_n 0, 1, 0, 0, 0, 0), (.getfield 111, 3, 0, 10, 5, 806), (.iconst 1, 1, 1, 0, 0, 0), (.bastore, 1, 0, 0, 0, 0), (.aload_n 0, 1, 0, 0, 0, 0), (.dup, 1, 0, 0, 0, 0), (.getfield 111, 3, 0, 10, 5, 806), (.iconst 1, 1, 1, 0, 0, 0), (.iadd, 1, 0, 0, 0, 0), (.putfield 111, 3, 0, 10, 5, 806), (.aload_n 0, 1, 0, 0, 0, 0), (.getfield 111, 3, 0, 10, 5, 806), (.iconst 1, 1, 1, 0, 0, 0), (.isub, 1, 0, 0, 0, 0), (.ireturn, 1, 0, 0, 0, 0)])]
/-- X10_isTrip -/
def tp_P107 : List (Nat × List tp_Ins) := [(0, [(.iload_n 1, 1, 0, 0, 0, 0), (.i2l, 1, 0, 0, 0, 0), (.lconst 0, 1, 0, 0, 0, 0), (.aload_n 0, 1, 0, 0, 0, 0), (.getfield 111, 3, 0, 10, 5, 806), (.iconst 1, 1, 1, 0, 0, 0), (.isub, 1, 0, 0, 0, 0), (.i2l, 1, 0, 0, 0, 0), (.invokestatic 89, 3, 0, 101, 3, 939), (.ireturn, 1, 0, 0, 0, 0)])]
/-- X10_moneyOf -/
def tp_P108 : List (Nat × List tp_Ins) := [(0, [(.iconst 0, 1, 0, 0, 0, 0), (.istore_n 2, 1, 0, 0, 0, 0), (.iconst 0, 1, 0, 0, 0, 0), (.istore_n 3, 1, 0, 0, 0, 0)]),
  (4, [(.iload_n 3, 1, 0, 0, 0, 0), (.aload_n 0, 1, 0, 0, 0, 0), (.getfield 108, 3, 0, 10, 9, 810), (.if_icmp .ge 37, 3, 0, 46, 0, 0), (.iload_n 2, 1, 0, 0, 0, 0), (.aload_n 0, 1, 0, 0, 0, 0), (.getfield 32, 3, 0, 10, 10, 811), (.iload_n 3, 1, 0, 0, 0, 0), (.iaload, 1, 0, 0, 0, 0), (.iload_n 1, 1, 0, 0, 0, 0), (.if_icmp .ne 17, 3, 0, 37, 0, 0), (.aload_n 0, 1, 0, 0, 0, 0), (.getfield 7, 3, 0, 10, 1, 802), (.aload_n 0, 1, 0, 0, 0, 0), (.getfield 35, 3, 0, 10, 11, 812), (.iload_n 3, 1, 0, 0, 0, 0), (.iaload, 1, 0, 0, 0, 0), (.iaload, 1, 0, 0, 0, 0), (.goto 4, 3, 0, 38, 0, 0)]),
  (37, [(.iconst 0, 1, 0, 0, 0, 0)]),
  (38, [(.iadd, 1, 0, 0, 0, 0), (.istore_n 2, 1, 0, 0, 0, 0), (.iinc 3 1, 3, 1, 0, 0, 0), (.goto (-39), 3, 0, 4, 0, 0)]),
  (46, [(.iload_n 2, 1, 0, 0, 0, 0), (.ireturn, 1, 0, 0, 0, 0)])]
/-- X10_close -/
def tp_P109 : List (Nat × List tp_Ins) := [(0, [(.aload_n 0, 1, 0, 0, 0, 0), (.iload_n 1, 1, 0, 0, 0, 0), (.invokevirtual 114, 3, 0, 107, 2, 966), (.ifCond .ne 5, 3, 0, 10, 0, 0), (.iconst (-1), 1, -1, 0, 0, 0), (.ireturn, 1, 0, 0, 0, 0)]),
  (10, [(.aload_n 0, 1, 0, 0, 0, 0), (.getfield 29, 3, 0, 10, 8, 809), (.iload_n 1, 1, 0, 0, 0, 0), (.baload, 1, 0, 0, 0, 0), (.ifCond .ne 6, 3, 0, 22, 0, 0), (.bipush (-2), 2, -2, 0, 0, 0), (.ireturn, 1, 0, 0, 0, 0)]),
  (22, [(.aload_n 0, 1, 0, 0, 0, 0), (.getfield 29, 3, 0, 10, 8, 809), (.iload_n 1, 1, 0, 0, 0, 0), (.iconst 0, 1, 0, 0, 0, 0), (.bastore, 1, 0, 0, 0, 0), (.aload_n 0, 1, 0, 0, 0, 0), (.iload_n 1, 1, 0, 0, 0, 0), (.invokevirtual 118, 3, 0, 108, 2, 970), (.ireturn, 1, 0, 0, 0, 0)])]
/-- X10_along -/
def tp_P110 : List (Nat × List tp_Ins) := [(0, [(.aload_n 0, 1, 0, 0, 0, 0), (.getfield 25, 3, 0, 10, 7, 808), (.iload_n 1, 1, 0, 0, 0, 0), (.baload, 1, 0, 0, 0, 0), (.ifCond .eq 7, 3, 0, 13, 0, 0), (.iload_n 2, 1, 0, 0, 0, 0), (.goto 7, 3, 0, 17, 0, 0)]),
  (13, [(.bipush 9, 2, 9, 0, 0, 0), (.iload_n 2, 1, 0, 0, 0, 0), (.isub, 1, 0, 0, 0, 0)]),
  (17, [(.ireturn, 1, 0, 0, 0, 0)])]
/-- X10_latestOf -/
def tp_P111 : List (Nat × List tp_Ins) := [(0, [(.iconst 0, 1, 0, 0, 0, 0), (.istore_n 2, 1, 0, 0, 0, 0), (.iconst 0, 1, 0, 0, 0, 0), (.istore_n 3, 1, 0, 0, 0, 0)]),
  (4, [(.iload_n 3, 1, 0, 0, 0, 0), (.aload_n 0, 1, 0, 0, 0, 0), (.getfield 108, 3, 0, 10, 9, 810), (.if_icmp .ge 35, 3, 0, 44, 0, 0), (.aload_n 0, 1, 0, 0, 0, 0), (.getfield 32, 3, 0, 10, 10, 811), (.iload_n 3, 1, 0, 0, 0, 0), (.iaload, 1, 0, 0, 0, 0), (.iload_n 1, 1, 0, 0, 0, 0), (.if_icmp .ne 17, 3, 0, 36, 0, 0), (.aload_n 0, 1, 0, 0, 0, 0), (.iload_n 1, 1, 0, 0, 0, 0), (.aload_n 0, 1, 0, 0, 0, 0), (.getfield 38, 3, 0, 10, 12, 813), (.iload_n 3, 1, 0, 0, 0, 0), (.iaload, 1, 0, 0, 0, 0), (.invokevirtual 122, 3, 0, 110, 3, 978), (.goto 4, 3, 0, 37, 0, 0)]),
  (36, [(.iload_n 2, 1, 0, 0, 0, 0)]),
  (37, [(.istore_n 2, 1, 0, 0, 0, 0), (.iinc 3 1, 3, 1, 0, 0, 0), (.goto (-37), 3, 0, 4, 0, 0)]),
  (44, [(.iload_n 2, 1, 0, 0, 0, 0), (.ireturn, 1, 0, 0, 0, 0)])]
/-- X10_sell -/
def tp_P112 : List (Nat × List tp_Ins) := [(0, [(.aload_n 0, 1, 0, 0, 0, 0), (.iload_n 1, 1, 0, 0, 0, 0), (.invokevirtual 114, 3, 0, 107, 2, 966), (.ifCond .eq 31, 3, 0, 36, 0, 0), (.iload_n 2, 1, 0, 0, 0, 0), (.i2l, 1, 0, 0, 0, 0), (.lconst 0, 1, 0, 0, 0, 0), (.aload_n 0, 1, 0, 0, 0, 0), (.getfield 95, 3, 0, 10, 0, 801), (.iconst 1, 1, 1, 0, 0, 0), (.isub, 1, 0, 0, 0, 0), (.i2l, 1, 0, 0, 0, 0), (.invokestatic 89, 3, 0, 101, 3, 939), (.ifCond .eq 15, 3, 0, 36, 0, 0), (.iload_n 3, 1, 0, 0, 0, 0), (.i2l, 1, 0, 0, 0, 0), (.lconst 0, 1, 0, 0, 0, 0), (.ldc2_w 93, 3, 0, 9, 0, 942), (.invokestatic 89, 3, 0, 101, 3, 939), (.ifCond .ne 5, 3, 0, 38, 0, 0)]),
  (36, [(.iconst (-1), 1, -1, 0, 0, 0), (.ireturn, 1, 0, 0, 0, 0)]),
  (38, [(.aload_n 0, 1, 0, 0, 0, 0), (.getfield 29, 3, 0, 10, 8, 809), (.iload_n 1, 1, 0, 0, 0, 0), (.baload, 1, 0, 0, 0, 0), (.ifCond .eq 28, 3, 0, 72, 0, 0), (.aload_n 0, 1, 0, 0, 0, 0), (.iload_n 1, 1, 0, 0, 0, 0), (.iload_n 3, 1, 0, 0, 0, 0), (.invokevirtual 122, 3, 0, 110, 3, 978), (.aload_n 0, 1, 0, 0, 0, 0), (.iload_n 1, 1, 0, 0, 0, 0), (.invokevirtual 126, 3, 0, 111, 2, 982), (.if_icmp .lt 14, 3, 0, 72, 0, 0), (.aload_n 0, 1, 0, 0, 0, 0), (.iload_n 1, 1, 0, 0, 0, 0), (.iload_n 3, 1, 0, 0, 0, 0), (.invokevirtual 122, 3, 0, 110, 3, 978), (.bipush 9, 2, 9, 0, 0, 0), (.if_icmp .ne 6, 3, 0, 75, 0, 0)]),
  (72, [(.bipush (-2), 2, -2, 0, 0, 0), (.ireturn, 1, 0, 0, 0, 0)]),
  (75, [(.aload_n 0, 1, 0, 0, 0, 0), (.getfield 108, 3, 0, 10, 9, 810), (.sipush 200, 3, 200, 0, 0, 0), (.if_icmp .ne 6, 3, 0, 88, 0, 0), (.bipush (-3), 2, -3, 0, 0, 0), (.ireturn, 1, 0, 0, 0, 0)]),
  (88, [(.iconst 5, 1, 5, 0, 0, 0), (.aload_n 0, 1, 0, 0, 0, 0), (.getfield 22, 3, 0, 10, 6, 807), (.iload_n 1, 1, 0, 0, 0, 0), (.iaload, 1, 0, 0, 0, 0), (.imul, 1, 0, 0, 0, 0), (.iload_n 2, 1, 0, 0, 0, 0), (.iadd, 1, 0, 0, 0, 0), (.istore 4, 2, 0, 0, 0, 0), (.aload_n 0, 1, 0, 0, 0, 0), (.getfield 16, 3, 0, 10, 3, 804), (.iload 4, 2, 0, 0, 0, 0), (.iaload, 1, 0, 0, 0, 0), (.aload_n 0, 1, 0, 0, 0, 0), (.getfield 19, 3, 0, 10, 4, 805), (.iload 4, 2, 0, 0, 0, 0), (.iaload, 1, 0, 0, 0, 0), (.if_icmp .ne 6, 3, 0, 120, 0, 0), (.bipush (-4), 2, -4, 0, 0, 0), (.ireturn, 1, 0, 0, 0, 0)]),
  (120, [(.aload_n 0, 1, 0, 0, 0, 0), (.getfield 32, 3, 0, 10, 10, 811), (.aload_n 0, 1, 0, 0, 0, 0), (.getfield 108, 3, 0, 10, 9, 810), (.iload_n 1, 1, 0, 0, 0, 0), (.iastore, 1, 0, 0, 0, 0), (.aload_n 0, 1, 0, 0, 0, 0), (.getfield 35, 3, 0, 10, 11, 812), (.aload_n 0, 1, 0, 0, 0, 0), (.getfield 108, 3, 0, 10, 9, 810), (.iload_n 2, 1, 0, 0, 0, 0), (.iastore, 1, 0, 0, 0, 0), (.aload_n 0, 1, 0, 0, 0, 0), (.getfield 38, 3, 0, 10, 12, 813), (.aload_n 0, 1, 0, 0, 0, 0), (.getfield 108, 3, 0, 10, 9, 810), (.iload_n 3, 1, 0, 0, 0, 0), (.iastore, 1, 0, 0, 0, 0), (.aload_n 0, 1, 0, 0, 0, 0), (.getfield 41, 3, 0, 10, 13, 814), (.aload_n 0, 1, 0, 0, 0, 0), (.getfield 108, 3, 0, 10, 9, 810), (.aload_n 0, 1, 0, 0, 0, 0), (.getfield 16, 3, 0, 10, 3, 804), (.iload 4, 2, 0, 0, 0, 0), (.iaload, 1, 0, 0, 0, 0), (.iastore, 1, 0, 0, 0, 0), (.aload_n 0, 1, 0, 0, 0, 0), (.getfield 16, 3, 0, 10, 3, 804), (.iload 4, 2, 0, 0, 0, 0), (.dup2, 1, 0, 0, 0, 0), (.iaload, 1, 0, 0, 0, 0), (.iconst 1, 1, 1, 0, 0, 0), (.iadd, 1, 0, 0, 0, 0), (.iastore, 1, 0, 0, 0, 0), (.aload_n 0, 1, 0, 0, 0, 0), (.dup, 1, 0, 0, 0, 0), (.getfield 108, 3, 0, 10, 9, 810), (.iconst 1, 1, 1, 0, 0, 0), (.iadd, 1, 0, 0, 0, 0), (.putfield 108, 3, 0, 10, 9, 810), (.aload_n 0, 1, 0, 0, 0, 0), (.getfield 41, 3, 0, 10, 13, 814), (.aload_n 0, 1, 0, 0, 0, 0), (.getfield 108, 3, 0, 10, 9, 810), (.iconst 1, 1, 1, 0, 0, 0), (.isub, 1, 0, 0, 0, 0), (.iaload, 1, 0, 0, 0, 0), (.ireturn, 1, 0, 0, 0, 0)])]
/-- X10_undo -/
def tp_P113 : List (Nat × List tp_Ins) := [(0, [(.aload_n 0, 1, 0, 0, 0, 0), (.getfield 108, 3, 0, 10, 9, 810), (.ifCond .ne 6, 3, 0, 10, 0, 0), (.bipush (-4), 2, -4, 0, 0, 0), (.ireturn, 1, 0, 0, 0, 0)]),
  (10, [(.aload_n 0, 1, 0, 0, 0, 0), (.getfield 108, 3, 0, 10, 9, 810), (.iconst 1, 1, 1, 0, 0, 0), (.isub, 1, 0, 0, 0, 0), (.istore_n 1, 1, 0, 0, 0, 0), (.iconst 5, 1, 5, 0, 0, 0), (.aload_n 0, 1, 0, 0, 0, 0), (.getfield 22, 3, 0, 10, 6, 807), (.aload_n 0, 1, 0, 0, 0, 0), (.getfield 32, 3, 0, 10, 10, 811), (.iload_n 1, 1, 0, 0, 0, 0), (.iaload, 1, 0, 0, 0, 0), (.iaload, 1, 0, 0, 0, 0), (.imul, 1, 0, 0, 0, 0), (.aload_n 0, 1, 0, 0, 0, 0), (.getfield 35, 3, 0, 10, 11, 812), (.iload_n 1, 1, 0, 0, 0, 0), (.iaload, 1, 0, 0, 0, 0), (.iadd, 1, 0, 0, 0, 0), (.istore_n 2, 1, 0, 0, 0, 0), (.aload_n 0, 1, 0, 0, 0, 0), (.getfield 29, 3, 0, 10, 8, 809), (.aload_n 0, 1, 0, 0, 0, 0), (.getfield 32, 3, 0, 10, 10, 811), (.iload_n 1, 1, 0, 0, 0, 0), (.iaload, 1, 0, 0, 0, 0), (.baload, 1, 0, 0, 0, 0), (.ifCond .eq 20, 3, 0, 69, 0, 0), (.aload_n 0, 1, 0, 0, 0, 0), (.getfield 16, 3, 0, 10, 3, 804), (.iload_n 2, 1, 0, 0, 0, 0), (.iaload, 1, 0, 0, 0, 0), (.aload_n 0, 1, 0, 0, 0, 0), (.getfield 41, 3, 0, 10, 13, 814), (.iload_n 1, 1, 0, 0, 0, 0), (.iaload, 1, 0, 0, 0, 0), (.iconst 1, 1, 1, 0, 0, 0), (.iadd, 1, 0, 0, 0, 0), (.if_icmp .eq 6, 3, 0, 72, 0, 0)]),
  (69, [(.bipush (-2), 2, -2, 0, 0, 0), (.ireturn, 1, 0, 0, 0, 0)]),
  (72, [(.aload_n 0, 1, 0, 0, 0, 0), (.getfield 16, 3, 0, 10, 3, 804), (.iload_n 2, 1, 0, 0, 0, 0), (.dup2, 1, 0, 0, 0, 0), (.iaload, 1, 0, 0, 0, 0), (.iconst 1, 1, 1, 0, 0, 0), (.isub, 1, 0, 0, 0, 0), (.iastore, 1, 0, 0, 0, 0), (.aload_n 0, 1, 0, 0, 0, 0), (.dup, 1, 0, 0, 0, 0), (.getfield 108, 3, 0, 10, 9, 810), (.iconst 1, 1, 1, 0, 0, 0), (.isub, 1, 0, 0, 0, 0), (.putfield 108, 3, 0, 10, 9, 810), (.aload_n 0, 1, 0, 0, 0, 0), (.getfield 108, 3, 0, 10, 9, 810), (.ireturn, 1, 0, 0, 0, 0)])]
/-- X10_sheet -/
def tp_P114 : List (Nat × List tp_Ins) := [(0, [(.iload_n 1, 1, 0, 0, 0, 0), (.i2l, 1, 0, 0, 0, 0), (.lconst 0, 1, 0, 0, 0, 0), (.ldc2_w 129, 3, 0, 3, 0, 994), (.invokestatic 89, 3, 0, 101, 3, 939), (.ifCond .eq 21, 3, 0, 30, 0, 0), (.iload_n 2, 1, 0, 0, 0, 0), (.i2l, 1, 0, 0, 0, 0), (.lconst 0, 1, 0, 0, 0, 0), (.ldc2_w 131, 3, 0, 2, 0, 995), (.invokestatic 89, 3, 0, 101, 3, 939), (.ifCond .eq 9, 3, 0, 30, 0, 0), (.iload_n 3, 1, 0, 0, 0, 0), (.bipush 64, 2, 64, 0, 0, 0), (.if_icmp .le 5, 3, 0, 32, 0, 0)]),
  (30, [(.iconst (-1), 1, -1, 0, 0, 0), (.ireturn, 1, 0, 0, 0, 0)]),
  (32, [(.iload_n 3, 1, 0, 0, 0, 0), (.ifCond .ge 6, 3, 0, 39, 0, 0), (.bipush (-14), 2, -14, 0, 0, 0), (.ireturn, 1, 0, 0, 0, 0)]),
  (39, [(.aload_n 0, 1, 0, 0, 0, 0), (.getfield 44, 3, 0, 10, 14, 815), (.iload_n 1, 1, 0, 0, 0, 0), (.iload_n 2, 1, 0, 0, 0, 0), (.iastore, 1, 0, 0, 0, 0), (.aload_n 0, 1, 0, 0, 0, 0), (.getfield 47, 3, 0, 10, 15, 816), (.iload_n 1, 1, 0, 0, 0, 0), (.iload_n 3, 1, 0, 0, 0, 0), (.iastore, 1, 0, 0, 0, 0), (.iconst 0, 1, 0, 0, 0, 0), (.istore 4, 2, 0, 0, 0, 0)]),
  (56, [(.iload 4, 2, 0, 0, 0, 0), (.bipush 64, 2, 64, 0, 0, 0), (.if_icmp .ge 22, 3, 0, 82, 0, 0), (.aload_n 0, 1, 0, 0, 0, 0), (.getfield 50, 3, 0, 10, 16, 817), (.bipush 64, 2, 64, 0, 0, 0), (.iload_n 1, 1, 0, 0, 0, 0), (.imul, 1, 0, 0, 0, 0), (.iload 4, 2, 0, 0, 0, 0), (.iadd, 1, 0, 0, 0, 0), (.iconst 0, 1, 0, 0, 0, 0), (.iastore, 1, 0, 0, 0, 0), (.iinc 4 1, 3, 1, 0, 0, 0), (.goto (-23), 3, 0, 56, 0, 0)]),
  (82, [(.iconst 1, 1, 1, 0, 0, 0), (.ireturn, 1, 0, 0, 0, 0)])]
/-- X10_lay -/
def tp_P115 : List (Nat × List tp_Ins) := [(0, [(.iload_n 1, 1, 0, 0, 0, 0), (.i2l, 1, 0, 0, 0, 0), (.lconst 0, 1, 0, 0, 0, 0), (.ldc2_w 129, 3, 0, 3, 0, 994), (.invokestatic 89, 3, 0, 101, 3, 939), (.ifCond .ne 5, 3, 0, 14, 0, 0), (.iconst (-1), 1, -1, 0, 0, 0), (.ireturn, 1, 0, 0, 0, 0)]),
  (14, [(.aload_n 0, 1, 0, 0, 0, 0), (.getfield 44, 3, 0, 10, 14, 815), (.iload_n 1, 1, 0, 0, 0, 0), (.iaload, 1, 0, 0, 0, 0), (.bipush (-4), 2, -4, 0, 0, 0), (.if_icmp .ne 6, 3, 0, 28, 0, 0), (.bipush (-11), 2, -11, 0, 0, 0), (.ireturn, 1, 0, 0, 0, 0)]),
  (28, [(.iload_n 2, 1, 0, 0, 0, 0), (.i2l, 1, 0, 0, 0, 0), (.lconst 0, 1, 0, 0, 0, 0), (.aload_n 0, 1, 0, 0, 0, 0), (.getfield 47, 3, 0, 10, 15, 816), (.iload_n 1, 1, 0, 0, 0, 0), (.iaload, 1, 0, 0, 0, 0), (.iconst 1, 1, 1, 0, 0, 0), (.isub, 1, 0, 0, 0, 0), (.i2l, 1, 0, 0, 0, 0), (.invokestatic 89, 3, 0, 101, 3, 939), (.ifCond .ne 6, 3, 0, 49, 0, 0), (.bipush (-12), 2, -12, 0, 0, 0), (.ireturn, 1, 0, 0, 0, 0)]),
  (49, [(.aload_n 0, 1, 0, 0, 0, 0), (.getfield 50, 3, 0, 10, 16, 817), (.bipush 64, 2, 64, 0, 0, 0), (.iload_n 1, 1, 0, 0, 0, 0), (.imul, 1, 0, 0, 0, 0), (.iload_n 2, 1, 0, 0, 0, 0), (.iadd, 1, 0, 0, 0, 0), (.aload_n 0, 1, 0, 0, 0, 0), (.getfield 44, 3, 0, 10, 14, 815), (.iload_n 1, 1, 0, 0, 0, 0), (.iaload, 1, 0, 0, 0, 0), (.ifCond .ne 13, 3, 0, 78, 0, 0), (.iload_n 3, 1, 0, 0, 0, 0), (.bipush 24, 2, 24, 0, 0, 0), (.ishl, 1, 0, 0, 0, 0), (.bipush 24, 2, 24, 0, 0, 0), (.ishr, 1, 0, 0, 0, 0), (.goto 24, 3, 0, 99, 0, 0)]),
  (78, [(.aload_n 0, 1, 0, 0, 0, 0), (.getfield 44, 3, 0, 10, 14, 815), (.iload_n 1, 1, 0, 0, 0, 0), (.iaload, 1, 0, 0, 0, 0), (.iconst 1, 1, 1, 0, 0, 0), (.if_icmp .ne 13, 3, 0, 98, 0, 0), (.iload_n 3, 1, 0, 0, 0, 0), (.bipush 16, 2, 16, 0, 0, 0), (.ishl, 1, 0, 0, 0, 0), (.bipush 16, 2, 16, 0, 0, 0), (.ishr, 1, 0, 0, 0, 0), (.goto 4, 3, 0, 99, 0, 0)]),
  (98, [(.iload_n 3, 1, 0, 0, 0, 0)]),
  (99, [(.iastore, 1, 0, 0, 0, 0), (.iconst 1, 1, 1, 0, 0, 0), (.ireturn, 1, 0, 0, 0, 0)])]
/-- X10_scan -/
def tp_P116 : List (Nat × List tp_Ins) := [(0, [(.aload_n 0, 1, 0, 0, 0, 0), (.iload_n 1, 1, 0, 0, 0, 0), (.invokevirtual 114, 3, 0, 107, 2, 966), (.ifCond .eq 40, 3, 0, 45, 0, 0), (.iload_n 2, 1, 0, 0, 0, 0), (.i2l, 1, 0, 0, 0, 0), (.lconst 0, 1, 0, 0, 0, 0), (.ldc2_w 129, 3, 0, 3, 0, 994), (.invokestatic 89, 3, 0, 101, 3, 939), (.ifCond .eq 28, 3, 0, 45, 0, 0), (.iload_n 3, 1, 0, 0, 0, 0), (.i2l, 1, 0, 0, 0, 0), (.lconst 0, 1, 0, 0, 0, 0), (.ldc2_w 131, 3, 0, 2, 0, 995), (.invokestatic 89, 3, 0, 101, 3, 939), (.ifCond .eq 16, 3, 0, 45, 0, 0), (.iload 5, 2, 0, 0, 0, 0), (.i2l, 1, 0, 0, 0, 0), (.lconst 0, 1, 0, 0, 0, 0), (.ldc2_w 133, 3, 0, 32, 0, 1004), (.invokestatic 89, 3, 0, 101, 3, 939), (.ifCond .ne 5, 3, 0, 47, 0, 0)]),
  (45, [(.iconst (-1), 1, -1, 0, 0, 0), (.ireturn, 1, 0, 0, 0, 0)]),
  (47, [(.aload_n 0, 1, 0, 0, 0, 0), (.getfield 44, 3, 0, 10, 14, 815), (.iload_n 2, 1, 0, 0, 0, 0), (.iaload, 1, 0, 0, 0, 0), (.iload_n 3, 1, 0, 0, 0, 0), (.if_icmp .eq 22, 3, 0, 76, 0, 0), (.aload_n 0, 1, 0, 0, 0, 0), (.getfield 44, 3, 0, 10, 14, 815), (.iload_n 2, 1, 0, 0, 0, 0), (.iaload, 1, 0, 0, 0, 0), (.bipush (-4), 2, -4, 0, 0, 0), (.if_icmp .ne 8, 3, 0, 73, 0, 0), (.bipush (-11), 2, -11, 0, 0, 0), (.goto 5, 3, 0, 75, 0, 0)]),
  (73, [(.bipush (-13), 2, -13, 0, 0, 0)]),
  (75, [(.ireturn, 1, 0, 0, 0, 0)]),
  (76, [(.aload_n 0, 1, 0, 0, 0, 0), (.getfield 108, 3, 0, 10, 9, 810), (.istore 6, 2, 0, 0, 0, 0), (.iconst 0, 1, 0, 0, 0, 0), (.istore 7, 2, 0, 0, 0, 0), (.iconst 0, 1, 0, 0, 0, 0), (.istore 8, 2, 0, 0, 0, 0)]),
  (88, [(.iload 8, 2, 0, 0, 0, 0), (.iload 5, 2, 0, 0, 0, 0), (.if_icmp .ge 99, 3, 0, 191, 0, 0), (.iload 7, 2, 0, 0, 0, 0), (.ifCond .ne 94, 3, 0, 191, 0, 0), (.iload 4, 2, 0, 0, 0, 0), (.i2l, 1, 0, 0, 0, 0), (.iconst 2, 1, 2, 0, 0, 0), (.iload 8, 2, 0, 0, 0, 0), (.imul, 1, 0, 0, 0, 0), (.i2l, 1, 0, 0, 0, 0), (.ladd, 1, 0, 0, 0, 0), (.lstore 9, 2, 0, 0, 0, 0), (.lload 9, 2, 0, 0, 0, 0), (.lconst 0, 1, 0, 0, 0, 0), (.aload_n 0, 1, 0, 0, 0, 0), (.getfield 47, 3, 0, 10, 15, 816), (.iload_n 2, 1, 0, 0, 0, 0), (.iaload, 1, 0, 0, 0, 0), (.iconst 2, 1, 2, 0, 0, 0), (.isub, 1, 0, 0, 0, 0), (.i2l, 1, 0, 0, 0, 0), (.invokestatic 89, 3, 0, 101, 3, 939), (.ifCond .ne 10, 3, 0, 136, 0, 0), (.bipush (-12), 2, -12, 0, 0, 0), (.istore 7, 2, 0, 0, 0, 0), (.goto 52, 3, 0, 185, 0, 0)]),
  (136, [(.bipush 64, 2, 64, 0, 0, 0), (.iload_n 2, 1, 0, 0, 0, 0), (.imul, 1, 0, 0, 0, 0), (.lload 9, 2, 0, 0, 0, 0), (.l2i, 1, 0, 0, 0, 0), (.iadd, 1, 0, 0, 0, 0), (.istore 11, 2, 0, 0, 0, 0), (.aload_n 0, 1, 0, 0, 0, 0), (.iload_n 1, 1, 0, 0, 0, 0), (.aload_n 0, 1, 0, 0, 0, 0), (.getfield 50, 3, 0, 10, 16, 817), (.iload 11, 2, 0, 0, 0, 0), (.iaload, 1, 0, 0, 0, 0), (.aload_n 0, 1, 0, 0, 0, 0), (.getfield 50, 3, 0, 10, 16, 817), (.iload 11, 2, 0, 0, 0, 0), (.iconst 1, 1, 1, 0, 0, 0), (.iadd, 1, 0, 0, 0, 0), (.iaload, 1, 0, 0, 0, 0), (.invokevirtual 135, 3, 0, 112, 4, 1005), (.istore 12, 2, 0, 0, 0, 0), (.iload 12, 2, 0, 0, 0, 0), (.ifCond .ge 11, 3, 0, 182, 0, 0), (.bipush (-20), 2, -20, 0, 0, 0), (.iload 12, 2, 0, 0, 0, 0), (.iadd, 1, 0, 0, 0, 0), (.goto 4, 3, 0, 183, 0, 0)]),
  (182, [(.iconst 0, 1, 0, 0, 0, 0)]),
  (183, [(.istore 7, 2, 0, 0, 0, 0)]),
  (185, [(.iinc 8 1, 3, 1, 0, 0, 0), (.goto (-100), 3, 0, 88, 0, 0)]),
  (191, [(.iload 7, 2, 0, 0, 0, 0), (.ifCond .ge 54, 3, 0, 247, 0, 0), (.aload_n 0, 1, 0, 0, 0, 0), (.getfield 108, 3, 0, 10, 9, 810), (.iload 6, 2, 0, 0, 0, 0), (.if_icmp .le 45, 3, 0, 247, 0, 0), (.aload_n 0, 1, 0, 0, 0, 0), (.getfield 16, 3, 0, 10, 3, 804), (.iconst 5, 1, 5, 0, 0, 0), (.aload_n 0, 1, 0, 0, 0, 0), (.getfield 22, 3, 0, 10, 6, 807), (.iload_n 1, 1, 0, 0, 0, 0), (.iaload, 1, 0, 0, 0, 0), (.imul, 1, 0, 0, 0, 0), (.aload_n 0, 1, 0, 0, 0, 0), (.getfield 35, 3, 0, 10, 11, 812), (.aload_n 0, 1, 0, 0, 0, 0), (.getfield 108, 3, 0, 10, 9, 810), (.iconst 1, 1, 1, 0, 0, 0), (.isub, 1, 0, 0, 0, 0), (.iaload, 1, 0, 0, 0, 0), (.iadd, 1, 0, 0, 0, 0), (.dup2, 1, 0, 0, 0, 0), (.iaload, 1, 0, 0, 0, 0), (.iconst 1, 1, 1, 0, 0, 0), (.isub, 1, 0, 0, 0, 0), (.iastore, 1, 0, 0, 0, 0), (.aload_n 0, 1, 0, 0, 0, 0), (.dup, 1, 0, 0, 0, 0), (.getfield 108, 3, 0, 10, 9, 810), (.iconst 1, 1, 1, 0, 0, 0), (.isub, 1, 0, 0, 0, 0), (.putfield 108, 3, 0, 10, 9, 810), (.goto (-53), 3, 0, 191, 0, 0)]),
  (247, [(.iload 7, 2, 0, 0, 0, 0), (.ifCond .ge 8, 3, 0, 257, 0, 0), (.iload 7, 2, 0, 0, 0, 0), (.goto 5, 3, 0, 259, 0, 0)]),
  (257, [(.iload 5, 2, 0, 0, 0, 0)]),
  (259, [(.ireturn, 1, 0, 0, 0, 0)])]
/-- X10_waybill -/
def tp_P117 : List (Nat × List tp_Ins) := [(0, [(.aload_n 0, 1, 0, 0, 0, 0), (.iload_n 1, 1, 0, 0, 0, 0), (.invokevirtual 114, 3, 0, 107, 2, 966), (.ifCond .eq 31, 3, 0, 36, 0, 0), (.iload_n 2, 1, 0, 0, 0, 0), (.i2l, 1, 0, 0, 0, 0), (.lconst 0, 1, 0, 0, 0, 0), (.aload_n 0, 1, 0, 0, 0, 0), (.getfield 95, 3, 0, 10, 0, 801), (.iconst 1, 1, 1, 0, 0, 0), (.isub, 1, 0, 0, 0, 0), (.i2l, 1, 0, 0, 0, 0), (.invokestatic 89, 3, 0, 101, 3, 939), (.ifCond .eq 15, 3, 0, 36, 0, 0), (.iload_n 3, 1, 0, 0, 0, 0), (.i2l, 1, 0, 0, 0, 0), (.lconst 0, 1, 0, 0, 0, 0), (.ldc2_w 131, 3, 0, 2, 0, 995), (.invokestatic 89, 3, 0, 101, 3, 939), (.ifCond .ne 5, 3, 0, 38, 0, 0)]),
  (36, [(.iconst (-1), 1, -1, 0, 0, 0), (.ireturn, 1, 0, 0, 0, 0)]),
  (38, [(.iconst 0, 1, 0, 0, 0, 0), (.istore 4, 2, 0, 0, 0, 0), (.bipush (-4), 2, -4, 0, 0, 0), (.istore 5, 2, 0, 0, 0, 0), (.bipush (-4), 2, -4, 0, 0, 0), (.istore 6, 2, 0, 0, 0, 0), (.iconst 0, 1, 0, 0, 0, 0), (.istore 7, 2, 0, 0, 0, 0)]),
  (52, [(.iload 7, 2, 0, 0, 0, 0), (.aload_n 0, 1, 0, 0, 0, 0), (.getfield 108, 3, 0, 10, 9, 810), (.if_icmp .ge 62, 3, 0, 120, 0, 0), (.aload_n 0, 1, 0, 0, 0, 0), (.getfield 32, 3, 0, 10, 10, 811), (.iload 7, 2, 0, 0, 0, 0), (.iaload, 1, 0, 0, 0, 0), (.iload_n 1, 1, 0, 0, 0, 0), (.if_icmp .ne 45, 3, 0, 114, 0, 0), (.aload_n 0, 1, 0, 0, 0, 0), (.getfield 35, 3, 0, 10, 11, 812), (.iload 7, 2, 0, 0, 0, 0), (.iaload, 1, 0, 0, 0, 0), (.iload_n 2, 1, 0, 0, 0, 0), (.if_icmp .ne 34, 3, 0, 114, 0, 0), (.iload 4, 2, 0, 0, 0, 0), (.ifCond .ne 13, 3, 0, 98, 0, 0), (.aload_n 0, 1, 0, 0, 0, 0), (.getfield 41, 3, 0, 10, 13, 814), (.iload 7, 2, 0, 0, 0, 0), (.iaload, 1, 0, 0, 0, 0), (.goto 5, 3, 0, 100, 0, 0)]),
  (98, [(.iload 5, 2, 0, 0, 0, 0)]),
  (100, [(.istore 5, 2, 0, 0, 0, 0), (.aload_n 0, 1, 0, 0, 0, 0), (.getfield 41, 3, 0, 10, 13, 814), (.iload 7, 2, 0, 0, 0, 0), (.iaload, 1, 0, 0, 0, 0), (.istore 6, 2, 0, 0, 0, 0), (.iinc 4 1, 3, 1, 0, 0, 0)]),
  (114, [(.iinc 7 1, 3, 1, 0, 0, 0), (.goto (-65), 3, 0, 52, 0, 0)]),
  (120, [(.iload_n 3, 1, 0, 0, 0, 0), (.ifCond .ne 8, 3, 0, 129, 0, 0), (.iload 4, 2, 0, 0, 0, 0), (.goto 15, 3, 0, 141, 0, 0)]),
  (129, [(.iload_n 3, 1, 0, 0, 0, 0), (.iconst 1, 1, 1, 0, 0, 0), (.if_icmp .ne 8, 3, 0, 139, 0, 0), (.iload 5, 2, 0, 0, 0, 0), (.goto 5, 3, 0, 141, 0, 0)]),
  (139, [(.iload 6, 2, 0, 0, 0, 0)]),
  (141, [(.ireturn, 1, 0, 0, 0, 0)])]
/-- X10_money -/
def tp_P118 : List (Nat × List tp_Ins) := [(0, [(.aload_n 0, 1, 0, 0, 0, 0), (.iload_n 1, 1, 0, 0, 0, 0), (.invokevirtual 114, 3, 0, 107, 2, 966), (.ifCond .eq 11, 3, 0, 16, 0, 0), (.aload_n 0, 1, 0, 0, 0, 0), (.iload_n 1, 1, 0, 0, 0, 0), (.invokevirtual 118, 3, 0, 108, 2, 970), (.goto 4, 3, 0, 17, 0, 0)]),
  (16, [(.iconst (-1), 1, -1, 0, 0, 0)]),
  (17, [(.ireturn, 1, 0, 0, 0, 0)])]
/-- X10_paid -/
def tp_P119 : List (Nat × List tp_Ins) := [(0, [(.iload_n 1, 1, 0, 0, 0, 0), (.i2l, 1, 0, 0, 0, 0), (.lconst 0, 1, 0, 0, 0, 0), (.ldc2_w 98, 3, 0, 5, 0, 951), (.invokestatic 89, 3, 0, 101, 3, 939), (.ifCond .eq 15, 3, 0, 24, 0, 0), (.iload_n 2, 1, 0, 0, 0, 0), (.i2l, 1, 0, 0, 0, 0), (.lconst 0, 1, 0, 0, 0, 0), (.ldc2_w 104, 3, 0, 100000, 0, 952), (.invokestatic 89, 3, 0, 101, 3, 939), (.ifCond .ne 6, 3, 0, 27, 0, 0)]),
  (24, [(.ldc 139, 2, -1000000, 0, 0, 1018), (.ireturn, 1, 0, 0, 0, 0)]),
  (27, [(.iload_n 2, 1, 0, 0, 0, 0), (.istore_n 3, 1, 0, 0, 0, 0), (.iconst 0, 1, 0, 0, 0, 0), (.istore 4, 2, 0, 0, 0, 0)]),
  (32, [(.iload 4, 2, 0, 0, 0, 0), (.aload_n 0, 1, 0, 0, 0, 0), (.getfield 111, 3, 0, 10, 5, 806), (.if_icmp .ge 43, 3, 0, 81, 0, 0), (.iload_n 3, 1, 0, 0, 0, 0), (.aload_n 0, 1, 0, 0, 0, 0), (.getfield 22, 3, 0, 10, 6, 807), (.iload 4, 2, 0, 0, 0, 0), (.iaload, 1, 0, 0, 0, 0), (.iload_n 1, 1, 0, 0, 0, 0), (.if_icmp .ne 22, 3, 0, 72, 0, 0), (.aload_n 0, 1, 0, 0, 0, 0), (.getfield 29, 3, 0, 10, 8, 809), (.iload 4, 2, 0, 0, 0, 0), (.baload, 1, 0, 0, 0, 0), (.ifCond .ne 12, 3, 0, 72, 0, 0), (.aload_n 0, 1, 0, 0, 0, 0), (.iload 4, 2, 0, 0, 0, 0), (.invokevirtual 118, 3, 0, 108, 2, 970), (.goto 4, 3, 0, 73, 0, 0)]),
  (72, [(.iconst 0, 1, 0, 0, 0, 0)]),
  (73, [(.isub, 1, 0, 0, 0, 0), (.istore_n 3, 1, 0, 0, 0, 0), (.iinc 4 1, 3, 1, 0, 0, 0), (.goto (-46), 3, 0, 32, 0, 0)]),
  (81, [(.iload_n 3, 1, 0, 0, 0, 0), (.ireturn, 1, 0, 0, 0, 0)])]
/-- X10_beginOf -/
def tp_P120 : List (Nat × List tp_Ins) := [(0, [(.aload_n 0, 1, 0, 0, 0, 0), (.getfield 25, 3, 0, 10, 7, 808), (.iload_n 1, 1, 0, 0, 0, 0), (.baload, 1, 0, 0, 0, 0), (.ifCond .eq 7, 3, 0, 13, 0, 0), (.iload_n 2, 1, 0, 0, 0, 0), (.goto 7, 3, 0, 17, 0, 0)]),
  (13, [(.bipush 8, 2, 8, 0, 0, 0), (.iload_n 2, 1, 0, 0, 0, 0), (.isub, 1, 0, 0, 0, 0)]),
  (17, [(.ireturn, 1, 0, 0, 0, 0)])]
/-- X10_aboardOf -/
def tp_P121 : List (Nat × List tp_Ins) := [(0, [(.aload_n 0, 1, 0, 0, 0, 0), (.iload_n 1, 1, 0, 0, 0, 0), (.iload_n 2, 1, 0, 0, 0, 0), (.invokevirtual 140, 3, 0, 120, 3, 1028), (.istore 4, 2, 0, 0, 0, 0), (.iconst 0, 1, 0, 0, 0, 0), (.istore 5, 2, 0, 0, 0, 0), (.iconst 0, 1, 0, 0, 0, 0), (.istore 6, 2, 0, 0, 0, 0)]),
  (14, [(.iload 6, 2, 0, 0, 0, 0), (.aload_n 0, 1, 0, 0, 0, 0), (.getfield 108, 3, 0, 10, 9, 810), (.if_icmp .ge 90, 3, 0, 110, 0, 0), (.aload_n 0, 1, 0, 0, 0, 0), (.getfield 32, 3, 0, 10, 10, 811), (.iload 6, 2, 0, 0, 0, 0), (.iaload, 1, 0, 0, 0, 0), (.iload_n 1, 1, 0, 0, 0, 0), (.if_icmp .ne 73, 3, 0, 104, 0, 0), (.aload_n 0, 1, 0, 0, 0, 0), (.iload_n 1, 1, 0, 0, 0, 0), (.aload_n 0, 1, 0, 0, 0, 0), (.getfield 38, 3, 0, 10, 12, 813), (.iload 6, 2, 0, 0, 0, 0), (.iaload, 1, 0, 0, 0, 0), (.invokevirtual 122, 3, 0, 110, 3, 978), (.istore 7, 2, 0, 0, 0, 0), (.iload 5, 2, 0, 0, 0, 0), (.iload_n 3, 1, 0, 0, 0, 0), (.ifCond .eq 38, 3, 0, 89, 0, 0), (.iload 7, 2, 0, 0, 0, 0), (.iload 4, 2, 0, 0, 0, 0), (.if_icmp .gt 27, 3, 0, 85, 0, 0), (.iload 4, 2, 0, 0, 0, 0), (.iload 7, 2, 0, 0, 0, 0), (.aload_n 0, 1, 0, 0, 0, 0), (.getfield 13, 3, 0, 10, 2, 803), (.aload_n 0, 1, 0, 0, 0, 0), (.getfield 35, 3, 0, 10, 11, 812), (.iload 6, 2, 0, 0, 0, 0), (.iaload, 1, 0, 0, 0, 0), (.iaload, 1, 0, 0, 0, 0), (.iadd, 1, 0, 0, 0, 0), (.if_icmp .ge 7, 3, 0, 85, 0, 0), (.iconst 1, 1, 1, 0, 0, 0), (.goto 19, 3, 0, 101, 0, 0)]),
  (85, [(.iconst 0, 1, 0, 0, 0, 0), (.goto 15, 3, 0, 101, 0, 0)]),
  (89, [(.iload 7, 2, 0, 0, 0, 0), (.iload 4, 2, 0, 0, 0, 0), (.if_icmp .ne 7, 3, 0, 100, 0, 0), (.iconst 1, 1, 1, 0, 0, 0), (.goto 4, 3, 0, 101, 0, 0)]),
  (100, [(.iconst 0, 1, 0, 0, 0, 0)]),
  (101, [(.iadd, 1, 0, 0, 0, 0), (.istore 5, 2, 0, 0, 0, 0)]),
  (104, [(.iinc 6 1, 3, 1, 0, 0, 0), (.goto (-93), 3, 0, 14, 0, 0)]),
  (110, [(.iload 5, 2, 0, 0, 0, 0), (.ireturn, 1, 0, 0, 0, 0)])]
/-- X10_aboard -/
def tp_P122 : List (Nat × List tp_Ins) := [(0, [(.aload_n 0, 1, 0, 0, 0, 0), (.iload_n 1, 1, 0, 0, 0, 0), (.invokevirtual 114, 3, 0, 107, 2, 966), (.ifCond .eq 44, 3, 0, 49, 0, 0), (.iload_n 2, 1, 0, 0, 0, 0), (.i2l, 1, 0, 0, 0, 0), (.lconst 0, 1, 0, 0, 0, 0), (.ldc2_w 143, 3, 0, 8, 0, 1023), (.invokestatic 89, 3, 0, 101, 3, 939), (.ifCond .eq 32, 3, 0, 49, 0, 0), (.iload_n 3, 1, 0, 0, 0, 0), (.i2l, 1, 0, 0, 0, 0), (.lconst 0, 1, 0, 0, 0, 0), (.lconst 1, 1, 0, 0, 0, 0), (.invokestatic 89, 3, 0, 101, 3, 939), (.ifCond .eq 22, 3, 0, 49, 0, 0), (.aload_n 0, 1, 0, 0, 0, 0), (.iload_n 1, 1, 0, 0, 0, 0), (.iload_n 2, 1, 0, 0, 0, 0), (.iload_n 3, 1, 0, 0, 0, 0), (.iconst 1, 1, 1, 0, 0, 0), (.if_icmp .ne 7, 3, 0, 42, 0, 0), (.iconst 1, 1, 1, 0, 0, 0), (.goto 4, 3, 0, 43, 0, 0)]),
  (42, [(.iconst 0, 1, 0, 0, 0, 0)]),
  (43, [(.invokevirtual 145, 3, 0, 121, 4, 1024), (.goto 4, 3, 0, 50, 0, 0)]),
  (49, [(.iconst (-1), 1, -1, 0, 0, 0)]),
  (50, [(.ireturn, 1, 0, 0, 0, 0)])]
/-- X10_riders -/
def tp_P123 : List (Nat × List tp_Ins) := [(0, [(.iload_n 2, 1, 0, 0, 0, 0), (.i2l, 1, 0, 0, 0, 0), (.lconst 0, 1, 0, 0, 0, 0), (.ldc2_w 143, 3, 0, 8, 0, 1023), (.invokestatic 89, 3, 0, 101, 3, 939), (.ifCond .eq 13, 3, 0, 22, 0, 0), (.iload_n 3, 1, 0, 0, 0, 0), (.i2l, 1, 0, 0, 0, 0), (.lconst 0, 1, 0, 0, 0, 0), (.lconst 1, 1, 0, 0, 0, 0), (.invokestatic 89, 3, 0, 101, 3, 939), (.ifCond .ne 5, 3, 0, 24, 0, 0)]),
  (22, [(.iconst (-1), 1, -1, 0, 0, 0), (.ireturn, 1, 0, 0, 0, 0)]),
  (24, [(.iconst 0, 1, 0, 0, 0, 0), (.istore 4, 2, 0, 0, 0, 0), (.iconst 0, 1, 0, 0, 0, 0), (.istore 5, 2, 0, 0, 0, 0)]),
  (30, [(.iload 5, 2, 0, 0, 0, 0), (.aload_n 0, 1, 0, 0, 0, 0), (.getfield 111, 3, 0, 10, 5, 806), (.if_icmp .ge 46, 3, 0, 82, 0, 0), (.iload 4, 2, 0, 0, 0, 0), (.aload_n 0, 1, 0, 0, 0, 0), (.getfield 25, 3, 0, 10, 7, 808), (.iload 5, 2, 0, 0, 0, 0), (.baload, 1, 0, 0, 0, 0), (.iload_n 1, 1, 0, 0, 0, 0), (.if_icmp .ne 23, 3, 0, 72, 0, 0), (.aload_n 0, 1, 0, 0, 0, 0), (.iload 5, 2, 0, 0, 0, 0), (.iload_n 2, 1, 0, 0, 0, 0), (.iload_n 3, 1, 0, 0, 0, 0), (.iconst 1, 1, 1, 0, 0, 0), (.if_icmp .ne 7, 3, 0, 65, 0, 0), (.iconst 1, 1, 1, 0, 0, 0), (.goto 4, 3, 0, 66, 0, 0)]),
  (65, [(.iconst 0, 1, 0, 0, 0, 0)]),
  (66, [(.invokevirtual 145, 3, 0, 121, 4, 1024), (.goto 4, 3, 0, 73, 0, 0)]),
  (72, [(.iconst 0, 1, 0, 0, 0, 0)]),
  (73, [(.iadd, 1, 0, 0, 0, 0), (.istore 4, 2, 0, 0, 0, 0), (.iinc 5 1, 3, 1, 0, 0, 0), (.goto (-49), 3, 0, 30, 0, 0)]),
  (82, [(.iload 4, 2, 0, 0, 0, 0), (.ireturn, 1, 0, 0, 0, 0)])]
/-- X10_shown -/
def tp_P124 : List (Nat × List tp_Ins) := [(0, [(.aload_n 0, 1, 0, 0, 0, 0), (.iload_n 1, 1, 0, 0, 0, 0), (.invokevirtual 114, 3, 0, 107, 2, 966), (.ifCond .eq 36, 3, 0, 41, 0, 0), (.iload_n 2, 1, 0, 0, 0, 0), (.i2l, 1, 0, 0, 0, 0), (.lconst 0, 1, 0, 0, 0, 0), (.ldc2_w 143, 3, 0, 8, 0, 1023), (.invokestatic 89, 3, 0, 101, 3, 939), (.ifCond .eq 24, 3, 0, 41, 0, 0), (.iload_n 3, 1, 0, 0, 0, 0), (.i2l, 1, 0, 0, 0, 0), (.lconst 0, 1, 0, 0, 0, 0), (.aload_n 0, 1, 0, 0, 0, 0), (.getfield 95, 3, 0, 10, 0, 801), (.iconst 1, 1, 1, 0, 0, 0), (.isub, 1, 0, 0, 0, 0), (.i2l, 1, 0, 0, 0, 0), (.invokestatic 89, 3, 0, 101, 3, 939), (.ifCond .eq 8, 3, 0, 41, 0, 0), (.iload 4, 2, 0, 0, 0, 0), (.ifCond .ge 5, 3, 0, 43, 0, 0)]),
  (41, [(.iconst (-1), 1, -1, 0, 0, 0), (.ireturn, 1, 0, 0, 0, 0)]),
  (43, [(.iconst 0, 1, 0, 0, 0, 0), (.istore 5, 2, 0, 0, 0, 0)]),
  (46, [(.iload 5, 2, 0, 0, 0, 0), (.aload_n 0, 1, 0, 0, 0, 0), (.getfield 108, 3, 0, 10, 9, 810), (.if_icmp .ge 100, 3, 0, 152, 0, 0), (.aload_n 0, 1, 0, 0, 0, 0), (.getfield 35, 3, 0, 10, 11, 812), (.iload 5, 2, 0, 0, 0, 0), (.iaload, 1, 0, 0, 0, 0), (.iload_n 3, 1, 0, 0, 0, 0), (.if_icmp .ne 83, 3, 0, 146, 0, 0), (.aload_n 0, 1, 0, 0, 0, 0), (.getfield 41, 3, 0, 10, 13, 814), (.iload 5, 2, 0, 0, 0, 0), (.iaload, 1, 0, 0, 0, 0), (.iload 4, 2, 0, 0, 0, 0), (.if_icmp .ne 71, 3, 0, 146, 0, 0), (.aload_n 0, 1, 0, 0, 0, 0), (.iload_n 1, 1, 0, 0, 0, 0), (.iload_n 2, 1, 0, 0, 0, 0), (.invokevirtual 140, 3, 0, 120, 3, 1028), (.istore 6, 2, 0, 0, 0, 0), (.aload_n 0, 1, 0, 0, 0, 0), (.iload_n 1, 1, 0, 0, 0, 0), (.aload_n 0, 1, 0, 0, 0, 0), (.getfield 38, 3, 0, 10, 12, 813), (.iload 5, 2, 0, 0, 0, 0), (.iaload, 1, 0, 0, 0, 0), (.invokevirtual 122, 3, 0, 110, 3, 978), (.istore 7, 2, 0, 0, 0, 0), (.aload_n 0, 1, 0, 0, 0, 0), (.getfield 32, 3, 0, 10, 10, 811), (.iload 5, 2, 0, 0, 0, 0), (.iaload, 1, 0, 0, 0, 0), (.iload_n 1, 1, 0, 0, 0, 0), (.if_icmp .eq 7, 3, 0, 115, 0, 0), (.iconst 2, 1, 2, 0, 0, 0), (.goto 33, 3, 0, 145, 0, 0)]),
  (115, [(.iload 7, 2, 0, 0, 0, 0), (.iload 6, 2, 0, 0, 0, 0), (.if_icmp .le 7, 3, 0, 126, 0, 0), (.iconst 3, 1, 3, 0, 0, 0), (.goto 22, 3, 0, 145, 0, 0)]),
  (126, [(.iload 6, 2, 0, 0, 0, 0), (.iload 7, 2, 0, 0, 0, 0), (.aload_n 0, 1, 0, 0, 0, 0), (.getfield 13, 3, 0, 10, 2, 803), (.iload_n 3, 1, 0, 0, 0, 0), (.iaload, 1, 0, 0, 0, 0), (.iadd, 1, 0, 0, 0, 0), (.if_icmp .lt 7, 3, 0, 144, 0, 0), (.iconst 4, 1, 4, 0, 0, 0), (.goto 4, 3, 0, 145, 0, 0)]),
  (144, [(.iconst 0, 1, 0, 0, 0, 0)]),
  (145, [(.ireturn, 1, 0, 0, 0, 0)]),
  (146, [(.iinc 5 1, 3, 1, 0, 0, 0), (.goto (-103), 3, 0, 46, 0, 0)]),
  (152, [(.iconst 1, 1, 1, 0, 0, 0), (.ireturn, 1, 0, 0, 0, 0)])]
/-- X10_heads -/
def tp_P125 : List (Nat × List tp_Ins) := [(0, [(.aload_n 0, 1, 0, 0, 0, 0), (.iload_n 1, 1, 0, 0, 0, 0), (.invokevirtual 114, 3, 0, 107, 2, 966), (.ifCond .eq 27, 3, 0, 32, 0, 0), (.iload_n 2, 1, 0, 0, 0, 0), (.i2l, 1, 0, 0, 0, 0), (.lconst 0, 1, 0, 0, 0, 0), (.ldc2_w 143, 3, 0, 8, 0, 1023), (.invokestatic 89, 3, 0, 101, 3, 939), (.ifCond .eq 15, 3, 0, 32, 0, 0), (.iload_n 3, 1, 0, 0, 0, 0), (.i2l, 1, 0, 0, 0, 0), (.lconst 0, 1, 0, 0, 0, 0), (.ldc2_w 106, 3, 0, 1000, 0, 953), (.invokestatic 89, 3, 0, 101, 3, 939), (.ifCond .ne 6, 3, 0, 35, 0, 0)]),
  (32, [(.ldc 139, 2, -1000000, 0, 0, 1018), (.ireturn, 1, 0, 0, 0, 0)]),
  (35, [(.aload_n 0, 1, 0, 0, 0, 0), (.iload_n 1, 1, 0, 0, 0, 0), (.iload_n 2, 1, 0, 0, 0, 0), (.iconst 1, 1, 1, 0, 0, 0), (.invokevirtual 145, 3, 0, 121, 4, 1024), (.istore 4, 2, 0, 0, 0, 0), (.aload_n 0, 1, 0, 0, 0, 0), (.iload_n 1, 1, 0, 0, 0, 0), (.iload_n 2, 1, 0, 0, 0, 0), (.iconst 0, 1, 0, 0, 0, 0), (.invokevirtual 145, 3, 0, 121, 4, 1024), (.istore 5, 2, 0, 0, 0, 0), (.iload_n 3, 1, 0, 0, 0, 0), (.iload 4, 2, 0, 0, 0, 0), (.if_icmp .le 10, 3, 0, 66, 0, 0), (.iload_n 3, 1, 0, 0, 0, 0), (.iload 4, 2, 0, 0, 0, 0), (.isub, 1, 0, 0, 0, 0), (.goto 17, 3, 0, 80, 0, 0)]),
  (66, [(.iload_n 3, 1, 0, 0, 0, 0), (.iload 5, 2, 0, 0, 0, 0), (.if_icmp .ge 10, 3, 0, 79, 0, 0), (.iload_n 3, 1, 0, 0, 0, 0), (.iload 5, 2, 0, 0, 0, 0), (.isub, 1, 0, 0, 0, 0), (.goto 4, 3, 0, 80, 0, 0)]),
  (79, [(.iconst 0, 1, 0, 0, 0, 0)]),
  (80, [(.ireturn, 1, 0, 0, 0, 0)])]
/-- X10_gap -/
def tp_P126 : List (Nat × List tp_Ins) := [(0, [(.iload_n 1, 1, 0, 0, 0, 0), (.i2l, 1, 0, 0, 0, 0), (.lconst 0, 1, 0, 0, 0, 0), (.aload_n 0, 1, 0, 0, 0, 0), (.getfield 95, 3, 0, 10, 0, 801), (.iconst 1, 1, 1, 0, 0, 0), (.isub, 1, 0, 0, 0, 0), (.i2l, 1, 0, 0, 0, 0), (.invokestatic 89, 3, 0, 101, 3, 939), (.ifCond .ne 5, 3, 0, 18, 0, 0), (.iconst (-1), 1, -1, 0, 0, 0), (.ireturn, 1, 0, 0, 0, 0)]),
  (18, [(.iconst (-1), 1, -1, 0, 0, 0), (.istore_n 2, 1, 0, 0, 0, 0), (.iconst 0, 1, 0, 0, 0, 0), (.istore_n 3, 1, 0, 0, 0, 0)]),
  (22, [(.iload_n 3, 1, 0, 0, 0, 0), (.aload_n 0, 1, 0, 0, 0, 0), (.getfield 108, 3, 0, 10, 9, 810), (.if_icmp .ge 40, 3, 0, 67, 0, 0), (.aload_n 0, 1, 0, 0, 0, 0), (.getfield 35, 3, 0, 10, 11, 812), (.iload_n 3, 1, 0, 0, 0, 0), (.iaload, 1, 0, 0, 0, 0), (.iload_n 1, 1, 0, 0, 0, 0), (.if_icmp .ne 22, 3, 0, 59, 0, 0), (.aload_n 0, 1, 0, 0, 0, 0), (.getfield 41, 3, 0, 10, 13, 814), (.iload_n 3, 1, 0, 0, 0, 0), (.iaload, 1, 0, 0, 0, 0), (.iload_n 2, 1, 0, 0, 0, 0), (.if_icmp .le 12, 3, 0, 59, 0, 0), (.aload_n 0, 1, 0, 0, 0, 0), (.getfield 41, 3, 0, 10, 13, 814), (.iload_n 3, 1, 0, 0, 0, 0), (.iaload, 1, 0, 0, 0, 0), (.goto 4, 3, 0, 60, 0, 0)]),
  (59, [(.iload_n 2, 1, 0, 0, 0, 0)]),
  (60, [(.istore_n 2, 1, 0, 0, 0, 0), (.iinc 3 1, 3, 1, 0, 0, 0), (.goto (-42), 3, 0, 22, 0, 0)]),
  (67, [(.iconst 0, 1, 0, 0, 0, 0), (.istore_n 3, 1, 0, 0, 0, 0)]),
  (69, [(.iload_n 3, 1, 0, 0, 0, 0), (.iload_n 2, 1, 0, 0, 0, 0), (.if_icmp .ge 130, 3, 0, 201, 0, 0), (.iload_n 3, 1, 0, 0, 0, 0), (.istore 4, 2, 0, 0, 0, 0), (.iconst 0, 1, 0, 0, 0, 0), (.istore 5, 2, 0, 0, 0, 0)]),
  (80, [(.iload 5, 2, 0, 0, 0, 0), (.aload_n 0, 1, 0, 0, 0, 0), (.getfield 108, 3, 0, 10, 9, 810), (.if_icmp .ge 41, 3, 0, 127, 0, 0), (.aload_n 0, 1, 0, 0, 0, 0), (.getfield 35, 3, 0, 10, 11, 812), (.iload 5, 2, 0, 0, 0, 0), (.iaload, 1, 0, 0, 0, 0), (.iload_n 1, 1, 0, 0, 0, 0), (.if_icmp .ne 20, 3, 0, 117, 0, 0), (.aload_n 0, 1, 0, 0, 0, 0), (.getfield 41, 3, 0, 10, 13, 814), (.iload 5, 2, 0, 0, 0, 0), (.iaload, 1, 0, 0, 0, 0), (.iload_n 3, 1, 0, 0, 0, 0), (.if_icmp .ne 9, 3, 0, 117, 0, 0), (.iload_n 3, 1, 0, 0, 0, 0), (.iconst 1, 1, 1, 0, 0, 0), (.iadd, 1, 0, 0, 0, 0), (.goto 5, 3, 0, 119, 0, 0)]),
  (117, [(.iload 4, 2, 0, 0, 0, 0)]),
  (119, [(.istore 4, 2, 0, 0, 0, 0), (.iinc 5 1, 3, 1, 0, 0, 0), (.goto (-44), 3, 0, 80, 0, 0)]),
  (127, [(.iconst 0, 1, 0, 0, 0, 0), (.istore 5, 2, 0, 0, 0, 0)]),
  (130, [(.iload 5, 2, 0, 0, 0, 0), (.bipush 6, 2, 6, 0, 0, 0), (.if_icmp .ge 53, 3, 0, 187, 0, 0), (.iconst 5, 1, 5, 0, 0, 0), (.iload 5, 2, 0, 0, 0, 0), (.imul, 1, 0, 0, 0, 0), (.iload_n 1, 1, 0, 0, 0, 0), (.iadd, 1, 0, 0, 0, 0), (.istore 6, 2, 0, 0, 0, 0), (.aload_n 0, 1, 0, 0, 0, 0), (.getfield 16, 3, 0, 10, 3, 804), (.iload 6, 2, 0, 0, 0, 0), (.iaload, 1, 0, 0, 0, 0), (.iload_n 3, 1, 0, 0, 0, 0), (.if_icmp .gt 24, 3, 0, 177, 0, 0), (.iload_n 3, 1, 0, 0, 0, 0), (.aload_n 0, 1, 0, 0, 0, 0), (.getfield 19, 3, 0, 10, 4, 805), (.iload 6, 2, 0, 0, 0, 0), (.iaload, 1, 0, 0, 0, 0), (.if_icmp .ge 13, 3, 0, 177, 0, 0), (.aload_n 0, 1, 0, 0, 0, 0), (.getfield 19, 3, 0, 10, 4, 805), (.iload 6, 2, 0, 0, 0, 0), (.iaload, 1, 0, 0, 0, 0), (.goto 5, 3, 0, 179, 0, 0)]),
  (177, [(.iload 4, 2, 0, 0, 0, 0)]),
  (179, [(.istore 4, 2, 0, 0, 0, 0), (.iinc 5 1, 3, 1, 0, 0, 0), (.goto (-54), 3, 0, 130, 0, 0)]),
  (187, [(.iload 4, 2, 0, 0, 0, 0), (.iload_n 3, 1, 0, 0, 0, 0), (.if_icmp .ne 5, 3, 0, 195, 0, 0), (.iload_n 3, 1, 0, 0, 0, 0), (.ireturn, 1, 0, 0, 0, 0)]),
  (195, [(.iload 4, 2, 0, 0, 0, 0), (.istore_n 3, 1, 0, 0, 0, 0), (.goto (-129), 3, 0, 69, 0, 0)]),
  (201, [(.bipush (-4), 2, -4, 0, 0, 0), (.ireturn, 1, 0, 0, 0, 0)])]
/-- X10_feed -/
def tp_P127 : List (Nat × List tp_Ins) := [(0, [(.aload_n 0, 1, 0, 0, 0, 0), (.getfield 149, 3, 0, 10, 18, 819), (.bipush 8, 2, 8, 0, 0, 0), (.iadd, 1, 0, 0, 0, 0), (.sipush 200, 3, 200, 0, 0, 0), (.if_icmp .le 6, 3, 0, 16, 0, 0), (.bipush (-3), 2, -3, 0, 0, 0), (.ireturn, 1, 0, 0, 0, 0)]),
  (16, [(.bipush 56, 2, 56, 0, 0, 0), (.istore_n 3, 1, 0, 0, 0, 0)]),
  (19, [(.iload_n 3, 1, 0, 0, 0, 0), (.ifCond .lt 36, 3, 0, 56, 0, 0), (.aload_n 0, 1, 0, 0, 0, 0), (.getfield 53, 3, 0, 10, 17, 818), (.aload_n 0, 1, 0, 0, 0, 0), (.getfield 149, 3, 0, 10, 18, 819), (.lload_n 1, 1, 0, 0, 0, 0), (.iload_n 3, 1, 0, 0, 0, 0), (.lshr, 1, 0, 0, 0, 0), (.l2i, 1, 0, 0, 0, 0), (.sipush 255, 3, 255, 0, 0, 0), (.iand, 1, 0, 0, 0, 0), (.iastore, 1, 0, 0, 0, 0), (.aload_n 0, 1, 0, 0, 0, 0), (.dup, 1, 0, 0, 0, 0), (.getfield 149, 3, 0, 10, 18, 819), (.iconst 1, 1, 1, 0, 0, 0), (.iadd, 1, 0, 0, 0, 0), (.putfield 149, 3, 0, 10, 18, 819), (.iinc 3 (-8), 3, -8, 0, 0, 0), (.goto (-34), 3, 0, 19, 0, 0)]),
  (56, [(.aload_n 0, 1, 0, 0, 0, 0), (.getfield 149, 3, 0, 10, 18, 819), (.ireturn, 1, 0, 0, 0, 0)])]
/-- X10_end -/
def tp_P128 : List (Nat × List tp_Ins) := [(0, [(.iload_n 1, 1, 0, 0, 0, 0), (.i2l, 1, 0, 0, 0, 0), (.lconst 0, 1, 0, 0, 0, 0), (.aload_n 0, 1, 0, 0, 0, 0), (.getfield 149, 3, 0, 10, 18, 819), (.i2l, 1, 0, 0, 0, 0), (.invokestatic 89, 3, 0, 101, 3, 939), (.ifCond .ne 5, 3, 0, 16, 0, 0), (.iconst (-1), 1, -1, 0, 0, 0), (.ireturn, 1, 0, 0, 0, 0)]),
  (16, [(.aload_n 0, 1, 0, 0, 0, 0), (.getfield 149, 3, 0, 10, 18, 819), (.istore_n 2, 1, 0, 0, 0, 0), (.aload_n 0, 1, 0, 0, 0, 0), (.iload_n 1, 1, 0, 0, 0, 0), (.putfield 149, 3, 0, 10, 18, 819), (.iload_n 2, 1, 0, 0, 0, 0), (.ireturn, 1, 0, 0, 0, 0)])]
/-- X10_byteAt -/
def tp_P129 : List (Nat × List tp_Ins) := [(0, [(.iload_n 1, 1, 0, 0, 0, 0), (.aload_n 0, 1, 0, 0, 0, 0), (.getfield 149, 3, 0, 10, 18, 819), (.if_icmp .ge 12, 3, 0, 17, 0, 0), (.aload_n 0, 1, 0, 0, 0, 0), (.getfield 53, 3, 0, 10, 17, 818), (.iload_n 1, 1, 0, 0, 0, 0), (.iaload, 1, 0, 0, 0, 0), (.goto 5, 3, 0, 19, 0, 0)]),
  (17, [(.bipush (-4), 2, -4, 0, 0, 0)]),
  (19, [(.ireturn, 1, 0, 0, 0, 0)])]
/-- X10_fails -/
def tp_P130 : List (Nat × List tp_Ins) := [(0, [(.aload_n 0, 1, 0, 0, 0, 0), (.getfield 152, 3, 0, 10, 30, 831), (.ifCond .ne 13, 3, 0, 17, 0, 0), (.aload_n 0, 1, 0, 0, 0, 0), (.iload_n 1, 1, 0, 0, 0, 0), (.putfield 152, 3, 0, 10, 30, 831), (.aload_n 0, 1, 0, 0, 0, 0), (.iload_n 2, 1, 0, 0, 0, 0), (.putfield 155, 3, 0, 10, 31, 832)]),
  (17, [(.return_, 1, 0, 0, 0, 0)])]
/-- X10_isName -/
def tp_P131 : List (Nat × List tp_Ins) := [(0, [(.aload_n 0, 1, 0, 0, 0, 0), (.getfield 66, 3, 0, 10, 32, 833), (.astore 9, 2, 0, 0, 0, 0), (.aload 9, 2, 0, 0, 0, 0), (.iconst 0, 1, 0, 0, 0, 0), (.iload_n 2, 1, 0, 0, 0, 0), (.iastore, 1, 0, 0, 0, 0), (.aload 9, 2, 0, 0, 0, 0), (.iconst 1, 1, 1, 0, 0, 0), (.iload_n 3, 1, 0, 0, 0, 0), (.iastore, 1, 0, 0, 0, 0), (.aload 9, 2, 0, 0, 0, 0), (.iconst 2, 1, 2, 0, 0, 0), (.iload 4, 2, 0, 0, 0, 0), (.iastore, 1, 0, 0, 0, 0), (.aload 9, 2, 0, 0, 0, 0), (.iconst 3, 1, 3, 0, 0, 0), (.iload 5, 2, 0, 0, 0, 0), (.iastore, 1, 0, 0, 0, 0), (.aload 9, 2, 0, 0, 0, 0), (.iconst 4, 1, 4, 0, 0, 0), (.iload 6, 2, 0, 0, 0, 0), (.iastore, 1, 0, 0, 0, 0), (.aload 9, 2, 0, 0, 0, 0), (.iconst 5, 1, 5, 0, 0, 0), (.iload 7, 2, 0, 0, 0, 0), (.iastore, 1, 0, 0, 0, 0), (.aload_n 0, 1, 0, 0, 0, 0), (.getfield 158, 3, 0, 10, 27, 828), (.iload_n 1, 1, 0, 0, 0, 0), (.isub, 1, 0, 0, 0, 0), (.iload 8, 2, 0, 0, 0, 0), (.if_icmp .ne 7, 3, 0, 55, 0, 0), (.iconst 1, 1, 1, 0, 0, 0), (.goto 4, 3, 0, 56, 0, 0)]),
  (55, [(.iconst 0, 1, 0, 0, 0, 0)]),
  (56, [(.istore 10, 2, 0, 0, 0, 0), (.iconst 0, 1, 0, 0, 0, 0), (.istore 11, 2, 0, 0, 0, 0)]),
  (61, [(.iload 11, 2, 0, 0, 0, 0), (.iload 8, 2, 0, 0, 0, 0), (.if_icmp .ge 37, 3, 0, 102, 0, 0), (.iload 10, 2, 0, 0, 0, 0), (.ifCond .eq 32, 3, 0, 102, 0, 0), (.aload_n 0, 1, 0, 0, 0, 0), (.iload_n 1, 1, 0, 0, 0, 0), (.iload 11, 2, 0, 0, 0, 0), (.iadd, 1, 0, 0, 0, 0), (.invokevirtual 161, 3, 0, 129, 2, 1064), (.aload 9, 2, 0, 0, 0, 0), (.iload 11, 2, 0, 0, 0, 0), (.iaload, 1, 0, 0, 0, 0), (.if_icmp .ne 7, 3, 0, 93, 0, 0), (.iconst 1, 1, 1, 0, 0, 0), (.goto 4, 3, 0, 94, 0, 0)]),
  (93, [(.iconst 0, 1, 0, 0, 0, 0)]),
  (94, [(.istore 10, 2, 0, 0, 0, 0), (.iinc 11 1, 3, 1, 0, 0, 0), (.goto (-38), 3, 0, 61, 0, 0)]),
  (102, [(.iload 10, 2, 0, 0, 0, 0), (.ireturn, 1, 0, 0, 0, 0)])]
/-- X10_next -/
def tp_P132 : List (Nat × List tp_Ins) := [(0, [(.aload_n 0, 1, 0, 0, 0, 0), (.getfield 152, 3, 0, 10, 30, 831), (.ifCond .le 4, 3, 0, 8, 0, 0), (.return_, 1, 0, 0, 0, 0)]),
  (8, [(.aload_n 0, 1, 0, 0, 0, 0), (.aload_n 0, 1, 0, 0, 0, 0), (.getfield 158, 3, 0, 10, 27, 828), (.invokevirtual 161, 3, 0, 129, 2, 1064), (.bipush 32, 2, 32, 0, 0, 0), (.if_icmp .ne 16, 3, 0, 34, 0, 0), (.aload_n 0, 1, 0, 0, 0, 0), (.dup, 1, 0, 0, 0, 0), (.getfield 158, 3, 0, 10, 27, 828), (.iconst 1, 1, 1, 0, 0, 0), (.iadd, 1, 0, 0, 0, 0), (.putfield 158, 3, 0, 10, 27, 828), (.goto (-23), 3, 0, 8, 0, 0)]),
  (34, [(.aload_n 0, 1, 0, 0, 0, 0), (.aload_n 0, 1, 0, 0, 0, 0), (.getfield 158, 3, 0, 10, 27, 828), (.putfield 164, 3, 0, 10, 26, 827), (.aload_n 0, 1, 0, 0, 0, 0), (.aload_n 0, 1, 0, 0, 0, 0), (.getfield 158, 3, 0, 10, 27, 828), (.invokevirtual 161, 3, 0, 129, 2, 1064), (.istore_n 1, 1, 0, 0, 0, 0), (.aload_n 0, 1, 0, 0, 0, 0), (.iload_n 1, 1, 0, 0, 0, 0), (.putfield 167, 3, 0, 10, 29, 830), (.iload_n 1, 1, 0, 0, 0, 0), (.bipush (-4), 2, -4, 0, 0, 0), (.if_icmp .ne 11, 3, 0, 70, 0, 0), (.aload_n 0, 1, 0, 0, 0, 0), (.iconst 0, 1, 0, 0, 0, 0), (.putfield 170, 3, 0, 10, 28, 829), (.goto 323, 3, 0, 390, 0, 0)]),
  (70, [(.iload_n 1, 1, 0, 0, 0, 0), (.i2l, 1, 0, 0, 0, 0), (.ldc2_w 173, 3, 0, 97, 0, 1068), (.ldc2_w 175, 3, 0, 122, 0, 1069), (.invokestatic 89, 3, 0, 101, 3, 939), (.ifCond .eq 150, 3, 0, 231, 0, 0)]),
  (84, [(.aload_n 0, 1, 0, 0, 0, 0), (.aload_n 0, 1, 0, 0, 0, 0), (.getfield 158, 3, 0, 10, 27, 828), (.invokevirtual 161, 3, 0, 129, 2, 1064), (.i2l, 1, 0, 0, 0, 0), (.ldc2_w 173, 3, 0, 97, 0, 1068), (.ldc2_w 175, 3, 0, 122, 0, 1069), (.invokestatic 89, 3, 0, 101, 3, 939), (.ifCond .eq 16, 3, 0, 118, 0, 0), (.aload_n 0, 1, 0, 0, 0, 0), (.dup, 1, 0, 0, 0, 0), (.getfield 158, 3, 0, 10, 27, 828), (.iconst 1, 1, 1, 0, 0, 0), (.iadd, 1, 0, 0, 0, 0), (.putfield 158, 3, 0, 10, 27, 828), (.goto (-31), 3, 0, 84, 0, 0)]),
  (118, [(.aload_n 0, 1, 0, 0, 0, 0), (.iconst 1, 1, 1, 0, 0, 0), (.putfield 170, 3, 0, 10, 28, 829), (.aload_n 0, 1, 0, 0, 0, 0), (.aload_n 0, 1, 0, 0, 0, 0), (.aload_n 0, 1, 0, 0, 0, 0), (.getfield 164, 3, 0, 10, 26, 827), (.bipush 102, 2, 102, 0, 0, 0), (.bipush 97, 2, 97, 0, 0, 0), (.bipush 114, 2, 114, 0, 0, 0), (.bipush 101, 2, 101, 0, 0, 0), (.iconst 0, 1, 0, 0, 0, 0), (.iconst 0, 1, 0, 0, 0, 0), (.iconst 4, 1, 4, 0, 0, 0), (.invokevirtual 177, 3, 0, 131, 9, 1070), (.ifCond .eq 7, 3, 0, 150, 0, 0), (.iconst 0, 1, 0, 0, 0, 0), (.goto 60, 3, 0, 207, 0, 0)]),
  (150, [(.aload_n 0, 1, 0, 0, 0, 0), (.aload_n 0, 1, 0, 0, 0, 0), (.getfield 164, 3, 0, 10, 26, 827), (.bipush 119, 2, 119, 0, 0, 0), (.bipush 111, 2, 111, 0, 0, 0), (.bipush 114, 2, 114, 0, 0, 0), (.bipush 107, 2, 107, 0, 0, 0), (.iconst 0, 1, 0, 0, 0, 0), (.iconst 0, 1, 0, 0, 0, 0), (.iconst 4, 1, 4, 0, 0, 0), (.invokevirtual 177, 3, 0, 131, 9, 1070), (.ifCond .eq 7, 3, 0, 176, 0, 0), (.iconst 1, 1, 1, 0, 0, 0), (.goto 34, 3, 0, 207, 0, 0)]),
  (176, [(.aload_n 0, 1, 0, 0, 0, 0), (.aload_n 0, 1, 0, 0, 0, 0), (.getfield 164, 3, 0, 10, 26, 827), (.bipush 99, 2, 99, 0, 0, 0), (.bipush 104, 2, 104, 0, 0, 0), (.bipush 97, 2, 97, 0, 0, 0), (.bipush 110, 2, 110, 0, 0, 0), (.bipush 103, 2, 103, 0, 0, 0), (.bipush 101, 2, 101, 0, 0, 0), (.bipush 6, 2, 6, 0, 0, 0), (.invokevirtual 177, 3, 0, 131, 9, 1070), (.ifCond .eq 7, 3, 0, 205, 0, 0), (.iconst 2, 1, 2, 0, 0, 0), (.goto 5, 3, 0, 207, 0, 0)]),
  (205, [(.bipush (-4), 2, -4, 0, 0, 0)]),
  (207, [(.putfield 167, 3, 0, 10, 29, 830), (.aload_n 0, 1, 0, 0, 0, 0), (.getfield 167, 3, 0, 10, 29, 830), (.bipush (-4), 2, -4, 0, 0, 0), (.if_icmp .ne 174, 3, 0, 390, 0, 0), (.aload_n 0, 1, 0, 0, 0, 0), (.iconst 1, 1, 1, 0, 0, 0), (.aload_n 0, 1, 0, 0, 0, 0), (.getfield 164, 3, 0, 10, 26, 827), (.invokevirtual 181, 3, 0, 130, 3, 1074), (.goto 162, 3, 0, 390, 0, 0)]),
  (231, [(.iload_n 1, 1, 0, 0, 0, 0), (.i2l, 1, 0, 0, 0, 0), (.ldc2_w 185, 3, 0, 48, 0, 1078), (.ldc2_w 187, 3, 0, 57, 0, 1079), (.invokestatic 89, 3, 0, 101, 3, 939), (.ifCond .eq 115, 3, 0, 357, 0, 0), (.aload_n 0, 1, 0, 0, 0, 0), (.iconst 0, 1, 0, 0, 0, 0), (.putfield 167, 3, 0, 10, 29, 830)]),
  (250, [(.aload_n 0, 1, 0, 0, 0, 0), (.aload_n 0, 1, 0, 0, 0, 0), (.getfield 158, 3, 0, 10, 27, 828), (.invokevirtual 161, 3, 0, 129, 2, 1064), (.i2l, 1, 0, 0, 0, 0), (.ldc2_w 185, 3, 0, 48, 0, 1078), (.ldc2_w 187, 3, 0, 57, 0, 1079), (.invokestatic 89, 3, 0, 101, 3, 939), (.ifCond .eq 59, 3, 0, 327, 0, 0), (.aload_n 0, 1, 0, 0, 0, 0), (.aload_n 0, 1, 0, 0, 0, 0), (.getfield 158, 3, 0, 10, 27, 828), (.aload_n 0, 1, 0, 0, 0, 0), (.getfield 164, 3, 0, 10, 26, 827), (.isub, 1, 0, 0, 0, 0), (.iconst 4, 1, 4, 0, 0, 0), (.if_icmp .ge 25, 3, 0, 307, 0, 0), (.bipush 10, 2, 10, 0, 0, 0), (.aload_n 0, 1, 0, 0, 0, 0), (.getfield 167, 3, 0, 10, 29, 830), (.imul, 1, 0, 0, 0, 0), (.aload_n 0, 1, 0, 0, 0, 0), (.aload_n 0, 1, 0, 0, 0, 0), (.getfield 158, 3, 0, 10, 27, 828), (.invokevirtual 161, 3, 0, 129, 2, 1064), (.iadd, 1, 0, 0, 0, 0), (.bipush 48, 2, 48, 0, 0, 0), (.isub, 1, 0, 0, 0, 0), (.goto 7, 3, 0, 311, 0, 0)]),
  (307, [(.aload_n 0, 1, 0, 0, 0, 0), (.getfield 167, 3, 0, 10, 29, 830)]),
  (311, [(.putfield 167, 3, 0, 10, 29, 830), (.aload_n 0, 1, 0, 0, 0, 0), (.dup, 1, 0, 0, 0, 0), (.getfield 158, 3, 0, 10, 27, 828), (.iconst 1, 1, 1, 0, 0, 0), (.iadd, 1, 0, 0, 0, 0), (.putfield 158, 3, 0, 10, 27, 828), (.goto (-74), 3, 0, 250, 0, 0)]),
  (327, [(.aload_n 0, 1, 0, 0, 0, 0), (.iconst 2, 1, 2, 0, 0, 0), (.putfield 170, 3, 0, 10, 28, 829), (.aload_n 0, 1, 0, 0, 0, 0), (.getfield 158, 3, 0, 10, 27, 828), (.aload_n 0, 1, 0, 0, 0, 0), (.getfield 164, 3, 0, 10, 26, 827), (.isub, 1, 0, 0, 0, 0), (.iconst 4, 1, 4, 0, 0, 0), (.if_icmp .le 48, 3, 0, 390, 0, 0), (.aload_n 0, 1, 0, 0, 0, 0), (.iconst 1, 1, 1, 0, 0, 0), (.aload_n 0, 1, 0, 0, 0, 0), (.getfield 164, 3, 0, 10, 26, 827), (.invokevirtual 181, 3, 0, 130, 3, 1074), (.goto 36, 3, 0, 390, 0, 0)]),
  (357, [(.iload_n 1, 1, 0, 0, 0, 0), (.bipush 59, 2, 59, 0, 0, 0), (.if_icmp .ne 21, 3, 0, 381, 0, 0), (.aload_n 0, 1, 0, 0, 0, 0), (.dup, 1, 0, 0, 0, 0), (.getfield 158, 3, 0, 10, 27, 828), (.iconst 1, 1, 1, 0, 0, 0), (.iadd, 1, 0, 0, 0, 0), (.putfield 158, 3, 0, 10, 27, 828), (.aload_n 0, 1, 0, 0, 0, 0), (.iconst 3, 1, 3, 0, 0, 0), (.putfield 170, 3, 0, 10, 28, 829), (.goto 12, 3, 0, 390, 0, 0)]),
  (381, [(.aload_n 0, 1, 0, 0, 0, 0), (.iconst 1, 1, 1, 0, 0, 0), (.aload_n 0, 1, 0, 0, 0, 0), (.getfield 164, 3, 0, 10, 26, 827), (.invokevirtual 181, 3, 0, 130, 3, 1074)]),
  (390, [(.return_, 1, 0, 0, 0, 0)])]
/-- X10_number -/
def tp_P133 : List (Nat × List tp_Ins) := [(0, [(.aload_n 0, 1, 0, 0, 0, 0), (.getfield 152, 3, 0, 10, 30, 831), (.ifCond .le 5, 3, 0, 9, 0, 0), (.iconst 0, 1, 0, 0, 0, 0), (.ireturn, 1, 0, 0, 0, 0)]),
  (9, [(.aload_n 0, 1, 0, 0, 0, 0), (.getfield 170, 3, 0, 10, 28, 829), (.iconst 2, 1, 2, 0, 0, 0), (.if_icmp .eq 15, 3, 0, 29, 0, 0), (.aload_n 0, 1, 0, 0, 0, 0), (.iconst 2, 1, 2, 0, 0, 0), (.aload_n 0, 1, 0, 0, 0, 0), (.getfield 164, 3, 0, 10, 26, 827), (.invokevirtual 181, 3, 0, 130, 3, 1074), (.goto 27, 3, 0, 53, 0, 0)]),
  (29, [(.aload_n 0, 1, 0, 0, 0, 0), (.getfield 167, 3, 0, 10, 29, 830), (.i2l, 1, 0, 0, 0, 0), (.iload_n 1, 1, 0, 0, 0, 0), (.i2l, 1, 0, 0, 0, 0), (.iload_n 2, 1, 0, 0, 0, 0), (.i2l, 1, 0, 0, 0, 0), (.invokestatic 89, 3, 0, 101, 3, 939), (.ifCond .ne 12, 3, 0, 53, 0, 0), (.aload_n 0, 1, 0, 0, 0, 0), (.iconst 3, 1, 3, 0, 0, 0), (.aload_n 0, 1, 0, 0, 0, 0), (.getfield 164, 3, 0, 10, 26, 827), (.invokevirtual 181, 3, 0, 130, 3, 1074)]),
  (53, [(.aload_n 0, 1, 0, 0, 0, 0), (.getfield 167, 3, 0, 10, 29, 830), (.istore_n 3, 1, 0, 0, 0, 0), (.aload_n 0, 1, 0, 0, 0, 0), (.invokevirtual 189, 3, 0, 132, 1, 1060), (.iload_n 3, 1, 0, 0, 0, 0), (.ireturn, 1, 0, 0, 0, 0)])]
/-- X10_above -/
def tp_P134 : List (Nat × List tp_Ins) := [(0, [(.aload_n 0, 1, 0, 0, 0, 0), (.getfield 152, 3, 0, 10, 30, 831), (.ifCond .ne 43, 3, 0, 47, 0, 0), (.aload_n 0, 1, 0, 0, 0, 0), (.getfield 170, 3, 0, 10, 28, 829), (.iconst 2, 1, 2, 0, 0, 0), (.if_icmp .ne 35, 3, 0, 47, 0, 0), (.aload_n 0, 1, 0, 0, 0, 0), (.getfield 167, 3, 0, 10, 29, 830), (.i2l, 1, 0, 0, 0, 0), (.iload_n 1, 1, 0, 0, 0, 0), (.i2l, 1, 0, 0, 0, 0), (.iload_n 2, 1, 0, 0, 0, 0), (.i2l, 1, 0, 0, 0, 0), (.invokestatic 89, 3, 0, 101, 3, 939), (.ifCond .eq 20, 3, 0, 47, 0, 0), (.aload_n 0, 1, 0, 0, 0, 0), (.getfield 167, 3, 0, 10, 29, 830), (.iload_n 3, 1, 0, 0, 0, 0), (.if_icmp .gt 12, 3, 0, 47, 0, 0), (.aload_n 0, 1, 0, 0, 0, 0), (.iconst 4, 1, 4, 0, 0, 0), (.aload_n 0, 1, 0, 0, 0, 0), (.getfield 164, 3, 0, 10, 26, 827), (.invokevirtual 181, 3, 0, 130, 3, 1074)]),
  (47, [(.aload_n 0, 1, 0, 0, 0, 0), (.iload_n 1, 1, 0, 0, 0, 0), (.iload_n 2, 1, 0, 0, 0, 0), (.invokevirtual 192, 3, 0, 133, 3, 1088), (.ireturn, 1, 0, 0, 0, 0)])]
/-- X10_law -/
def tp_P135 : List (Nat × List tp_Ins) := [(0, [(.aload_n 0, 1, 0, 0, 0, 0), (.getfield 170, 3, 0, 10, 28, 829), (.iconst 1, 1, 1, 0, 0, 0), (.if_icmp .eq 13, 3, 0, 18, 0, 0), (.aload_n 0, 1, 0, 0, 0, 0), (.iconst 2, 1, 2, 0, 0, 0), (.aload_n 0, 1, 0, 0, 0, 0), (.getfield 164, 3, 0, 10, 26, 827), (.invokevirtual 181, 3, 0, 130, 3, 1074), (.return_, 1, 0, 0, 0, 0)]),
  (18, [(.aload_n 0, 1, 0, 0, 0, 0), (.getfield 167, 3, 0, 10, 29, 830), (.istore_n 1, 1, 0, 0, 0, 0), (.iload_n 1, 1, 0, 0, 0, 0), (.ifCond .ne 12, 3, 0, 36, 0, 0), (.aload_n 0, 1, 0, 0, 0, 0), (.getfield 195, 3, 0, 10, 33, 834), (.bipush 9, 2, 9, 0, 0, 0), (.if_icmp .eq 30, 3, 0, 63, 0, 0)]),
  (36, [(.iload_n 1, 1, 0, 0, 0, 0), (.iconst 1, 1, 1, 0, 0, 0), (.if_icmp .ne 11, 3, 0, 49, 0, 0), (.aload_n 0, 1, 0, 0, 0, 0), (.getfield 198, 3, 0, 10, 34, 835), (.iconst 4, 1, 4, 0, 0, 0), (.if_icmp .eq 17, 3, 0, 63, 0, 0)]),
  (49, [(.iload_n 1, 1, 0, 0, 0, 0), (.iconst 2, 1, 2, 0, 0, 0), (.if_icmp .ne 22, 3, 0, 73, 0, 0), (.aload_n 0, 1, 0, 0, 0, 0), (.getfield 201, 3, 0, 10, 35, 836), (.bipush (-4), 2, -4, 0, 0, 0), (.if_icmp .eq 13, 3, 0, 73, 0, 0)]),
  (63, [(.aload_n 0, 1, 0, 0, 0, 0), (.iconst 5, 1, 5, 0, 0, 0), (.aload_n 0, 1, 0, 0, 0, 0), (.getfield 164, 3, 0, 10, 26, 827), (.invokevirtual 181, 3, 0, 130, 3, 1074), (.return_, 1, 0, 0, 0, 0)]),
  (73, [(.aload_n 0, 1, 0, 0, 0, 0), (.invokevirtual 189, 3, 0, 132, 1, 1060), (.iload_n 1, 1, 0, 0, 0, 0), (.ifCond .ne 90, 3, 0, 168, 0, 0), (.iconst 2, 1, 2, 0, 0, 0), (.aload_n 0, 1, 0, 0, 0, 0), (.getfield 195, 3, 0, 10, 33, 834), (.imul, 1, 0, 0, 0, 0), (.istore_n 2, 1, 0, 0, 0, 0), (.aload_n 0, 1, 0, 0, 0, 0), (.getfield 69, 3, 0, 10, 36, 837), (.iload_n 2, 1, 0, 0, 0, 0), (.aload_n 0, 1, 0, 0, 0, 0), (.iconst 1, 1, 1, 0, 0, 0), (.bipush 9, 2, 9, 0, 0, 0), (.aload_n 0, 1, 0, 0, 0, 0), (.getfield 195, 3, 0, 10, 33, 834), (.ifCond .ne 7, 3, 0, 108, 0, 0), (.iconst 0, 1, 0, 0, 0, 0), (.goto 11, 3, 0, 116, 0, 0)]),
  (108, [(.aload_n 0, 1, 0, 0, 0, 0), (.getfield 69, 3, 0, 10, 36, 837), (.iload_n 2, 1, 0, 0, 0, 0), (.iconst 2, 1, 2, 0, 0, 0), (.isub, 1, 0, 0, 0, 0), (.iaload, 1, 0, 0, 0, 0)]),
  (116, [(.invokevirtual 204, 3, 0, 134, 4, 1084), (.iastore, 1, 0, 0, 0, 0), (.aload_n 0, 1, 0, 0, 0, 0), (.getfield 69, 3, 0, 10, 36, 837), (.iload_n 2, 1, 0, 0, 0, 0), (.iconst 1, 1, 1, 0, 0, 0), (.iadd, 1, 0, 0, 0, 0), (.aload_n 0, 1, 0, 0, 0, 0), (.iconst 1, 1, 1, 0, 0, 0), (.sipush 999, 3, 999, 0, 0, 0), (.aload_n 0, 1, 0, 0, 0, 0), (.getfield 195, 3, 0, 10, 33, 834), (.ifCond .ne 7, 3, 0, 143, 0, 0), (.iconst 0, 1, 0, 0, 0, 0), (.goto 11, 3, 0, 151, 0, 0)]),
  (143, [(.aload_n 0, 1, 0, 0, 0, 0), (.getfield 69, 3, 0, 10, 36, 837), (.iload_n 2, 1, 0, 0, 0, 0), (.iconst 1, 1, 1, 0, 0, 0), (.isub, 1, 0, 0, 0, 0), (.iaload, 1, 0, 0, 0, 0)]),
  (151, [(.invokevirtual 204, 3, 0, 134, 4, 1084), (.iastore, 1, 0, 0, 0, 0), (.aload_n 0, 1, 0, 0, 0, 0), (.dup, 1, 0, 0, 0, 0), (.getfield 195, 3, 0, 10, 33, 834), (.iconst 1, 1, 1, 0, 0, 0), (.iadd, 1, 0, 0, 0, 0), (.putfield 195, 3, 0, 10, 33, 834), (.goto 89, 3, 0, 254, 0, 0)]),
  (168, [(.iload_n 1, 1, 0, 0, 0, 0), (.iconst 1, 1, 1, 0, 0, 0), (.if_icmp .ne 73, 3, 0, 243, 0, 0), (.iconst 3, 1, 3, 0, 0, 0), (.aload_n 0, 1, 0, 0, 0, 0), (.getfield 198, 3, 0, 10, 34, 835), (.imul, 1, 0, 0, 0, 0), (.istore_n 2, 1, 0, 0, 0, 0), (.aload_n 0, 1, 0, 0, 0, 0), (.getfield 72, 3, 0, 10, 37, 838), (.iload_n 2, 1, 0, 0, 0, 0), (.aload_n 0, 1, 0, 0, 0, 0), (.iconst 0, 1, 0, 0, 0, 0), (.bipush 23, 2, 23, 0, 0, 0), (.invokevirtual 192, 3, 0, 133, 3, 1088), (.iastore, 1, 0, 0, 0, 0), (.aload_n 0, 1, 0, 0, 0, 0), (.getfield 72, 3, 0, 10, 37, 838), (.iload_n 2, 1, 0, 0, 0, 0), (.iconst 1, 1, 1, 0, 0, 0), (.iadd, 1, 0, 0, 0, 0), (.aload_n 0, 1, 0, 0, 0, 0), (.aload_n 0, 1, 0, 0, 0, 0), (.getfield 72, 3, 0, 10, 37, 838), (.iload_n 2, 1, 0, 0, 0, 0), (.iaload, 1, 0, 0, 0, 0), (.iconst 1, 1, 1, 0, 0, 0), (.iadd, 1, 0, 0, 0, 0), (.bipush 24, 2, 24, 0, 0, 0), (.invokevirtual 192, 3, 0, 133, 3, 1088), (.iastore, 1, 0, 0, 0, 0), (.aload_n 0, 1, 0, 0, 0, 0), (.getfield 72, 3, 0, 10, 37, 838), (.iload_n 2, 1, 0, 0, 0, 0), (.iconst 2, 1, 2, 0, 0, 0), (.iadd, 1, 0, 0, 0, 0), (.aload_n 0, 1, 0, 0, 0, 0), (.iconst 0, 1, 0, 0, 0, 0), (.bipush 100, 2, 100, 0, 0, 0), (.invokevirtual 192, 3, 0, 133, 3, 1088), (.iastore, 1, 0, 0, 0, 0), (.aload_n 0, 1, 0, 0, 0, 0), (.dup, 1, 0, 0, 0, 0), (.getfield 198, 3, 0, 10, 34, 835), (.iconst 1, 1, 1, 0, 0, 0), (.iadd, 1, 0, 0, 0, 0), (.putfield 198, 3, 0, 10, 34, 835), (.goto 14, 3, 0, 254, 0, 0)]),
  (243, [(.aload_n 0, 1, 0, 0, 0, 0), (.aload_n 0, 1, 0, 0, 0, 0), (.iconst 0, 1, 0, 0, 0, 0), (.bipush 120, 2, 120, 0, 0, 0), (.invokevirtual 192, 3, 0, 133, 3, 1088), (.putfield 201, 3, 0, 10, 35, 836)]),
  (254, [(.aload_n 0, 1, 0, 0, 0, 0), (.getfield 152, 3, 0, 10, 30, 831), (.ifCond .ne 20, 3, 0, 278, 0, 0), (.aload_n 0, 1, 0, 0, 0, 0), (.getfield 170, 3, 0, 10, 28, 829), (.iconst 3, 1, 3, 0, 0, 0), (.if_icmp .eq 12, 3, 0, 278, 0, 0), (.aload_n 0, 1, 0, 0, 0, 0), (.iconst 2, 1, 2, 0, 0, 0), (.aload_n 0, 1, 0, 0, 0, 0), (.getfield 164, 3, 0, 10, 26, 827), (.invokevirtual 181, 3, 0, 130, 3, 1074)]),
  (278, [(.aload_n 0, 1, 0, 0, 0, 0), (.invokevirtual 189, 3, 0, 132, 1, 1060), (.return_, 1, 0, 0, 0, 0)])]
/-- X10_laws -/
def tp_P136 : List (Nat × List tp_Ins) := [(0, [(.aload_n 0, 1, 0, 0, 0, 0), (.iconst 0, 1, 0, 0, 0, 0), (.putfield 152, 3, 0, 10, 30, 831), (.aload_n 0, 1, 0, 0, 0, 0), (.iconst 0, 1, 0, 0, 0, 0), (.putfield 158, 3, 0, 10, 27, 828), (.aload_n 0, 1, 0, 0, 0, 0), (.iconst 0, 1, 0, 0, 0, 0), (.putfield 195, 3, 0, 10, 33, 834), (.aload_n 0, 1, 0, 0, 0, 0), (.iconst 0, 1, 0, 0, 0, 0), (.putfield 198, 3, 0, 10, 34, 835), (.aload_n 0, 1, 0, 0, 0, 0), (.bipush (-4), 2, -4, 0, 0, 0), (.putfield 201, 3, 0, 10, 35, 836), (.aload_n 0, 1, 0, 0, 0, 0), (.invokevirtual 189, 3, 0, 132, 1, 1060)]),
  (30, [(.aload_n 0, 1, 0, 0, 0, 0), (.getfield 152, 3, 0, 10, 30, 831), (.ifCond .ne 17, 3, 0, 51, 0, 0), (.aload_n 0, 1, 0, 0, 0, 0), (.getfield 170, 3, 0, 10, 28, 829), (.ifCond .eq 10, 3, 0, 51, 0, 0), (.aload_n 0, 1, 0, 0, 0, 0), (.invokevirtual 207, 3, 0, 135, 1, 1080), (.goto (-18), 3, 0, 30, 0, 0)]),
  (51, [(.aload_n 0, 1, 0, 0, 0, 0), (.iconst 0, 1, 0, 0, 0, 0), (.putfield 149, 3, 0, 10, 18, 819), (.aload_n 0, 1, 0, 0, 0, 0), (.aload_n 0, 1, 0, 0, 0, 0), (.getfield 152, 3, 0, 10, 30, 831), (.putfield 210, 3, 0, 10, 19, 820), (.aload_n 0, 1, 0, 0, 0, 0), (.getfield 152, 3, 0, 10, 30, 831), (.ifCond .le 11, 3, 0, 79, 0, 0), (.bipush (-10), 2, -10, 0, 0, 0), (.aload_n 0, 1, 0, 0, 0, 0), (.getfield 155, 3, 0, 10, 31, 832), (.isub, 1, 0, 0, 0, 0), (.ireturn, 1, 0, 0, 0, 0)]),
  (79, [(.aload_n 0, 1, 0, 0, 0, 0), (.aload_n 0, 1, 0, 0, 0, 0), (.getfield 195, 3, 0, 10, 33, 834), (.putfield 213, 3, 0, 10, 20, 821), (.aload_n 0, 1, 0, 0, 0, 0), (.aload_n 0, 1, 0, 0, 0, 0), (.getfield 198, 3, 0, 10, 34, 835), (.putfield 216, 3, 0, 10, 22, 823), (.aload_n 0, 1, 0, 0, 0, 0), (.aload_n 0, 1, 0, 0, 0, 0), (.getfield 201, 3, 0, 10, 35, 836), (.putfield 62, 3, 0, 10, 24, 825), (.iconst 0, 1, 0, 0, 0, 0), (.istore_n 1, 1, 0, 0, 0, 0)]),
  (105, [(.iload_n 1, 1, 0, 0, 0, 0), (.bipush 18, 2, 18, 0, 0, 0), (.if_icmp .ge 21, 3, 0, 129, 0, 0), (.aload_n 0, 1, 0, 0, 0, 0), (.getfield 56, 3, 0, 10, 21, 822), (.iload_n 1, 1, 0, 0, 0, 0), (.aload_n 0, 1, 0, 0, 0, 0), (.getfield 69, 3, 0, 10, 36, 837), (.iload_n 1, 1, 0, 0, 0, 0), (.iaload, 1, 0, 0, 0, 0), (.iastore, 1, 0, 0, 0, 0), (.iinc 1 1, 3, 1, 0, 0, 0), (.goto (-21), 3, 0, 105, 0, 0)]),
  (129, [(.iconst 0, 1, 0, 0, 0, 0), (.istore_n 1, 1, 0, 0, 0, 0)]),
  (131, [(.iload_n 1, 1, 0, 0, 0, 0), (.bipush 12, 2, 12, 0, 0, 0), (.if_icmp .ge 21, 3, 0, 155, 0, 0), (.aload_n 0, 1, 0, 0, 0, 0), (.getfield 59, 3, 0, 10, 23, 824), (.iload_n 1, 1, 0, 0, 0, 0), (.aload_n 0, 1, 0, 0, 0, 0), (.getfield 72, 3, 0, 10, 37, 838), (.iload_n 1, 1, 0, 0, 0, 0), (.iaload, 1, 0, 0, 0, 0), (.iastore, 1, 0, 0, 0, 0), (.iinc 1 1, 3, 1, 0, 0, 0), (.goto (-21), 3, 0, 131, 0, 0)]),
  (155, [(.aload_n 0, 1, 0, 0, 0, 0), (.aload_n 0, 1, 0, 0, 0, 0), (.getfield 213, 3, 0, 10, 20, 821), (.aload_n 0, 1, 0, 0, 0, 0), (.getfield 216, 3, 0, 10, 22, 823), (.iadd, 1, 0, 0, 0, 0), (.aload_n 0, 1, 0, 0, 0, 0), (.getfield 62, 3, 0, 10, 24, 825), (.bipush (-4), 2, -4, 0, 0, 0), (.if_icmp .ne 7, 3, 0, 178, 0, 0), (.iconst 0, 1, 0, 0, 0, 0), (.goto 4, 3, 0, 179, 0, 0)]),
  (178, [(.iconst 1, 1, 1, 0, 0, 0)]),
  (179, [(.iadd, 1, 0, 0, 0, 0), (.putfield 219, 3, 0, 10, 25, 826), (.aload_n 0, 1, 0, 0, 0, 0), (.getfield 219, 3, 0, 10, 25, 826), (.ireturn, 1, 0, 0, 0, 0)])]
/-- X10_fault -/
def tp_P137 : List (Nat × List tp_Ins) := [(0, [(.aload_n 0, 1, 0, 0, 0, 0), (.getfield 210, 3, 0, 10, 19, 820), (.ireturn, 1, 0, 0, 0, 0)])]
/-- X10_fare -/
def tp_P138 : List (Nat × List tp_Ins) := [(0, [(.iload_n 1, 1, 0, 0, 0, 0), (.i2l, 1, 0, 0, 0, 0), (.lconst 1, 1, 0, 0, 0, 0), (.ldc2_w 93, 3, 0, 9, 0, 942), (.invokestatic 89, 3, 0, 101, 3, 939), (.ifCond .eq 15, 3, 0, 24, 0, 0), (.iload_n 2, 1, 0, 0, 0, 0), (.i2l, 1, 0, 0, 0, 0), (.lconst 0, 1, 0, 0, 0, 0), (.ldc2_w 222, 3, 0, 1439, 0, 1100), (.invokestatic 89, 3, 0, 101, 3, 939), (.ifCond .ne 5, 3, 0, 26, 0, 0)]),
  (24, [(.iconst (-1), 1, -1, 0, 0, 0), (.ireturn, 1, 0, 0, 0, 0)]),
  (26, [(.bipush (-4), 2, -4, 0, 0, 0), (.istore_n 3, 1, 0, 0, 0, 0), (.aload_n 0, 1, 0, 0, 0, 0), (.getfield 213, 3, 0, 10, 20, 821), (.iconst 1, 1, 1, 0, 0, 0), (.isub, 1, 0, 0, 0, 0), (.istore 4, 2, 0, 0, 0, 0)]),
  (37, [(.iload 4, 2, 0, 0, 0, 0), (.ifCond .lt 38, 3, 0, 77, 0, 0), (.aload_n 0, 1, 0, 0, 0, 0), (.getfield 56, 3, 0, 10, 21, 822), (.iconst 2, 1, 2, 0, 0, 0), (.iload 4, 2, 0, 0, 0, 0), (.imul, 1, 0, 0, 0, 0), (.iaload, 1, 0, 0, 0, 0), (.iload_n 1, 1, 0, 0, 0, 0), (.if_icmp .lt 17, 3, 0, 69, 0, 0), (.aload_n 0, 1, 0, 0, 0, 0), (.getfield 56, 3, 0, 10, 21, 822), (.iconst 2, 1, 2, 0, 0, 0), (.iload 4, 2, 0, 0, 0, 0), (.imul, 1, 0, 0, 0, 0), (.iconst 1, 1, 1, 0, 0, 0), (.iadd, 1, 0, 0, 0, 0), (.iaload, 1, 0, 0, 0, 0), (.goto 4, 3, 0, 70, 0, 0)]),
  (69, [(.iload_n 3, 1, 0, 0, 0, 0)]),
  (70, [(.istore_n 3, 1, 0, 0, 0, 0), (.iinc 4 (-1), 3, -1, 0, 0, 0), (.goto (-37), 3, 0, 37, 0, 0)]),
  (77, [(.iconst 0, 1, 0, 0, 0, 0), (.istore 4, 2, 0, 0, 0, 0)]),
  (80, [(.iload 4, 2, 0, 0, 0, 0), (.aload_n 0, 1, 0, 0, 0, 0), (.getfield 216, 3, 0, 10, 22, 823), (.if_icmp .ge 70, 3, 0, 156, 0, 0), (.iload_n 3, 1, 0, 0, 0, 0), (.bipush (-4), 2, -4, 0, 0, 0), (.if_icmp .eq 64, 3, 0, 156, 0, 0), (.iload_n 2, 1, 0, 0, 0, 0), (.bipush 60, 2, 60, 0, 0, 0), (.idiv, 1, 0, 0, 0, 0), (.i2l, 1, 0, 0, 0, 0), (.aload_n 0, 1, 0, 0, 0, 0), (.getfield 59, 3, 0, 10, 23, 824), (.iconst 3, 1, 3, 0, 0, 0), (.iload 4, 2, 0, 0, 0, 0), (.imul, 1, 0, 0, 0, 0), (.iaload, 1, 0, 0, 0, 0), (.i2l, 1, 0, 0, 0, 0), (.aload_n 0, 1, 0, 0, 0, 0), (.getfield 59, 3, 0, 10, 23, 824), (.iconst 3, 1, 3, 0, 0, 0), (.iload 4, 2, 0, 0, 0, 0), (.imul, 1, 0, 0, 0, 0), (.iconst 1, 1, 1, 0, 0, 0), (.iadd, 1, 0, 0, 0, 0), (.iaload, 1, 0, 0, 0, 0), (.iconst 1, 1, 1, 0, 0, 0), (.isub, 1, 0, 0, 0, 0), (.i2l, 1, 0, 0, 0, 0), (.invokestatic 89, 3, 0, 101, 3, 939), (.ifCond .eq 23, 3, 0, 150, 0, 0), (.iload_n 3, 1, 0, 0, 0, 0), (.aload_n 0, 1, 0, 0, 0, 0), (.getfield 59, 3, 0, 10, 23, 824), (.iconst 3, 1, 3, 0, 0, 0), (.iload 4, 2, 0, 0, 0, 0), (.imul, 1, 0, 0, 0, 0), (.iconst 2, 1, 2, 0, 0, 0), (.iadd, 1, 0, 0, 0, 0), (.iaload, 1, 0, 0, 0, 0), (.imul, 1, 0, 0, 0, 0), (.bipush 99, 2, 99, 0, 0, 0), (.iadd, 1, 0, 0, 0, 0), (.bipush 100, 2, 100, 0, 0, 0), (.idiv, 1, 0, 0, 0, 0), (.ireturn, 1, 0, 0, 0, 0)]),
  (150, [(.iinc 4 1, 3, 1, 0, 0, 0), (.goto (-73), 3, 0, 80, 0, 0)]),
  (156, [(.iload_n 3, 1, 0, 0, 0, 0), (.ireturn, 1, 0, 0, 0, 0)])]
/-- X10_change -/
def tp_P139 : List (Nat × List tp_Ins) := [(0, [(.iload_n 1, 1, 0, 0, 0, 0), (.i2l, 1, 0, 0, 0, 0), (.lconst 0, 1, 0, 0, 0, 0), (.ldc2_w 222, 3, 0, 1439, 0, 1100), (.invokestatic 89, 3, 0, 101, 3, 939), (.ifCond .eq 16, 3, 0, 25, 0, 0), (.iload_n 2, 1, 0, 0, 0, 0), (.i2l, 1, 0, 0, 0, 0), (.iload_n 1, 1, 0, 0, 0, 0), (.i2l, 1, 0, 0, 0, 0), (.ldc2_w 222, 3, 0, 1439, 0, 1100), (.invokestatic 89, 3, 0, 101, 3, 939), (.ifCond .ne 5, 3, 0, 27, 0, 0)]),
  (25, [(.iconst (-1), 1, -1, 0, 0, 0), (.ireturn, 1, 0, 0, 0, 0)]),
  (27, [(.aload_n 0, 1, 0, 0, 0, 0), (.getfield 62, 3, 0, 10, 24, 825), (.bipush (-4), 2, -4, 0, 0, 0), (.if_icmp .eq 17, 3, 0, 50, 0, 0), (.iload_n 2, 1, 0, 0, 0, 0), (.iload_n 1, 1, 0, 0, 0, 0), (.isub, 1, 0, 0, 0, 0), (.aload_n 0, 1, 0, 0, 0, 0), (.getfield 62, 3, 0, 10, 24, 825), (.if_icmp .gt 7, 3, 0, 50, 0, 0), (.iconst 1, 1, 1, 0, 0, 0), (.goto 4, 3, 0, 51, 0, 0)]),
  (50, [(.iconst 0, 1, 0, 0, 0, 0)]),
  (51, [(.ireturn, 1, 0, 0, 0, 0)])]
/-- X10_duty -/
def tp_P140 : List (Nat × List tp_Ins) := [(0, [(.iload_n 1, 1, 0, 0, 0, 0), (.i2l, 1, 0, 0, 0, 0), (.lconst 0, 1, 0, 0, 0, 0), (.ldc2_w 224, 3, 0, 1440, 0, 1109), (.invokestatic 89, 3, 0, 101, 3, 939), (.ifCond .eq 18, 3, 0, 27, 0, 0), (.iload_n 2, 1, 0, 0, 0, 0), (.i2l, 1, 0, 0, 0, 0), (.iload_n 1, 1, 0, 0, 0, 0), (.i2l, 1, 0, 0, 0, 0), (.lconst 1, 1, 0, 0, 0, 0), (.ladd, 1, 0, 0, 0, 0), (.ldc2_w 224, 3, 0, 1440, 0, 1109), (.invokestatic 89, 3, 0, 101, 3, 939), (.ifCond .ne 5, 3, 0, 29, 0, 0)]),
  (27, [(.iconst (-1), 1, -1, 0, 0, 0), (.ireturn, 1, 0, 0, 0, 0)]),
  (29, [(.aload_n 0, 1, 0, 0, 0, 0), (.getfield 226, 3, 0, 10, 38, 839), (.bipush 10, 2, 10, 0, 0, 0), (.if_icmp .ne 6, 3, 0, 41, 0, 0), (.bipush (-3), 2, -3, 0, 0, 0), (.ireturn, 1, 0, 0, 0, 0)]),
  (41, [(.aload_n 0, 1, 0, 0, 0, 0), (.getfield 75, 3, 0, 10, 39, 840), (.aload_n 0, 1, 0, 0, 0, 0), (.getfield 226, 3, 0, 10, 38, 839), (.iload_n 1, 1, 0, 0, 0, 0), (.iastore, 1, 0, 0, 0, 0), (.aload_n 0, 1, 0, 0, 0, 0), (.getfield 78, 3, 0, 10, 40, 841), (.aload_n 0, 1, 0, 0, 0, 0), (.getfield 226, 3, 0, 10, 38, 839), (.iload_n 2, 1, 0, 0, 0, 0), (.iastore, 1, 0, 0, 0, 0), (.aload_n 0, 1, 0, 0, 0, 0), (.dup, 1, 0, 0, 0, 0), (.getfield 226, 3, 0, 10, 38, 839), (.iconst 1, 1, 1, 0, 0, 0), (.iadd, 1, 0, 0, 0, 0), (.putfield 226, 3, 0, 10, 38, 839), (.aload_n 0, 1, 0, 0, 0, 0), (.getfield 226, 3, 0, 10, 38, 839), (.iconst 1, 1, 1, 0, 0, 0), (.isub, 1, 0, 0, 0, 0), (.ireturn, 1, 0, 0, 0, 0)])]
/-- X10_rest -/
def tp_P141 : List (Nat × List tp_Ins) := [(0, [(.iload_n 1, 1, 0, 0, 0, 0), (.i2l, 1, 0, 0, 0, 0), (.lconst 0, 1, 0, 0, 0, 0), (.ldc2_w 229, 3, 0, 600, 0, 1114), (.invokestatic 89, 3, 0, 101, 3, 939), (.ifCond .ne 5, 3, 0, 14, 0, 0), (.iconst (-1), 1, -1, 0, 0, 0), (.ireturn, 1, 0, 0, 0, 0)]),
  (14, [(.aload_n 0, 1, 0, 0, 0, 0), (.getfield 81, 3, 0, 10, 41, 842), (.istore_n 2, 1, 0, 0, 0, 0), (.aload_n 0, 1, 0, 0, 0, 0), (.iload_n 1, 1, 0, 0, 0, 0), (.putfield 81, 3, 0, 10, 41, 842), (.iload_n 2, 1, 0, 0, 0, 0), (.ireturn, 1, 0, 0, 0, 0)])]
/-- X10_layCrews -/
def tp_P142 : List (Nat × List tp_Ins) := [(0, [(.aload_n 0, 1, 0, 0, 0, 0), (.iconst 0, 1, 0, 0, 0, 0), (.putfield 231, 3, 0, 10, 43, 844), (.iconst 0, 1, 0, 0, 0, 0), (.istore_n 1, 1, 0, 0, 0, 0)]),
  (7, [(.iload_n 1, 1, 0, 0, 0, 0), (.aload_n 0, 1, 0, 0, 0, 0), (.getfield 226, 3, 0, 10, 38, 839), (.if_icmp .ge 17, 3, 0, 29, 0, 0), (.aload_n 0, 1, 0, 0, 0, 0), (.getfield 84, 3, 0, 10, 42, 843), (.iload_n 1, 1, 0, 0, 0, 0), (.bipush (-4), 2, -4, 0, 0, 0), (.iastore, 1, 0, 0, 0, 0), (.iinc 1 1, 3, 1, 0, 0, 0), (.goto (-19), 3, 0, 7, 0, 0)]),
  (29, [(.iconst 0, 1, 0, 0, 0, 0), (.istore_n 1, 1, 0, 0, 0, 0)]),
  (31, [(.iload_n 1, 1, 0, 0, 0, 0), (.aload_n 0, 1, 0, 0, 0, 0), (.getfield 226, 3, 0, 10, 38, 839), (.if_icmp .ge 114, 3, 0, 150, 0, 0), (.bipush (-4), 2, -4, 0, 0, 0), (.istore_n 2, 1, 0, 0, 0, 0), (.iconst 0, 1, 0, 0, 0, 0), (.istore_n 3, 1, 0, 0, 0, 0)]),
  (44, [(.iload_n 3, 1, 0, 0, 0, 0), (.aload_n 0, 1, 0, 0, 0, 0), (.getfield 226, 3, 0, 10, 38, 839), (.if_icmp .ge 47, 3, 0, 96, 0, 0), (.aload_n 0, 1, 0, 0, 0, 0), (.getfield 84, 3, 0, 10, 42, 843), (.iload_n 3, 1, 0, 0, 0, 0), (.iaload, 1, 0, 0, 0, 0), (.bipush (-4), 2, -4, 0, 0, 0), (.if_icmp .ne 28, 3, 0, 88, 0, 0), (.iload_n 2, 1, 0, 0, 0, 0), (.bipush (-4), 2, -4, 0, 0, 0), (.if_icmp .eq 18, 3, 0, 84, 0, 0), (.aload_n 0, 1, 0, 0, 0, 0), (.getfield 75, 3, 0, 10, 39, 840), (.iload_n 3, 1, 0, 0, 0, 0), (.iaload, 1, 0, 0, 0, 0), (.aload_n 0, 1, 0, 0, 0, 0), (.getfield 75, 3, 0, 10, 39, 840), (.iload_n 2, 1, 0, 0, 0, 0), (.iaload, 1, 0, 0, 0, 0), (.if_icmp .ge 7, 3, 0, 88, 0, 0)]),
  (84, [(.iload_n 3, 1, 0, 0, 0, 0), (.goto 4, 3, 0, 89, 0, 0)]),
  (88, [(.iload_n 2, 1, 0, 0, 0, 0)]),
  (89, [(.istore_n 2, 1, 0, 0, 0, 0), (.iinc 3 1, 3, 1, 0, 0, 0), (.goto (-49), 3, 0, 44, 0, 0)]),
  (96, [(.iconst 0, 1, 0, 0, 0, 0), (.istore_n 3, 1, 0, 0, 0, 0)]),
  (98, [(.aload_n 0, 1, 0, 0, 0, 0), (.iload_n 3, 1, 0, 0, 0, 0), (.iload_n 2, 1, 0, 0, 0, 0), (.invokevirtual 234, 3, 0, 143, 3, 1123), (.ifCond .ne 9, 3, 0, 113, 0, 0), (.iinc 3 1, 3, 1, 0, 0, 0), (.goto (-12), 3, 0, 98, 0, 0)]),
  (113, [(.aload_n 0, 1, 0, 0, 0, 0), (.getfield 84, 3, 0, 10, 42, 843), (.iload_n 2, 1, 0, 0, 0, 0), (.iload_n 3, 1, 0, 0, 0, 0), (.iastore, 1, 0, 0, 0, 0), (.aload_n 0, 1, 0, 0, 0, 0), (.iload_n 3, 1, 0, 0, 0, 0), (.iconst 1, 1, 1, 0, 0, 0), (.iadd, 1, 0, 0, 0, 0), (.aload_n 0, 1, 0, 0, 0, 0), (.getfield 231, 3, 0, 10, 43, 844), (.if_icmp .le 9, 3, 0, 137, 0, 0), (.iload_n 3, 1, 0, 0, 0, 0), (.iconst 1, 1, 1, 0, 0, 0), (.iadd, 1, 0, 0, 0, 0), (.goto 7, 3, 0, 141, 0, 0)]),
  (137, [(.aload_n 0, 1, 0, 0, 0, 0), (.getfield 231, 3, 0, 10, 43, 844)]),
  (141, [(.putfield 231, 3, 0, 10, 43, 844), (.iinc 1 1, 3, 1, 0, 0, 0), (.goto (-116), 3, 0, 31, 0, 0)]),
  (150, [(.return_, 1, 0, 0, 0, 0)])]
/-- X10_mayHave -/
def tp_P143 : List (Nat × List tp_Ins) := [(0, [(.iconst 1, 1, 1, 0, 0, 0), (.istore_n 3, 1, 0, 0, 0, 0), (.iconst 0, 1, 0, 0, 0, 0), (.istore 4, 2, 0, 0, 0, 0)]),
  (5, [(.iload 4, 2, 0, 0, 0, 0), (.aload_n 0, 1, 0, 0, 0, 0), (.getfield 226, 3, 0, 10, 38, 839), (.if_icmp .ge 51, 3, 0, 62, 0, 0), (.iload_n 3, 1, 0, 0, 0, 0), (.ifCond .eq 39, 3, 0, 54, 0, 0), (.aload_n 0, 1, 0, 0, 0, 0), (.getfield 84, 3, 0, 10, 42, 843), (.iload 4, 2, 0, 0, 0, 0), (.iaload, 1, 0, 0, 0, 0), (.iload_n 1, 1, 0, 0, 0, 0), (.if_icmp .ne 24, 3, 0, 50, 0, 0), (.aload_n 0, 1, 0, 0, 0, 0), (.getfield 78, 3, 0, 10, 40, 841), (.iload 4, 2, 0, 0, 0, 0), (.iaload, 1, 0, 0, 0, 0), (.aload_n 0, 1, 0, 0, 0, 0), (.getfield 81, 3, 0, 10, 41, 842), (.iadd, 1, 0, 0, 0, 0), (.aload_n 0, 1, 0, 0, 0, 0), (.getfield 75, 3, 0, 10, 39, 840), (.iload_n 2, 1, 0, 0, 0, 0), (.iaload, 1, 0, 0, 0, 0), (.if_icmp .gt 7, 3, 0, 54, 0, 0)]),
  (50, [(.iconst 1, 1, 1, 0, 0, 0), (.goto 4, 3, 0, 55, 0, 0)]),
  (54, [(.iconst 0, 1, 0, 0, 0, 0)]),
  (55, [(.istore_n 3, 1, 0, 0, 0, 0), (.iinc 4 1, 3, 1, 0, 0, 0), (.goto (-54), 3, 0, 5, 0, 0)]),
  (62, [(.iload_n 3, 1, 0, 0, 0, 0), (.ireturn, 1, 0, 0, 0, 0)])]
/-- X10_crew -/
def tp_P144 : List (Nat × List tp_Ins) := [(0, [(.iload_n 1, 1, 0, 0, 0, 0), (.i2l, 1, 0, 0, 0, 0), (.lconst 0, 1, 0, 0, 0, 0), (.aload_n 0, 1, 0, 0, 0, 0), (.getfield 226, 3, 0, 10, 38, 839), (.iconst 1, 1, 1, 0, 0, 0), (.isub, 1, 0, 0, 0, 0), (.i2l, 1, 0, 0, 0, 0), (.invokestatic 89, 3, 0, 101, 3, 939), (.ifCond .ne 5, 3, 0, 18, 0, 0), (.iconst (-1), 1, -1, 0, 0, 0), (.ireturn, 1, 0, 0, 0, 0)]),
  (18, [(.aload_n 0, 1, 0, 0, 0, 0), (.invokevirtual 237, 3, 0, 142, 1, 1119), (.aload_n 0, 1, 0, 0, 0, 0), (.getfield 84, 3, 0, 10, 42, 843), (.iload_n 1, 1, 0, 0, 0, 0), (.iaload, 1, 0, 0, 0, 0), (.ireturn, 1, 0, 0, 0, 0)])]
/-- X10_minutesOf -/
def tp_P145 : List (Nat × List tp_Ins) := [(0, [(.iconst 0, 1, 0, 0, 0, 0), (.istore_n 2, 1, 0, 0, 0, 0), (.iconst 0, 1, 0, 0, 0, 0), (.istore_n 3, 1, 0, 0, 0, 0)]),
  (4, [(.iload_n 3, 1, 0, 0, 0, 0), (.aload_n 0, 1, 0, 0, 0, 0), (.getfield 226, 3, 0, 10, 38, 839), (.if_icmp .ge 39, 3, 0, 48, 0, 0), (.iload_n 2, 1, 0, 0, 0, 0), (.aload_n 0, 1, 0, 0, 0, 0), (.getfield 84, 3, 0, 10, 42, 843), (.iload_n 3, 1, 0, 0, 0, 0), (.iaload, 1, 0, 0, 0, 0), (.iload_n 1, 1, 0, 0, 0, 0), (.if_icmp .ne 19, 3, 0, 39, 0, 0), (.aload_n 0, 1, 0, 0, 0, 0), (.getfield 78, 3, 0, 10, 40, 841), (.iload_n 3, 1, 0, 0, 0, 0), (.iaload, 1, 0, 0, 0, 0), (.aload_n 0, 1, 0, 0, 0, 0), (.getfield 75, 3, 0, 10, 39, 840), (.iload_n 3, 1, 0, 0, 0, 0), (.iaload, 1, 0, 0, 0, 0), (.isub, 1, 0, 0, 0, 0), (.goto 4, 3, 0, 40, 0, 0)]),
  (39, [(.iconst 0, 1, 0, 0, 0, 0)]),
  (40, [(.iadd, 1, 0, 0, 0, 0), (.istore_n 2, 1, 0, 0, 0, 0), (.iinc 3 1, 3, 1, 0, 0, 0), (.goto (-41), 3, 0, 4, 0, 0)]),
  (48, [(.iload_n 2, 1, 0, 0, 0, 0), (.ireturn, 1, 0, 0, 0, 0)])]
/-- X10_crews -/
def tp_P146 : List (Nat × List tp_Ins) := [(0, [(.iload_n 1, 1, 0, 0, 0, 0), (.i2l, 1, 0, 0, 0, 0), (.lconst 0, 1, 0, 0, 0, 0), (.ldc2_w 131, 3, 0, 2, 0, 995), (.invokestatic 89, 3, 0, 101, 3, 939), (.ifCond .ne 5, 3, 0, 14, 0, 0), (.iconst (-1), 1, -1, 0, 0, 0), (.ireturn, 1, 0, 0, 0, 0)]),
  (14, [(.aload_n 0, 1, 0, 0, 0, 0), (.invokevirtual 237, 3, 0, 142, 1, 1119), (.bipush (-4), 2, -4, 0, 0, 0), (.istore_n 2, 1, 0, 0, 0, 0), (.aload_n 0, 1, 0, 0, 0, 0), (.getfield 231, 3, 0, 10, 43, 844), (.iconst 1, 1, 1, 0, 0, 0), (.isub, 1, 0, 0, 0, 0), (.istore_n 3, 1, 0, 0, 0, 0)]),
  (28, [(.iload_n 3, 1, 0, 0, 0, 0), (.ifCond .lt 34, 3, 0, 63, 0, 0), (.iload_n 2, 1, 0, 0, 0, 0), (.bipush (-4), 2, -4, 0, 0, 0), (.if_icmp .eq 16, 3, 0, 51, 0, 0), (.aload_n 0, 1, 0, 0, 0, 0), (.iload_n 3, 1, 0, 0, 0, 0), (.invokevirtual 240, 3, 0, 145, 2, 1131), (.aload_n 0, 1, 0, 0, 0, 0), (.iload_n 2, 1, 0, 0, 0, 0), (.invokevirtual 240, 3, 0, 145, 2, 1131), (.if_icmp .lt 7, 3, 0, 55, 0, 0)]),
  (51, [(.iload_n 3, 1, 0, 0, 0, 0), (.goto 4, 3, 0, 56, 0, 0)]),
  (55, [(.iload_n 2, 1, 0, 0, 0, 0)]),
  (56, [(.istore_n 2, 1, 0, 0, 0, 0), (.iinc 3 (-1), 3, -1, 0, 0, 0), (.goto (-32), 3, 0, 28, 0, 0)]),
  (63, [(.iload_n 1, 1, 0, 0, 0, 0), (.ifCond .ne 10, 3, 0, 74, 0, 0), (.aload_n 0, 1, 0, 0, 0, 0), (.getfield 231, 3, 0, 10, 43, 844), (.goto 27, 3, 0, 98, 0, 0)]),
  (74, [(.iload_n 1, 1, 0, 0, 0, 0), (.iconst 2, 1, 2, 0, 0, 0), (.if_icmp .ne 7, 3, 0, 83, 0, 0), (.iload_n 2, 1, 0, 0, 0, 0), (.goto 18, 3, 0, 98, 0, 0)]),
  (83, [(.iload_n 2, 1, 0, 0, 0, 0), (.bipush (-4), 2, -4, 0, 0, 0), (.if_icmp .ne 7, 3, 0, 93, 0, 0), (.iconst 0, 1, 0, 0, 0, 0), (.goto 8, 3, 0, 98, 0, 0)]),
  (93, [(.aload_n 0, 1, 0, 0, 0, 0), (.iload_n 2, 1, 0, 0, 0, 0), (.invokevirtual 240, 3, 0, 145, 2, 1131)]),
  (98, [(.ireturn, 1, 0, 0, 0, 0)])]
/-- X10_ill -/
def tp_P147 : List (Nat × List tp_Ins) := [(0, [(.aload_n 0, 1, 0, 0, 0, 0), (.invokevirtual 237, 3, 0, 142, 1, 1119), (.iload_n 1, 1, 0, 0, 0, 0), (.i2l, 1, 0, 0, 0, 0), (.lconst 0, 1, 0, 0, 0, 0), (.aload_n 0, 1, 0, 0, 0, 0), (.getfield 231, 3, 0, 10, 43, 844), (.iconst 1, 1, 1, 0, 0, 0), (.isub, 1, 0, 0, 0, 0), (.i2l, 1, 0, 0, 0, 0), (.invokestatic 89, 3, 0, 101, 3, 939), (.ifCond .ne 5, 3, 0, 22, 0, 0), (.iconst (-1), 1, -1, 0, 0, 0), (.ireturn, 1, 0, 0, 0, 0)]),
  (22, [(.iconst 0, 1, 0, 0, 0, 0), (.istore_n 2, 1, 0, 0, 0, 0), (.iconst 0, 1, 0, 0, 0, 0), (.istore_n 3, 1, 0, 0, 0, 0)]),
  (26, [(.iload_n 3, 1, 0, 0, 0, 0), (.aload_n 0, 1, 0, 0, 0, 0), (.getfield 226, 3, 0, 10, 38, 839), (.if_icmp .ge 163, 3, 0, 194, 0, 0), (.aload_n 0, 1, 0, 0, 0, 0), (.getfield 84, 3, 0, 10, 42, 843), (.iload_n 3, 1, 0, 0, 0, 0), (.iaload, 1, 0, 0, 0, 0), (.iload_n 1, 1, 0, 0, 0, 0), (.if_icmp .eq 7, 3, 0, 48, 0, 0), (.iconst 1, 1, 1, 0, 0, 0), (.goto 4, 3, 0, 49, 0, 0)]),
  (48, [(.iconst 0, 1, 0, 0, 0, 0)]),
  (49, [(.istore 4, 2, 0, 0, 0, 0), (.iconst 0, 1, 0, 0, 0, 0), (.istore 5, 2, 0, 0, 0, 0)]),
  (54, [(.iload 5, 2, 0, 0, 0, 0), (.aload_n 0, 1, 0, 0, 0, 0), (.getfield 231, 3, 0, 10, 43, 844), (.if_icmp .ge 115, 3, 0, 175, 0, 0), (.iload 4, 2, 0, 0, 0, 0), (.ifCond .ne 110, 3, 0, 175, 0, 0), (.iload 5, 2, 0, 0, 0, 0), (.iload_n 1, 1, 0, 0, 0, 0), (.if_icmp .eq 7, 3, 0, 78, 0, 0), (.iconst 1, 1, 1, 0, 0, 0), (.goto 4, 3, 0, 79, 0, 0)]),
  (78, [(.iconst 0, 1, 0, 0, 0, 0)]),
  (79, [(.istore 6, 2, 0, 0, 0, 0), (.iconst 0, 1, 0, 0, 0, 0), (.istore 7, 2, 0, 0, 0, 0)]),
  (84, [(.iload 7, 2, 0, 0, 0, 0), (.aload_n 0, 1, 0, 0, 0, 0), (.getfield 226, 3, 0, 10, 38, 839), (.if_icmp .ge 75, 3, 0, 165, 0, 0), (.iload 6, 2, 0, 0, 0, 0), (.ifCond .eq 61, 3, 0, 156, 0, 0), (.aload_n 0, 1, 0, 0, 0, 0), (.getfield 84, 3, 0, 10, 42, 843), (.iload 7, 2, 0, 0, 0, 0), (.iaload, 1, 0, 0, 0, 0), (.iload 5, 2, 0, 0, 0, 0), (.if_icmp .ne 45, 3, 0, 152, 0, 0), (.aload_n 0, 1, 0, 0, 0, 0), (.getfield 78, 3, 0, 10, 40, 841), (.iload 7, 2, 0, 0, 0, 0), (.iaload, 1, 0, 0, 0, 0), (.aload_n 0, 1, 0, 0, 0, 0), (.getfield 81, 3, 0, 10, 41, 842), (.iadd, 1, 0, 0, 0, 0), (.aload_n 0, 1, 0, 0, 0, 0), (.getfield 75, 3, 0, 10, 39, 840), (.iload_n 3, 1, 0, 0, 0, 0), (.iaload, 1, 0, 0, 0, 0), (.if_icmp .le 24, 3, 0, 152, 0, 0), (.aload_n 0, 1, 0, 0, 0, 0), (.getfield 78, 3, 0, 10, 40, 841), (.iload_n 3, 1, 0, 0, 0, 0), (.iaload, 1, 0, 0, 0, 0), (.aload_n 0, 1, 0, 0, 0, 0), (.getfield 81, 3, 0, 10, 41, 842), (.iadd, 1, 0, 0, 0, 0), (.aload_n 0, 1, 0, 0, 0, 0), (.getfield 75, 3, 0, 10, 39, 840), (.iload 7, 2, 0, 0, 0, 0), (.iaload, 1, 0, 0, 0, 0), (.if_icmp .gt 7, 3, 0, 156, 0, 0)]),
  (152, [(.iconst 1, 1, 1, 0, 0, 0), (.goto 4, 3, 0, 157, 0, 0)]),
  (156, [(.iconst 0, 1, 0, 0, 0, 0)]),
  (157, [(.istore 6, 2, 0, 0, 0, 0), (.iinc 7 1, 3, 1, 0, 0, 0), (.goto (-78), 3, 0, 84, 0, 0)]),
  (165, [(.iload 6, 2, 0, 0, 0, 0), (.istore 4, 2, 0, 0, 0, 0), (.iinc 5 1, 3, 1, 0, 0, 0), (.goto (-118), 3, 0, 54, 0, 0)]),
  (175, [(.iload_n 2, 1, 0, 0, 0, 0), (.iload 4, 2, 0, 0, 0, 0), (.ifCond .eq 7, 3, 0, 185, 0, 0), (.iconst 0, 1, 0, 0, 0, 0), (.goto 4, 3, 0, 186, 0, 0)]),
  (185, [(.iconst 1, 1, 1, 0, 0, 0)]),
  (186, [(.iadd, 1, 0, 0, 0, 0), (.istore_n 2, 1, 0, 0, 0, 0), (.iinc 3 1, 3, 1, 0, 0, 0), (.goto (-165), 3, 0, 26, 0, 0)]),
  (194, [(.iload_n 2, 1, 0, 0, 0, 0), (.ireturn, 1, 0, 0, 0, 0)])]
/-- X10_count -/
def tp_P148 : List (Nat × List tp_Ins) := [(0, [(.iconst 0, 1, 0, 0, 0, 0), (.istore_n 2, 1, 0, 0, 0, 0), (.iload_n 1, 1, 0, 0, 0, 0), (.tableswitch 133 0 7 #[45, 50, 55, 60, 95, 100, 105, 128], 45, 0, 0, 0, 0)]),
  (48, [(.aload_n 0, 1, 0, 0, 0, 0), (.getfield 95, 3, 0, 10, 0, 801), (.ireturn, 1, 0, 0, 0, 0)]),
  (53, [(.aload_n 0, 1, 0, 0, 0, 0), (.getfield 111, 3, 0, 10, 5, 806), (.ireturn, 1, 0, 0, 0, 0)]),
  (58, [(.aload_n 0, 1, 0, 0, 0, 0), (.getfield 108, 3, 0, 10, 9, 810), (.ireturn, 1, 0, 0, 0, 0)]),
  (63, [(.iconst 0, 1, 0, 0, 0, 0), (.istore_n 3, 1, 0, 0, 0, 0)]),
  (65, [(.iload_n 3, 1, 0, 0, 0, 0), (.aload_n 0, 1, 0, 0, 0, 0), (.getfield 111, 3, 0, 10, 5, 806), (.if_icmp .ge 26, 3, 0, 96, 0, 0), (.iload_n 2, 1, 0, 0, 0, 0), (.aload_n 0, 1, 0, 0, 0, 0), (.getfield 29, 3, 0, 10, 8, 809), (.iload_n 3, 1, 0, 0, 0, 0), (.baload, 1, 0, 0, 0, 0), (.ifCond .eq 7, 3, 0, 87, 0, 0), (.iconst 1, 1, 1, 0, 0, 0), (.goto 4, 3, 0, 88, 0, 0)]),
  (87, [(.iconst 0, 1, 0, 0, 0, 0)]),
  (88, [(.iadd, 1, 0, 0, 0, 0), (.istore_n 2, 1, 0, 0, 0, 0), (.iinc 3 1, 3, 1, 0, 0, 0), (.goto (-28), 3, 0, 65, 0, 0)]),
  (96, [(.iload_n 2, 1, 0, 0, 0, 0), (.ireturn, 1, 0, 0, 0, 0)]),
  (98, [(.aload_n 0, 1, 0, 0, 0, 0), (.getfield 226, 3, 0, 10, 38, 839), (.ireturn, 1, 0, 0, 0, 0)]),
  (103, [(.aload_n 0, 1, 0, 0, 0, 0), (.getfield 219, 3, 0, 10, 25, 826), (.ireturn, 1, 0, 0, 0, 0)]),
  (108, [(.aload_n 0, 1, 0, 0, 0, 0), (.getfield 44, 3, 0, 10, 14, 815), (.iconst 0, 1, 0, 0, 0, 0), (.iaload, 1, 0, 0, 0, 0), (.bipush (-4), 2, -4, 0, 0, 0), (.if_icmp .ne 8, 3, 0, 124, 0, 0), (.bipush (-4), 2, -4, 0, 0, 0), (.goto 9, 3, 0, 130, 0, 0)]),
  (124, [(.aload_n 0, 1, 0, 0, 0, 0), (.getfield 47, 3, 0, 10, 15, 816), (.iconst 0, 1, 0, 0, 0, 0), (.iaload, 1, 0, 0, 0, 0)]),
  (130, [(.ireturn, 1, 0, 0, 0, 0)]),
  (131, [(.aload_n 0, 1, 0, 0, 0, 0), (.getfield 149, 3, 0, 10, 18, 819), (.ireturn, 1, 0, 0, 0, 0)]),
  (136, [(.iconst (-1), 1, -1, 0, 0, 0), (.ireturn, 1, 0, 0, 0, 0)])]
/-- J0_length_8abf5 -/
def tp_P149 : List (Nat × List tp_Ins) := [(0, [(.aload_n 0, 1, 0, 0, 0, 0), (.getfield 9, 3, 0, 28, 0, 1144), (.arraylength, 1, 0, 0, 0, 0), (.aload_n 0, 1, 0, 0, 0, 0), (.invokevirtual 335, 3, 0, 151, 1, 598), (.ishr, 1, 0, 0, 0, 0), (.ireturn, 1, 0, 0, 0, 0)])]
/-- J0_charAt_5068e -/
def tp_P150 : List (Nat × List tp_Ins) := [(0, [(.aload_n 0, 1, 0, 0, 0, 0), (.invokevirtual 492, 3, 0, 152, 1, 608), (.ifCond .eq 12, 3, 0, 16, 0, 0), (.aload_n 0, 1, 0, 0, 0, 0), (.getfield 9, 3, 0, 28, 0, 1144), (.iload_n 1, 1, 0, 0, 0, 0), (.invokestatic 495, 3, 0, 154, 2, 612), (.ireturn, 1, 0, 0, 0, 0)])]
/-- J0_coder_7d493 -/
def tp_P151 : List (Nat × List tp_Ins) := [(0, [(.getstatic 38, 3, 1, 0, 1, 602), (.ifCond .eq 10, 3, 0, 13, 0, 0), (.aload_n 0, 1, 0, 0, 0, 0), (.getfield 15, 3, 0, 28, 1, 1145), (.goto 4, 3, 0, 14, 0, 0)]),
  (13, [(.iconst 1, 1, 1, 0, 0, 0)]),
  (14, [(.ireturn, 1, 0, 0, 0, 0)])]
/-- J0_isLatin1_aae02 -/
def tp_P152 : List (Nat × List tp_Ins) := [(0, [(.getstatic 38, 3, 1, 0, 1, 602), (.ifCond .eq 14, 3, 0, 17, 0, 0), (.aload_n 0, 1, 0, 0, 0, 0), (.getfield 15, 3, 0, 28, 1, 1145), (.ifCond .ne 7, 3, 0, 17, 0, 0), (.iconst 1, 1, 1, 0, 0, 0), (.goto 4, 3, 0, 18, 0, 0)]),
  (17, [(.iconst 0, 1, 0, 0, 0, 0)]),
  (18, [(.ireturn, 1, 0, 0, 0, 0)])]
/-- J0_checkIndex_df160 -/
def tp_P153 : List (Nat × List tp_Ins) := [(0, [(.iload_n 0, 1, 0, 0, 0, 0), (.iload_n 1, 1, 0, 0, 0, 0), (.getstatic 1053, 3, 0, 100, 2, 618), (.invokestatic 1059, 3, 0, 155, 3, 620), (.pop, 1, 0, 0, 0, 0), (.return_, 1, 0, 0, 0, 0)])]
/-- J1_charAt_3b067 -/
def tp_P154 : List (Nat × List tp_Ins) := [(0, [(.iload_n 1, 1, 0, 0, 0, 0), (.aload_n 0, 1, 0, 0, 0, 0), (.arraylength, 1, 0, 0, 0, 0), (.invokestatic 9, 3, 0, 153, 2, 615), (.aload_n 0, 1, 0, 0, 0, 0), (.iload_n 1, 1, 0, 0, 0, 0), (.baload, 1, 0, 0, 0, 0), (.sipush 255, 3, 255, 0, 0, 0), (.iand, 1, 0, 0, 0, 0), (.i2c, 1, 0, 0, 0, 0), (.ireturn, 1, 0, 0, 0, 0)])]
/-- J3_checkIndex_8e157 -/
def tp_P155 : List (Nat × List tp_Ins) := [(0, [(.iload_n 0, 1, 0, 0, 0, 0), (.ifCond .lt 8, 3, 0, 9, 0, 0), (.iload_n 0, 1, 0, 0, 0, 0), (.iload_n 1, 1, 0, 0, 0, 0), (.if_icmp .lt 10, 3, 0, 16, 0, 0)]),
  (16, [(.iload_n 0, 1, 0, 0, 0, 0), (.ireturn, 1, 0, 0, 0, 0)])]
def tp_P156_0 : List (Nat × List tp_Ins) := [(18, [(.iload_n 3, 1, 0, 0, 0, 0), (.aload_n 0, 1, 0, 0, 0, 0), (.arraylength, 1, 0, 0, 0, 0), (.bipush 6, 2, 6, 0, 0, 0), (.isub, 1, 0, 0, 0, 0), (.if_icmp .gt 1192, 3, 0, 1216, 0, 0), (.aload_n 0, 1, 0, 0, 0, 0), (.iload_n 3, 1, 0, 0, 0, 0), (.iaload, 1, 0, 0, 0, 0), (.bipush 31, 2, 31, 0, 0, 0), (.iand, 1, 0, 0, 0, 0), (.tableswitch 1177 0 29 #[135, 168, 221, 264, 313, 336, 379, 392, 435, 478, 541, 584, 607, 640, 683, 742, 795, 838, 861, 914, 937, 950, 963, 996, 1029, 1062, 1085, 1108, 1131, 1154], 135, 0, 0, 0, 0)]),
  (168, [(.aload_n 1, 1, 0, 0, 0, 0), (.aload_n 0, 1, 0, 0, 0, 0), (.iload_n 3, 1, 0, 0, 0, 0), (.iconst 1, 1, 1, 0, 0, 0), (.iadd, 1, 0, 0, 0, 0), (.iaload, 1, 0, 0, 0, 0), (.aload_n 0, 1, 0, 0, 0, 0), (.iload_n 3, 1, 0, 0, 0, 0), (.iconst 2, 1, 2, 0, 0, 0), (.iadd, 1, 0, 0, 0, 0), (.iaload, 1, 0, 0, 0, 0), (.invokevirtual 13, 3, 0, 61, 3, 318), (.aload_n 2, 1, 0, 0, 0, 0), (.aload_n 0, 1, 0, 0, 0, 0), (.iload_n 3, 1, 0, 0, 0, 0), (.iconst 1, 1, 1, 0, 0, 0), (.iadd, 1, 0, 0, 0, 0), (.iaload, 1, 0, 0, 0, 0), (.aload_n 0, 1, 0, 0, 0, 0), (.iload_n 3, 1, 0, 0, 0, 0), (.iconst 2, 1, 2, 0, 0, 0), (.iadd, 1, 0, 0, 0, 0), (.iaload, 1, 0, 0, 0, 0), (.invokevirtual 17, 3, 0, 102, 3, 934), (.if_icmp .eq 1014, 3, 0, 1210, 0, 0), (.iconst 0, 1, 0, 0, 0, 0), (.ireturn, 1, 0, 0, 0, 0)]),
  (201, [(.aload_n 1, 1, 0, 0, 0, 0), (.aload_n 0, 1, 0, 0, 0, 0), (.iload_n 3, 1, 0, 0, 0, 0), (.iconst 1, 1, 1, 0, 0, 0), (.iadd, 1, 0, 0, 0, 0), (.iaload, 1, 0, 0, 0, 0), (.aload_n 0, 1, 0, 0, 0, 0), (.iload_n 3, 1, 0, 0, 0, 0), (.iconst 2, 1, 2, 0, 0, 0), (.iadd, 1, 0, 0, 0, 0), (.iaload, 1, 0, 0, 0, 0), (.aload_n 0, 1, 0, 0, 0, 0), (.iload_n 3, 1, 0, 0, 0, 0), (.iconst 3, 1, 3, 0, 0, 0), (.iadd, 1, 0, 0, 0, 0), (.iaload, 1, 0, 0, 0, 0), (.aload_n 0, 1, 0, 0, 0, 0), (.iload_n 3, 1, 0, 0, 0, 0), (.iconst 4, 1, 4, 0, 0, 0), (.iadd, 1, 0, 0, 0, 0), (.iaload, 1, 0, 0, 0, 0), (.invokevirtual 18, 3, 0, 62, 5, 329), (.aload_n 2, 1, 0, 0, 0, 0), (.aload_n 0, 1, 0, 0, 0, 0), (.iload_n 3, 1, 0, 0, 0, 0), (.iconst 1, 1, 1, 0, 0, 0), (.iadd, 1, 0, 0, 0, 0), (.iaload, 1, 0, 0, 0, 0), (.aload_n 0, 1, 0, 0, 0, 0), (.iload_n 3, 1, 0, 0, 0, 0), (.iconst 2, 1, 2, 0, 0, 0), (.iadd, 1, 0, 0, 0, 0), (.iaload, 1, 0, 0, 0, 0), (.aload_n 0, 1, 0, 0, 0, 0), (.iload_n 3, 1, 0, 0, 0, 0), (.iconst 3, 1, 3, 0, 0, 0), (.iadd, 1, 0, 0, 0, 0), (.iaload, 1, 0, 0, 0, 0), (.aload_n 0, 1, 0, 0, 0, 0), (.iload_n 3, 1, 0, 0, 0, 0), (.iconst 4, 1, 4, 0, 0, 0), (.iadd, 1, 0, 0, 0, 0), (.iaload, 1, 0, 0, 0, 0), (.invokevirtual 22, 3, 0, 104, 5, 943), (.if_icmp .eq 961, 3, 0, 1210, 0, 0), (.iconst 0, 1, 0, 0, 0, 0), (.ireturn, 1, 0, 0, 0, 0)]),
  (254, [(.aload_n 1, 1, 0, 0, 0, 0), (.aload_n 0, 1, 0, 0, 0, 0), (.iload_n 3, 1, 0, 0, 0, 0), (.iconst 1, 1, 1, 0, 0, 0), (.iadd, 1, 0, 0, 0, 0), (.iaload, 1, 0, 0, 0, 0), (.aload_n 0, 1, 0, 0, 0, 0), (.iload_n 3, 1, 0, 0, 0, 0), (.iconst 2, 1, 2, 0, 0, 0), (.iadd, 1, 0, 0, 0, 0), (.iaload, 1, 0, 0, 0, 0), (.aload_n 0, 1, 0, 0, 0, 0), (.iload_n 3, 1, 0, 0, 0, 0), (.iconst 3, 1, 3, 0, 0, 0), (.iadd, 1, 0, 0, 0, 0), (.iaload, 1, 0, 0, 0, 0), (.invokevirtual 23, 3, 0, 63, 4, 364), (.aload_n 2, 1, 0, 0, 0, 0), (.aload_n 0, 1, 0, 0, 0, 0), (.iload_n 3, 1, 0, 0, 0, 0), (.iconst 1, 1, 1, 0, 0, 0), (.iadd, 1, 0, 0, 0, 0), (.iaload, 1, 0, 0, 0, 0), (.aload_n 0, 1, 0, 0, 0, 0), (.iload_n 3, 1, 0, 0, 0, 0), (.iconst 2, 1, 2, 0, 0, 0), (.iadd, 1, 0, 0, 0, 0), (.iaload, 1, 0, 0, 0, 0), (.aload_n 0, 1, 0, 0, 0, 0), (.iload_n 3, 1, 0, 0, 0, 0), (.iconst 3, 1, 3, 0, 0, 0), (.iadd, 1, 0, 0, 0, 0), (.iaload, 1, 0, 0, 0, 0), (.invokevirtual 27, 3, 0, 105, 4, 954), (.if_icmp .eq 918, 3, 0, 1210, 0, 0), (.iconst 0, 1, 0, 0, 0, 0), (.ireturn, 1, 0, 0, 0, 0)]),
  (297, [(.aload_n 1, 1, 0, 0, 0, 0), (.aload_n 0, 1, 0, 0, 0, 0), (.iload_n 3, 1, 0, 0, 0, 0), (.iconst 1, 1, 1, 0, 0, 0), (.iadd, 1, 0, 0, 0, 0), (.iaload, 1, 0, 0, 0, 0), (.aload_n 0, 1, 0, 0, 0, 0), (.iload_n 3, 1, 0, 0, 0, 0), (.iconst 2, 1, 2, 0, 0, 0), (.iadd, 1, 0, 0, 0, 0), (.iaload, 1, 0, 0, 0, 0), (.ifCond .eq 7, 3, 0, 315, 0, 0), (.iconst 1, 1, 1, 0, 0, 0), (.goto 4, 3, 0, 316, 0, 0)]),
  (315, [(.iconst 0, 1, 0, 0, 0, 0)]),
  (316, [(.invokevirtual 28, 3, 0, 64, 3, 368), (.aload_n 2, 1, 0, 0, 0, 0), (.aload_n 0, 1, 0, 0, 0, 0), (.iload_n 3, 1, 0, 0, 0, 0), (.iconst 1, 1, 1, 0, 0, 0), (.iadd, 1, 0, 0, 0, 0), (.iaload, 1, 0, 0, 0, 0), (.aload_n 0, 1, 0, 0, 0, 0), (.iload_n 3, 1, 0, 0, 0, 0), (.iconst 2, 1, 2, 0, 0, 0), (.iadd, 1, 0, 0, 0, 0), (.iaload, 1, 0, 0, 0, 0), (.ifCond .eq 7, 3, 0, 337, 0, 0), (.iconst 1, 1, 1, 0, 0, 0), (.goto 4, 3, 0, 338, 0, 0)]),
  (337, [(.iconst 0, 1, 0, 0, 0, 0)]),
  (338, [(.invokevirtual 32, 3, 0, 106, 3, 958), (.if_icmp .eq 869, 3, 0, 1210, 0, 0), (.iconst 0, 1, 0, 0, 0, 0), (.ireturn, 1, 0, 0, 0, 0)]),
  (346, [(.aload_n 1, 1, 0, 0, 0, 0), (.aload_n 0, 1, 0, 0, 0, 0), (.iload_n 3, 1, 0, 0, 0, 0), (.iconst 1, 1, 1, 0, 0, 0), (.iadd, 1, 0, 0, 0, 0), (.iaload, 1, 0, 0, 0, 0), (.invokevirtual 33, 3, 0, 65, 2, 380), (.aload_n 2, 1, 0, 0, 0, 0), (.aload_n 0, 1, 0, 0, 0, 0), (.iload_n 3, 1, 0, 0, 0, 0), (.iconst 1, 1, 1, 0, 0, 0), (.iadd, 1, 0, 0, 0, 0), (.iaload, 1, 0, 0, 0, 0), (.invokevirtual 37, 3, 0, 109, 2, 962), (.if_icmp .eq 846, 3, 0, 1210, 0, 0), (.iconst 0, 1, 0, 0, 0, 0), (.ireturn, 1, 0, 0, 0, 0)]),
  (369, [(.aload_n 1, 1, 0, 0, 0, 0), (.aload_n 0, 1, 0, 0, 0, 0), (.iload_n 3, 1, 0, 0, 0, 0), (.iconst 1, 1, 1, 0, 0, 0), (.iadd, 1, 0, 0, 0, 0), (.iaload, 1, 0, 0, 0, 0), (.aload_n 0, 1, 0, 0, 0, 0), (.iload_n 3, 1, 0, 0, 0, 0), (.iconst 2, 1, 2, 0, 0, 0), (.iadd, 1, 0, 0, 0, 0), (.iaload, 1, 0, 0, 0, 0), (.aload_n 0, 1, 0, 0, 0, 0), (.iload_n 3, 1, 0, 0, 0, 0), (.iconst 3, 1, 3, 0, 0, 0), (.iadd, 1, 0, 0, 0, 0), (.iaload, 1, 0, 0, 0, 0), (.invokevirtual 38, 3, 0, 66, 4, 392), (.aload_n 2, 1, 0, 0, 0, 0), (.aload_n 0, 1, 0, 0, 0, 0), (.iload_n 3, 1, 0, 0, 0, 0), (.iconst 1, 1, 1, 0, 0, 0), (.iadd, 1, 0, 0, 0, 0), (.iaload, 1, 0, 0, 0, 0), (.aload_n 0, 1, 0, 0, 0, 0), (.iload_n 3, 1, 0, 0, 0, 0), (.iconst 2, 1, 2, 0, 0, 0), (.iadd, 1, 0, 0, 0, 0), (.iaload, 1, 0, 0, 0, 0), (.aload_n 0, 1, 0, 0, 0, 0), (.iload_n 3, 1, 0, 0, 0, 0), (.iconst 3, 1, 3, 0, 0, 0), (.iadd, 1, 0, 0, 0, 0), (.iaload, 1, 0, 0, 0, 0), (.invokevirtual 41, 3, 0, 112, 4, 974), (.if_icmp .eq 803, 3, 0, 1210, 0, 0), (.iconst 0, 1, 0, 0, 0, 0), (.ireturn, 1, 0, 0, 0, 0)]),
  (412, [(.aload_n 1, 1, 0, 0, 0, 0), (.invokevirtual 42, 3, 0, 67, 1, 417), (.aload_n 2, 1, 0, 0, 0, 0), (.invokevirtual 46, 3, 0, 113, 1, 986), (.if_icmp .eq 790, 3, 0, 1210, 0, 0), (.iconst 0, 1, 0, 0, 0, 0), (.ireturn, 1, 0, 0, 0, 0)]),
  (425, [(.aload_n 1, 1, 0, 0, 0, 0), (.aload_n 0, 1, 0, 0, 0, 0), (.iload_n 3, 1, 0, 0, 0, 0), (.iconst 1, 1, 1, 0, 0, 0), (.iadd, 1, 0, 0, 0, 0), (.iaload, 1, 0, 0, 0, 0), (.aload_n 0, 1, 0, 0, 0, 0), (.iload_n 3, 1, 0, 0, 0, 0), (.iconst 2, 1, 2, 0, 0, 0), (.iadd, 1, 0, 0, 0, 0), (.iaload, 1, 0, 0, 0, 0), (.aload_n 0, 1, 0, 0, 0, 0), (.iload_n 3, 1, 0, 0, 0, 0), (.iconst 3, 1, 3, 0, 0, 0), (.iadd, 1, 0, 0, 0, 0), (.iaload, 1, 0, 0, 0, 0), (.invokevirtual 47, 3, 0, 68, 4, 425), (.aload_n 2, 1, 0, 0, 0, 0), (.aload_n 0, 1, 0, 0, 0, 0), (.iload_n 3, 1, 0, 0, 0, 0), (.iconst 1, 1, 1, 0, 0, 0), (.iadd, 1, 0, 0, 0, 0), (.iaload, 1, 0, 0, 0, 0), (.aload_n 0, 1, 0, 0, 0, 0), (.iload_n 3, 1, 0, 0, 0, 0), (.iconst 2, 1, 2, 0, 0, 0), (.iadd, 1, 0, 0, 0, 0), (.iaload, 1, 0, 0, 0, 0), (.aload_n 0, 1, 0, 0, 0, 0), (.iload_n 3, 1, 0, 0, 0, 0), (.iconst 3, 1, 3, 0, 0, 0), (.iadd, 1, 0, 0, 0, 0), (.iaload, 1, 0, 0, 0, 0), (.invokevirtual 50, 3, 0, 114, 4, 990), (.if_icmp .eq 747, 3, 0, 1210, 0, 0), (.iconst 0, 1, 0, 0, 0, 0), (.ireturn, 1, 0, 0, 0, 0)]),
  (468, [(.aload_n 1, 1, 0, 0, 0, 0), (.aload_n 0, 1, 0, 0, 0, 0), (.iload_n 3, 1, 0, 0, 0, 0), (.iconst 1, 1, 1, 0, 0, 0), (.iadd, 1, 0, 0, 0, 0), (.iaload, 1, 0, 0, 0, 0), (.aload_n 0, 1, 0, 0, 0, 0), (.iload_n 3, 1, 0, 0, 0, 0), (.iconst 2, 1, 2, 0, 0, 0), (.iadd, 1, 0, 0, 0, 0), (.iaload, 1, 0, 0, 0, 0), (.aload_n 0, 1, 0, 0, 0, 0), (.iload_n 3, 1, 0, 0, 0, 0), (.iconst 3, 1, 3, 0, 0, 0), (.iadd, 1, 0, 0, 0, 0), (.iaload, 1, 0, 0, 0, 0), (.invokevirtual 51, 3, 0, 69, 4, 433), (.aload_n 2, 1, 0, 0, 0, 0), (.aload_n 0, 1, 0, 0, 0, 0), (.iload_n 3, 1, 0, 0, 0, 0), (.iconst 1, 1, 1, 0, 0, 0), (.iadd, 1, 0, 0, 0, 0), (.iaload, 1, 0, 0, 0, 0), (.aload_n 0, 1, 0, 0, 0, 0), (.iload_n 3, 1, 0, 0, 0, 0), (.iconst 2, 1, 2, 0, 0, 0), (.iadd, 1, 0, 0, 0, 0), (.iaload, 1, 0, 0, 0, 0), (.aload_n 0, 1, 0, 0, 0, 0), (.iload_n 3, 1, 0, 0, 0, 0), (.iconst 3, 1, 3, 0, 0, 0), (.iadd, 1, 0, 0, 0, 0), (.iaload, 1, 0, 0, 0, 0), (.invokevirtual 54, 3, 0, 115, 4, 996), (.if_icmp .eq 704, 3, 0, 1210, 0, 0), (.iconst 0, 1, 0, 0, 0, 0), (.ireturn, 1, 0, 0, 0, 0)]),
  (511, [(.aload_n 1, 1, 0, 0, 0, 0), (.aload_n 0, 1, 0, 0, 0, 0), (.iload_n 3, 1, 0, 0, 0, 0), (.iconst 1, 1, 1, 0, 0, 0), (.iadd, 1, 0, 0, 0, 0), (.iaload, 1, 0, 0, 0, 0), (.aload_n 0, 1, 0, 0, 0, 0), (.iload_n 3, 1, 0, 0, 0, 0), (.iconst 2, 1, 2, 0, 0, 0), (.iadd, 1, 0, 0, 0, 0), (.iaload, 1, 0, 0, 0, 0), (.aload_n 0, 1, 0, 0, 0, 0), (.iload_n 3, 1, 0, 0, 0, 0), (.iconst 3, 1, 3, 0, 0, 0), (.iadd, 1, 0, 0, 0, 0), (.iaload, 1, 0, 0, 0, 0), (.aload_n 0, 1, 0, 0, 0, 0), (.iload_n 3, 1, 0, 0, 0, 0), (.iconst 4, 1, 4, 0, 0, 0), (.iadd, 1, 0, 0, 0, 0), (.iaload, 1, 0, 0, 0, 0), (.aload_n 0, 1, 0, 0, 0, 0), (.iload_n 3, 1, 0, 0, 0, 0), (.iconst 5, 1, 5, 0, 0, 0), (.iadd, 1, 0, 0, 0, 0), (.iaload, 1, 0, 0, 0, 0), (.invokevirtual 55, 3, 0, 70, 6, 450), (.aload_n 2, 1, 0, 0, 0, 0), (.aload_n 0, 1, 0, 0, 0, 0), (.iload_n 3, 1, 0, 0, 0, 0), (.iconst 1, 1, 1, 0, 0, 0), (.iadd, 1, 0, 0, 0, 0), (.iaload, 1, 0, 0, 0, 0), (.aload_n 0, 1, 0, 0, 0, 0), (.iload_n 3, 1, 0, 0, 0, 0), (.iconst 2, 1, 2, 0, 0, 0), (.iadd, 1, 0, 0, 0, 0), (.iaload, 1, 0, 0, 0, 0), (.aload_n 0, 1, 0, 0, 0, 0), (.iload_n 3, 1, 0, 0, 0, 0), (.iconst 3, 1, 3, 0, 0, 0), (.iadd, 1, 0, 0, 0, 0), (.iaload, 1, 0, 0, 0, 0), (.aload_n 0, 1, 0, 0, 0, 0), (.iload_n 3, 1, 0, 0, 0, 0), (.iconst 4, 1, 4, 0, 0, 0), (.iadd, 1, 0, 0, 0, 0), (.iaload, 1, 0, 0, 0, 0), (.aload_n 0, 1, 0, 0, 0, 0), (.iload_n 3, 1, 0, 0, 0, 0), (.iconst 5, 1, 5, 0, 0, 0), (.iadd, 1, 0, 0, 0, 0), (.iaload, 1, 0, 0, 0, 0), (.invokevirtual 59, 3, 0, 116, 6, 1000), (.if_icmp .eq 641, 3, 0, 1210, 0, 0), (.iconst 0, 1, 0, 0, 0, 0), (.ireturn, 1, 0, 0, 0, 0)]),
  (574, [(.aload_n 1, 1, 0, 0, 0, 0), (.aload_n 0, 1, 0, 0, 0, 0), (.iload_n 3, 1, 0, 0, 0, 0), (.iconst 1, 1, 1, 0, 0, 0), (.iadd, 1, 0, 0, 0, 0), (.iaload, 1, 0, 0, 0, 0), (.aload_n 0, 1, 0, 0, 0, 0), (.iload_n 3, 1, 0, 0, 0, 0), (.iconst 2, 1, 2, 0, 0, 0), (.iadd, 1, 0, 0, 0, 0), (.iaload, 1, 0, 0, 0, 0), (.aload_n 0, 1, 0, 0, 0, 0), (.iload_n 3, 1, 0, 0, 0, 0), (.iconst 3, 1, 3, 0, 0, 0), (.iadd, 1, 0, 0, 0, 0), (.iaload, 1, 0, 0, 0, 0), (.invokevirtual 60, 3, 0, 71, 4, 463), (.aload_n 2, 1, 0, 0, 0, 0), (.aload_n 0, 1, 0, 0, 0, 0), (.iload_n 3, 1, 0, 0, 0, 0), (.iconst 1, 1, 1, 0, 0, 0), (.iadd, 1, 0, 0, 0, 0), (.iaload, 1, 0, 0, 0, 0), (.aload_n 0, 1, 0, 0, 0, 0), (.iload_n 3, 1, 0, 0, 0, 0), (.iconst 2, 1, 2, 0, 0, 0), (.iadd, 1, 0, 0, 0, 0), (.iaload, 1, 0, 0, 0, 0), (.aload_n 0, 1, 0, 0, 0, 0), (.iload_n 3, 1, 0, 0, 0, 0), (.iconst 3, 1, 3, 0, 0, 0), (.iadd, 1, 0, 0, 0, 0), (.iaload, 1, 0, 0, 0, 0), (.invokevirtual 63, 3, 0, 117, 4, 1006), (.if_icmp .eq 598, 3, 0, 1210, 0, 0), (.iconst 0, 1, 0, 0, 0, 0), (.ireturn, 1, 0, 0, 0, 0)]),
  (617, [(.aload_n 1, 1, 0, 0, 0, 0), (.aload_n 0, 1, 0, 0, 0, 0), (.iload_n 3, 1, 0, 0, 0, 0), (.iconst 1, 1, 1, 0, 0, 0), (.iadd, 1, 0, 0, 0, 0), (.iaload, 1, 0, 0, 0, 0), (.invokevirtual 64, 3, 0, 72, 2, 483), (.aload_n 2, 1, 0, 0, 0, 0), (.aload_n 0, 1, 0, 0, 0, 0), (.iload_n 3, 1, 0, 0, 0, 0), (.iconst 1, 1, 1, 0, 0, 0), (.iadd, 1, 0, 0, 0, 0), (.iaload, 1, 0, 0, 0, 0), (.invokevirtual 67, 3, 0, 118, 2, 1010), (.if_icmp .eq 575, 3, 0, 1210, 0, 0), (.iconst 0, 1, 0, 0, 0, 0), (.ireturn, 1, 0, 0, 0, 0)]),
  (640, [(.aload_n 1, 1, 0, 0, 0, 0), (.aload_n 0, 1, 0, 0, 0, 0), (.iload_n 3, 1, 0, 0, 0, 0), (.iconst 1, 1, 1, 0, 0, 0), (.iadd, 1, 0, 0, 0, 0), (.iaload, 1, 0, 0, 0, 0), (.aload_n 0, 1, 0, 0, 0, 0), (.iload_n 3, 1, 0, 0, 0, 0), (.iconst 2, 1, 2, 0, 0, 0), (.iadd, 1, 0, 0, 0, 0), (.iaload, 1, 0, 0, 0, 0), (.invokevirtual 68, 3, 0, 73, 3, 487), (.aload_n 2, 1, 0, 0, 0, 0), (.aload_n 0, 1, 0, 0, 0, 0), (.iload_n 3, 1, 0, 0, 0, 0), (.iconst 1, 1, 1, 0, 0, 0), (.iadd, 1, 0, 0, 0, 0), (.iaload, 1, 0, 0, 0, 0), (.aload_n 0, 1, 0, 0, 0, 0), (.iload_n 3, 1, 0, 0, 0, 0), (.iconst 2, 1, 2, 0, 0, 0), (.iadd, 1, 0, 0, 0, 0), (.iaload, 1, 0, 0, 0, 0), (.invokevirtual 71, 3, 0, 119, 3, 1014), (.if_icmp .eq 542, 3, 0, 1210, 0, 0), (.iconst 0, 1, 0, 0, 0, 0), (.ireturn, 1, 0, 0, 0, 0)]),
  (673, [(.aload_n 1, 1, 0, 0, 0, 0), (.aload_n 0, 1, 0, 0, 0, 0), (.iload_n 3, 1, 0, 0, 0, 0), (.iconst 1, 1, 1, 0, 0, 0), (.iadd, 1, 0, 0, 0, 0), (.iaload, 1, 0, 0, 0, 0), (.aload_n 0, 1, 0, 0, 0, 0), (.iload_n 3, 1, 0, 0, 0, 0), (.iconst 2, 1, 2, 0, 0, 0), (.iadd, 1, 0, 0, 0, 0), (.iaload, 1, 0, 0, 0, 0), (.aload_n 0, 1, 0, 0, 0, 0), (.iload_n 3, 1, 0, 0, 0, 0), (.iconst 3, 1, 3, 0, 0, 0), (.iadd, 1, 0, 0, 0, 0), (.iaload, 1, 0, 0, 0, 0), (.invokevirtual 72, 3, 0, 74, 4, 492), (.aload_n 2, 1, 0, 0, 0, 0), (.aload_n 0, 1, 0, 0, 0, 0), (.iload_n 3, 1, 0, 0, 0, 0), (.iconst 1, 1, 1, 0, 0, 0), (.iadd, 1, 0, 0, 0, 0), (.iaload, 1, 0, 0, 0, 0), (.aload_n 0, 1, 0, 0, 0, 0), (.iload_n 3, 1, 0, 0, 0, 0), (.iconst 2, 1, 2, 0, 0, 0), (.iadd, 1, 0, 0, 0, 0), (.iaload, 1, 0, 0, 0, 0), (.aload_n 0, 1, 0, 0, 0, 0), (.iload_n 3, 1, 0, 0, 0, 0), (.iconst 3, 1, 3, 0, 0, 0), (.iadd, 1, 0, 0, 0, 0), (.iaload, 1, 0, 0, 0, 0), (.invokevirtual 75, 3, 0, 122, 4, 1019), (.if_icmp .eq 499, 3, 0, 1210, 0, 0), (.iconst 0, 1, 0, 0, 0, 0), (.ireturn, 1, 0, 0, 0, 0)]),
  (716, [(.aload_n 1, 1, 0, 0, 0, 0), (.aload_n 0, 1, 0, 0, 0, 0), (.iload_n 3, 1, 0, 0, 0, 0), (.iconst 1, 1, 1, 0, 0, 0), (.iadd, 1, 0, 0, 0, 0), (.iaload, 1, 0, 0, 0, 0), (.ifCond .eq 7, 3, 0, 729, 0, 0), (.iconst 1, 1, 1, 0, 0, 0), (.goto 4, 3, 0, 730, 0, 0)])]
def tp_P156_20 : List (Nat × List tp_Ins) := [(729, [(.iconst 0, 1, 0, 0, 0, 0)]),
  (730, [(.aload_n 0, 1, 0, 0, 0, 0), (.iload_n 3, 1, 0, 0, 0, 0), (.iconst 2, 1, 2, 0, 0, 0), (.iadd, 1, 0, 0, 0, 0), (.iaload, 1, 0, 0, 0, 0), (.aload_n 0, 1, 0, 0, 0, 0), (.iload_n 3, 1, 0, 0, 0, 0), (.iconst 3, 1, 3, 0, 0, 0), (.iadd, 1, 0, 0, 0, 0), (.iaload, 1, 0, 0, 0, 0), (.invokevirtual 76, 3, 0, 75, 4, 512), (.aload_n 2, 1, 0, 0, 0, 0), (.aload_n 0, 1, 0, 0, 0, 0), (.iload_n 3, 1, 0, 0, 0, 0), (.iconst 1, 1, 1, 0, 0, 0), (.iadd, 1, 0, 0, 0, 0), (.iaload, 1, 0, 0, 0, 0), (.ifCond .eq 7, 3, 0, 756, 0, 0), (.iconst 1, 1, 1, 0, 0, 0), (.goto 4, 3, 0, 757, 0, 0)]),
  (756, [(.iconst 0, 1, 0, 0, 0, 0)]),
  (757, [(.aload_n 0, 1, 0, 0, 0, 0), (.iload_n 3, 1, 0, 0, 0, 0), (.iconst 2, 1, 2, 0, 0, 0), (.iadd, 1, 0, 0, 0, 0), (.iaload, 1, 0, 0, 0, 0), (.aload_n 0, 1, 0, 0, 0, 0), (.iload_n 3, 1, 0, 0, 0, 0), (.iconst 3, 1, 3, 0, 0, 0), (.iadd, 1, 0, 0, 0, 0), (.iaload, 1, 0, 0, 0, 0), (.invokevirtual 80, 3, 0, 123, 4, 1032), (.if_icmp .eq 440, 3, 0, 1210, 0, 0), (.iconst 0, 1, 0, 0, 0, 0), (.ireturn, 1, 0, 0, 0, 0)]),
  (775, [(.aload_n 1, 1, 0, 0, 0, 0), (.aload_n 0, 1, 0, 0, 0, 0), (.iload_n 3, 1, 0, 0, 0, 0), (.iconst 1, 1, 1, 0, 0, 0), (.iadd, 1, 0, 0, 0, 0), (.iaload, 1, 0, 0, 0, 0), (.aload_n 0, 1, 0, 0, 0, 0), (.iload_n 3, 1, 0, 0, 0, 0), (.iconst 2, 1, 2, 0, 0, 0), (.iadd, 1, 0, 0, 0, 0), (.iaload, 1, 0, 0, 0, 0), (.aload_n 0, 1, 0, 0, 0, 0), (.iload_n 3, 1, 0, 0, 0, 0), (.iconst 3, 1, 3, 0, 0, 0), (.iadd, 1, 0, 0, 0, 0), (.iaload, 1, 0, 0, 0, 0), (.aload_n 0, 1, 0, 0, 0, 0), (.iload_n 3, 1, 0, 0, 0, 0), (.iconst 4, 1, 4, 0, 0, 0), (.iadd, 1, 0, 0, 0, 0), (.iaload, 1, 0, 0, 0, 0), (.invokevirtual 81, 3, 0, 76, 5, 516), (.aload_n 2, 1, 0, 0, 0, 0), (.aload_n 0, 1, 0, 0, 0, 0), (.iload_n 3, 1, 0, 0, 0, 0), (.iconst 1, 1, 1, 0, 0, 0), (.iadd, 1, 0, 0, 0, 0), (.iaload, 1, 0, 0, 0, 0), (.aload_n 0, 1, 0, 0, 0, 0), (.iload_n 3, 1, 0, 0, 0, 0), (.iconst 2, 1, 2, 0, 0, 0), (.iadd, 1, 0, 0, 0, 0), (.iaload, 1, 0, 0, 0, 0), (.aload_n 0, 1, 0, 0, 0, 0), (.iload_n 3, 1, 0, 0, 0, 0), (.iconst 3, 1, 3, 0, 0, 0), (.iadd, 1, 0, 0, 0, 0), (.iaload, 1, 0, 0, 0, 0), (.aload_n 0, 1, 0, 0, 0, 0), (.iload_n 3, 1, 0, 0, 0, 0), (.iconst 4, 1, 4, 0, 0, 0), (.iadd, 1, 0, 0, 0, 0), (.iaload, 1, 0, 0, 0, 0), (.invokevirtual 84, 3, 0, 124, 5, 1036), (.if_icmp .eq 387, 3, 0, 1210, 0, 0), (.iconst 0, 1, 0, 0, 0, 0), (.ireturn, 1, 0, 0, 0, 0)]),
  (828, [(.aload_n 1, 1, 0, 0, 0, 0), (.aload_n 0, 1, 0, 0, 0, 0), (.iload_n 3, 1, 0, 0, 0, 0), (.iconst 1, 1, 1, 0, 0, 0), (.iadd, 1, 0, 0, 0, 0), (.iaload, 1, 0, 0, 0, 0), (.aload_n 0, 1, 0, 0, 0, 0), (.iload_n 3, 1, 0, 0, 0, 0), (.iconst 2, 1, 2, 0, 0, 0), (.iadd, 1, 0, 0, 0, 0), (.iaload, 1, 0, 0, 0, 0), (.aload_n 0, 1, 0, 0, 0, 0), (.iload_n 3, 1, 0, 0, 0, 0), (.iconst 3, 1, 3, 0, 0, 0), (.iadd, 1, 0, 0, 0, 0), (.iaload, 1, 0, 0, 0, 0), (.invokevirtual 85, 3, 0, 77, 4, 524), (.aload_n 2, 1, 0, 0, 0, 0), (.aload_n 0, 1, 0, 0, 0, 0), (.iload_n 3, 1, 0, 0, 0, 0), (.iconst 1, 1, 1, 0, 0, 0), (.iadd, 1, 0, 0, 0, 0), (.iaload, 1, 0, 0, 0, 0), (.aload_n 0, 1, 0, 0, 0, 0), (.iload_n 3, 1, 0, 0, 0, 0), (.iconst 2, 1, 2, 0, 0, 0), (.iadd, 1, 0, 0, 0, 0), (.iaload, 1, 0, 0, 0, 0), (.aload_n 0, 1, 0, 0, 0, 0), (.iload_n 3, 1, 0, 0, 0, 0), (.iconst 3, 1, 3, 0, 0, 0), (.iadd, 1, 0, 0, 0, 0), (.iaload, 1, 0, 0, 0, 0), (.invokevirtual 88, 3, 0, 125, 4, 1040), (.if_icmp .eq 344, 3, 0, 1210, 0, 0), (.iconst 0, 1, 0, 0, 0, 0), (.ireturn, 1, 0, 0, 0, 0)]),
  (871, [(.aload_n 1, 1, 0, 0, 0, 0), (.aload_n 0, 1, 0, 0, 0, 0), (.iload_n 3, 1, 0, 0, 0, 0), (.iconst 1, 1, 1, 0, 0, 0), (.iadd, 1, 0, 0, 0, 0), (.iaload, 1, 0, 0, 0, 0), (.invokevirtual 89, 3, 0, 78, 2, 528), (.aload_n 2, 1, 0, 0, 0, 0), (.aload_n 0, 1, 0, 0, 0, 0), (.iload_n 3, 1, 0, 0, 0, 0), (.iconst 1, 1, 1, 0, 0, 0), (.iadd, 1, 0, 0, 0, 0), (.iaload, 1, 0, 0, 0, 0), (.invokevirtual 92, 3, 0, 126, 2, 1044), (.if_icmp .eq 321, 3, 0, 1210, 0, 0), (.iconst 0, 1, 0, 0, 0, 0), (.ireturn, 1, 0, 0, 0, 0)]),
  (894, [(.aload_n 1, 1, 0, 0, 0, 0), (.aload_n 0, 1, 0, 0, 0, 0), (.iload_n 3, 1, 0, 0, 0, 0), (.iconst 1, 1, 1, 0, 0, 0), (.iadd, 1, 0, 0, 0, 0), (.iaload, 1, 0, 0, 0, 0), (.i2l, 1, 0, 0, 0, 0), (.bipush 32, 2, 32, 0, 0, 0), (.lshl, 1, 0, 0, 0, 0), (.aload_n 0, 1, 0, 0, 0, 0), (.iload_n 3, 1, 0, 0, 0, 0), (.iconst 2, 1, 2, 0, 0, 0), (.iadd, 1, 0, 0, 0, 0), (.iaload, 1, 0, 0, 0, 0), (.i2l, 1, 0, 0, 0, 0), (.ldc2_w 93, 3, 0, 4294967295, 0, 1143), (.land, 1, 0, 0, 0, 0), (.lor, 1, 0, 0, 0, 0), (.invokevirtual 95, 3, 0, 79, 2, 549), (.aload_n 2, 1, 0, 0, 0, 0), (.aload_n 0, 1, 0, 0, 0, 0), (.iload_n 3, 1, 0, 0, 0, 0), (.iconst 1, 1, 1, 0, 0, 0), (.iadd, 1, 0, 0, 0, 0), (.iaload, 1, 0, 0, 0, 0), (.i2l, 1, 0, 0, 0, 0), (.bipush 32, 2, 32, 0, 0, 0), (.lshl, 1, 0, 0, 0, 0), (.aload_n 0, 1, 0, 0, 0, 0), (.iload_n 3, 1, 0, 0, 0, 0), (.iconst 2, 1, 2, 0, 0, 0), (.iadd, 1, 0, 0, 0, 0), (.iaload, 1, 0, 0, 0, 0), (.i2l, 1, 0, 0, 0, 0), (.ldc2_w 93, 3, 0, 4294967295, 0, 1143), (.land, 1, 0, 0, 0, 0), (.lor, 1, 0, 0, 0, 0), (.invokevirtual 99, 3, 0, 127, 2, 1048), (.if_icmp .eq 268, 3, 0, 1210, 0, 0), (.iconst 0, 1, 0, 0, 0, 0), (.ireturn, 1, 0, 0, 0, 0)]),
  (947, [(.aload_n 1, 1, 0, 0, 0, 0), (.aload_n 0, 1, 0, 0, 0, 0), (.iload_n 3, 1, 0, 0, 0, 0), (.iconst 1, 1, 1, 0, 0, 0), (.iadd, 1, 0, 0, 0, 0), (.iaload, 1, 0, 0, 0, 0), (.invokevirtual 100, 3, 0, 80, 2, 557), (.aload_n 2, 1, 0, 0, 0, 0), (.aload_n 0, 1, 0, 0, 0, 0), (.iload_n 3, 1, 0, 0, 0, 0), (.iconst 1, 1, 1, 0, 0, 0), (.iadd, 1, 0, 0, 0, 0), (.iaload, 1, 0, 0, 0, 0), (.invokevirtual 103, 3, 0, 128, 2, 1052), (.if_icmp .eq 245, 3, 0, 1210, 0, 0), (.iconst 0, 1, 0, 0, 0, 0), (.ireturn, 1, 0, 0, 0, 0)]),
  (970, [(.aload_n 1, 1, 0, 0, 0, 0), (.invokevirtual 104, 3, 0, 81, 1, 561), (.aload_n 2, 1, 0, 0, 0, 0), (.invokevirtual 107, 3, 0, 136, 1, 1056), (.if_icmp .eq 232, 3, 0, 1210, 0, 0), (.iconst 0, 1, 0, 0, 0, 0), (.ireturn, 1, 0, 0, 0, 0)]),
  (983, [(.aload_n 1, 1, 0, 0, 0, 0), (.invokevirtual 108, 3, 0, 82, 1, 696), (.aload_n 2, 1, 0, 0, 0, 0), (.invokevirtual 111, 3, 0, 137, 1, 1092), (.if_icmp .eq 219, 3, 0, 1210, 0, 0), (.iconst 0, 1, 0, 0, 0, 0), (.ireturn, 1, 0, 0, 0, 0)]),
  (996, [(.aload_n 1, 1, 0, 0, 0, 0), (.aload_n 0, 1, 0, 0, 0, 0), (.iload_n 3, 1, 0, 0, 0, 0), (.iconst 1, 1, 1, 0, 0, 0), (.iadd, 1, 0, 0, 0, 0), (.iaload, 1, 0, 0, 0, 0), (.aload_n 0, 1, 0, 0, 0, 0), (.iload_n 3, 1, 0, 0, 0, 0), (.iconst 2, 1, 2, 0, 0, 0), (.iadd, 1, 0, 0, 0, 0), (.iaload, 1, 0, 0, 0, 0), (.invokevirtual 112, 3, 0, 83, 3, 700), (.aload_n 2, 1, 0, 0, 0, 0), (.aload_n 0, 1, 0, 0, 0, 0), (.iload_n 3, 1, 0, 0, 0, 0), (.iconst 1, 1, 1, 0, 0, 0), (.iadd, 1, 0, 0, 0, 0), (.iaload, 1, 0, 0, 0, 0), (.aload_n 0, 1, 0, 0, 0, 0), (.iload_n 3, 1, 0, 0, 0, 0), (.iconst 2, 1, 2, 0, 0, 0), (.iadd, 1, 0, 0, 0, 0), (.iaload, 1, 0, 0, 0, 0), (.invokevirtual 115, 3, 0, 138, 3, 1096), (.if_icmp .eq 186, 3, 0, 1210, 0, 0), (.iconst 0, 1, 0, 0, 0, 0), (.ireturn, 1, 0, 0, 0, 0)]),
  (1029, [(.aload_n 1, 1, 0, 0, 0, 0), (.aload_n 0, 1, 0, 0, 0, 0), (.iload_n 3, 1, 0, 0, 0, 0), (.iconst 1, 1, 1, 0, 0, 0), (.iadd, 1, 0, 0, 0, 0), (.iaload, 1, 0, 0, 0, 0), (.aload_n 0, 1, 0, 0, 0, 0), (.iload_n 3, 1, 0, 0, 0, 0), (.iconst 2, 1, 2, 0, 0, 0), (.iadd, 1, 0, 0, 0, 0), (.iaload, 1, 0, 0, 0, 0), (.invokevirtual 116, 3, 0, 84, 3, 712), (.aload_n 2, 1, 0, 0, 0, 0), (.aload_n 0, 1, 0, 0, 0, 0), (.iload_n 3, 1, 0, 0, 0, 0), (.iconst 1, 1, 1, 0, 0, 0), (.iadd, 1, 0, 0, 0, 0), (.iaload, 1, 0, 0, 0, 0), (.aload_n 0, 1, 0, 0, 0, 0), (.iload_n 3, 1, 0, 0, 0, 0), (.iconst 2, 1, 2, 0, 0, 0), (.iadd, 1, 0, 0, 0, 0), (.iaload, 1, 0, 0, 0, 0), (.invokevirtual 119, 3, 0, 139, 3, 1101), (.if_icmp .eq 153, 3, 0, 1210, 0, 0), (.iconst 0, 1, 0, 0, 0, 0), (.ireturn, 1, 0, 0, 0, 0)]),
  (1062, [(.aload_n 1, 1, 0, 0, 0, 0), (.aload_n 0, 1, 0, 0, 0, 0), (.iload_n 3, 1, 0, 0, 0, 0), (.iconst 1, 1, 1, 0, 0, 0), (.iadd, 1, 0, 0, 0, 0), (.iaload, 1, 0, 0, 0, 0), (.aload_n 0, 1, 0, 0, 0, 0), (.iload_n 3, 1, 0, 0, 0, 0), (.iconst 2, 1, 2, 0, 0, 0), (.iadd, 1, 0, 0, 0, 0), (.iaload, 1, 0, 0, 0, 0), (.invokevirtual 120, 3, 0, 85, 3, 720), (.aload_n 2, 1, 0, 0, 0, 0), (.aload_n 0, 1, 0, 0, 0, 0), (.iload_n 3, 1, 0, 0, 0, 0), (.iconst 1, 1, 1, 0, 0, 0), (.iadd, 1, 0, 0, 0, 0), (.iaload, 1, 0, 0, 0, 0), (.aload_n 0, 1, 0, 0, 0, 0), (.iload_n 3, 1, 0, 0, 0, 0), (.iconst 2, 1, 2, 0, 0, 0), (.iadd, 1, 0, 0, 0, 0), (.iaload, 1, 0, 0, 0, 0), (.invokevirtual 123, 3, 0, 140, 3, 1105), (.if_icmp .eq 120, 3, 0, 1210, 0, 0), (.iconst 0, 1, 0, 0, 0, 0), (.ireturn, 1, 0, 0, 0, 0)]),
  (1095, [(.aload_n 1, 1, 0, 0, 0, 0), (.aload_n 0, 1, 0, 0, 0, 0), (.iload_n 3, 1, 0, 0, 0, 0), (.iconst 1, 1, 1, 0, 0, 0), (.iadd, 1, 0, 0, 0, 0), (.iaload, 1, 0, 0, 0, 0), (.invokevirtual 124, 3, 0, 86, 2, 741), (.aload_n 2, 1, 0, 0, 0, 0), (.aload_n 0, 1, 0, 0, 0, 0), (.iload_n 3, 1, 0, 0, 0, 0), (.iconst 1, 1, 1, 0, 0, 0), (.iadd, 1, 0, 0, 0, 0), (.iaload, 1, 0, 0, 0, 0), (.invokevirtual 127, 3, 0, 141, 2, 1110), (.if_icmp .eq 97, 3, 0, 1210, 0, 0), (.iconst 0, 1, 0, 0, 0, 0), (.ireturn, 1, 0, 0, 0, 0)]),
  (1118, [(.aload_n 1, 1, 0, 0, 0, 0), (.aload_n 0, 1, 0, 0, 0, 0), (.iload_n 3, 1, 0, 0, 0, 0), (.iconst 1, 1, 1, 0, 0, 0), (.iadd, 1, 0, 0, 0, 0), (.iaload, 1, 0, 0, 0, 0), (.invokevirtual 128, 3, 0, 87, 2, 749), (.aload_n 2, 1, 0, 0, 0, 0), (.aload_n 0, 1, 0, 0, 0, 0), (.iload_n 3, 1, 0, 0, 0, 0), (.iconst 1, 1, 1, 0, 0, 0), (.iadd, 1, 0, 0, 0, 0), (.iaload, 1, 0, 0, 0, 0), (.invokevirtual 131, 3, 0, 144, 2, 1115), (.if_icmp .eq 74, 3, 0, 1210, 0, 0), (.iconst 0, 1, 0, 0, 0, 0), (.ireturn, 1, 0, 0, 0, 0)]),
  (1141, [(.aload_n 1, 1, 0, 0, 0, 0), (.aload_n 0, 1, 0, 0, 0, 0), (.iload_n 3, 1, 0, 0, 0, 0), (.iconst 1, 1, 1, 0, 0, 0), (.iadd, 1, 0, 0, 0, 0), (.iaload, 1, 0, 0, 0, 0), (.invokevirtual 132, 3, 0, 88, 2, 753), (.aload_n 2, 1, 0, 0, 0, 0), (.aload_n 0, 1, 0, 0, 0, 0), (.iload_n 3, 1, 0, 0, 0, 0), (.iconst 1, 1, 1, 0, 0, 0), (.iadd, 1, 0, 0, 0, 0), (.iaload, 1, 0, 0, 0, 0), (.invokevirtual 135, 3, 0, 146, 2, 1127), (.if_icmp .eq 51, 3, 0, 1210, 0, 0), (.iconst 0, 1, 0, 0, 0, 0), (.ireturn, 1, 0, 0, 0, 0)]),
  (1164, [(.aload_n 1, 1, 0, 0, 0, 0), (.aload_n 0, 1, 0, 0, 0, 0), (.iload_n 3, 1, 0, 0, 0, 0), (.iconst 1, 1, 1, 0, 0, 0), (.iadd, 1, 0, 0, 0, 0), (.iaload, 1, 0, 0, 0, 0), (.invokevirtual 136, 3, 0, 89, 2, 766), (.aload_n 2, 1, 0, 0, 0, 0), (.aload_n 0, 1, 0, 0, 0, 0), (.iload_n 3, 1, 0, 0, 0, 0), (.iconst 1, 1, 1, 0, 0, 0), (.iadd, 1, 0, 0, 0, 0), (.iaload, 1, 0, 0, 0, 0), (.invokevirtual 139, 3, 0, 147, 2, 1135), (.if_icmp .eq 28, 3, 0, 1210, 0, 0), (.iconst 0, 1, 0, 0, 0, 0), (.ireturn, 1, 0, 0, 0, 0)]),
  (1187, [(.aload_n 1, 1, 0, 0, 0, 0), (.aload_n 0, 1, 0, 0, 0, 0), (.iload_n 3, 1, 0, 0, 0, 0), (.iconst 1, 1, 1, 0, 0, 0), (.iadd, 1, 0, 0, 0, 0), (.iaload, 1, 0, 0, 0, 0), (.invokevirtual 140, 3, 0, 90, 2, 786), (.aload_n 2, 1, 0, 0, 0, 0), (.aload_n 0, 1, 0, 0, 0, 0), (.iload_n 3, 1, 0, 0, 0, 0), (.iconst 1, 1, 1, 0, 0, 0), (.iadd, 1, 0, 0, 0, 0), (.iaload, 1, 0, 0, 0, 0), (.invokevirtual 143, 3, 0, 148, 2, 1139), (.if_icmp .eq 5, 3, 0, 1210, 0, 0), (.iconst 0, 1, 0, 0, 0, 0), (.ireturn, 1, 0, 0, 0, 0)]),
  (1210, [(.iinc 3 6, 3, 6, 0, 0, 0), (.goto (-1195), 3, 0, 18, 0, 0)])]
def tp_P156_40 : List (Nat × List tp_Ins) := [(1216, [(.iconst 1, 1, 1, 0, 0, 0), (.ireturn, 1, 0, 0, 0, 0)])]
/-- L_law -/
def tp_P156 : List (Nat × List tp_Ins) := tp_P156_0 ++ tp_P156_20 ++ tp_P156_40
def tp_PP0 : List (List (Nat × List tp_Ins)) := [tp_P0, tp_P1, tp_P2, tp_P3, tp_P4, tp_P5, tp_P6, tp_P7, tp_P8, tp_P9, tp_P10, tp_P11, tp_P12, tp_P13, tp_P14, tp_P15, tp_P16, tp_P17, tp_P18, tp_P19, tp_P20, tp_P21, tp_P22, tp_P23, tp_P24, tp_P25, tp_P26, tp_P27, tp_P28, tp_P29, tp_P30, tp_P31, tp_P32, tp_P33, tp_P34, tp_P35, tp_P36, tp_P37, tp_P38, tp_P39]
def tp_PP1 : List (List (Nat × List tp_Ins)) := [tp_P40, tp_P41, tp_P42, tp_P43, tp_P44, tp_P45, tp_P46, tp_P47, tp_P48, tp_P49, tp_P50, tp_P51, tp_P52, tp_P53, tp_P54, tp_P55, tp_P56, tp_P57, tp_P58, tp_P59, tp_P60, tp_P61, tp_P62, tp_P63, tp_P64, tp_P65, tp_P66, tp_P67, tp_P68, tp_P69, tp_P70, tp_P71, tp_P72, tp_P73, tp_P74, tp_P75, tp_P76, tp_P77, tp_P78, tp_P79]
def tp_PP2 : List (List (Nat × List tp_Ins)) := [tp_P80, tp_P81, tp_P82, tp_P83, tp_P84, tp_P85, tp_P86, tp_P87, tp_P88, tp_P89, tp_P90, tp_P91, tp_P92, tp_P93, tp_P94, tp_P95, tp_P96, tp_P97, tp_P98, tp_P99, tp_P100, tp_P101, tp_P102, tp_P103, tp_P104, tp_P105, tp_P106, tp_P107, tp_P108, tp_P109, tp_P110, tp_P111, tp_P112, tp_P113, tp_P114, tp_P115, tp_P116, tp_P117, tp_P118, tp_P119]
def tp_PP3 : List (List (Nat × List tp_Ins)) := [tp_P120, tp_P121, tp_P122, tp_P123, tp_P124, tp_P125, tp_P126, tp_P127, tp_P128, tp_P129, tp_P130, tp_P131, tp_P132, tp_P133, tp_P134, tp_P135, tp_P136, tp_P137, tp_P138, tp_P139, tp_P140, tp_P141, tp_P142, tp_P143, tp_P144, tp_P145, tp_P146, tp_P147, tp_P148, tp_P149, tp_P150, tp_P151, tp_P152, tp_P153, tp_P154, tp_P155, tp_P156]
def tp_PP : List (List (Nat × List tp_Ins)) := tp_PP0 ++ tp_PP1 ++ tp_PP2 ++ tp_PP3
def tp_prg (i : Nat) : List (Nat × List tp_Ins) := tp_PP.getD i []
def tp_blk (i pc : Nat) : List tp_Ins := ((tp_prg i).lookup pc).getD []
def tp_nest : Cond := .methodLinkNest RX0 93 yX9_isOutside "TramPence"
def tp_sk : List (String × Nat × String) := [("TramPence$Tape", 39, "fare"), ("TramPence$Tape", 50, "work"), ("TramPence$Tape", 52, "change")]
def tp_st : List (String × Nat) := [("HAS", 91), ("LEAST_OF", 92), ("MOST_OF", 93)]
def tp_pmax : Nat × Nat × Nat := (351, 56, 352)
def tp_pmin : Nat × Nat × Nat := (354, 56, 355)
/-- the places of a method's words: its code, instance or static, selects, its class is initialised -/
def tp_mpl : List (Nat × Nat × Nat × Nat) := [(568, 566, 567, 51), (691, 690, 19, 51), (655, 654, 15, 51), (659, 658, 16, 51), (678, 677, 18, 51), (669, 668, 17, 51), (572, 570, 571, 53), (695, 693, 694, 53), (663, 661, 662, 53), (673, 671, 672, 53), (687, 685, 686, 53), (707, 705, 706, 53), (711, 710, 20, 53), (719, 717, 718, 53), (359, 357, 358, 47), (363, 361, 362, 47), (411, 409, 410, 47), (349, 347, 348, 47), (548, 546, 547, 47), (727, 725, 726, 54), (748, 746, 747, 54), (731, 730, 21, 54), (735, 734, 22, 54), (739, 738, 23, 54), (764, 762, 763, 54), (760, 758, 759, 54), (773, 771, 772, 54), (777, 776, 24, 54), (781, 780, 25, 54), (785, 784, 26, 54), (407, 405, 406, 49), (415, 413, 414, 49), (403, 401, 402, 49), (523, 521, 522, 49), (345, 343, 344, 49), (544, 542, 543, 49), (535, 533, 534, 49), (470, 468, 469, 49), (478, 476, 477, 49), (482, 480, 481, 49), (474, 473, 5, 49), (440, 438, 439, 50), (444, 442, 443, 50), (432, 430, 431, 50), (448, 446, 447, 50), (556, 554, 555, 52), (576, 574, 575, 52), (580, 578, 579, 52), (588, 587, 11, 52), (651, 650, 14, 52), (584, 583, 10, 52), (647, 646, 13, 52), (593, 592, 12, 52), (387, 385, 386, 48), (379, 377, 378, 48), (375, 373, 374, 48), (793, 791, 792, 48), (399, 397, 398, 48), (507, 505, 506, 48), (340, 338, 339, 46), (328, 326, 327, 46), (321, 319, 320, 45), (332, 330, 331, 45), (367, 365, 366, 45), (371, 369, 370, 45), (383, 381, 382, 45), (395, 393, 394, 45), (420, 418, 419, 45), (428, 426, 427, 45), (436, 434, 435, 45), (453, 451, 452, 45), (466, 464, 465, 45), (486, 484, 485, 45), (490, 488, 489, 45), (495, 493, 494, 45), (515, 513, 514, 45), (519, 517, 518, 45), (527, 525, 526, 45), (531, 529, 530, 45), (552, 550, 551, 45), (560, 558, 559, 45), (564, 562, 563, 45), (699, 697, 698, 45), (703, 701, 702, 45), (715, 713, 714, 45), (723, 721, 722, 45), (744, 742, 743, 45), (752, 750, 751, 45), (756, 754, 755, 45), (769, 767, 768, 45), (789, 787, 788, 45), (324, 323, 0, 45), (336, 335, 0, 45), (391, 390, 1, 45), (499, 498, 6, 45), (503, 502, 7, 45), (511, 510, 8, 45), (457, 456, 3, 45), (462, 461, 4, 45), (424, 423, 2, 45), (540, 539, 9, 45), (941, 940, 0, 55), (937, 935, 936, 55), (950, 949, 27, 55), (946, 944, 945, 55), (957, 955, 956, 55), (961, 959, 960, 55), (969, 968, 28, 55), (973, 972, 29, 55), (965, 963, 964, 55), (981, 980, 30, 55), (985, 984, 31, 55), (977, 975, 976, 55), (989, 987, 988, 55), (993, 991, 992, 55), (999, 997, 998, 55), (1003, 1001, 1002, 55), (1009, 1007, 1008, 55), (1013, 1011, 1012, 55), (1017, 1015, 1016, 55), (1031, 1030, 33, 55), (1027, 1026, 32, 55), (1022, 1020, 1021, 55), (1035, 1033, 1034, 55), (1039, 1037, 1038, 55), (1043, 1041, 1042, 55), (1047, 1045, 1046, 55), (1051, 1049, 1050, 55), (1055, 1053, 1054, 55), (1067, 1066, 35, 55), (1077, 1076, 37, 55), (1073, 1072, 36, 55), (1063, 1062, 34, 55), (1091, 1090, 40, 55), (1087, 1086, 39, 55), (1083, 1082, 38, 55), (1059, 1057, 1058, 55), (1095, 1093, 1094, 55), (1099, 1097, 1098, 55), (1104, 1102, 1103, 55), (1108, 1106, 1107, 55), (1113, 1111, 1112, 55), (1122, 1121, 41, 55), (1126, 1125, 42, 55), (1118, 1116, 1117, 55), (1134, 1133, 43, 55), (1130, 1128, 1129, 55), (1138, 1136, 1137, 55), (1142, 1140, 1141, 55), (597, 595, 596, 57), (607, 605, 606, 57), (601, 599, 600, 57), (611, 609, 610, 57), (617, 616, 0, 57), (614, 613, 0, 58), (622, 621, 0, 59)]
def tp_bytes : List (List Int32) := [[102, 97, 114, 101], [119, 111, 114, 107], [99, 104, 97, 110, 103, 101]]
/-- what is given of statics and String constants, none of which is written -/
def tp_ro (ad : Nat → Nat) (A : Nat → Prop) (U : State) (H : Heap) (σ : tp_St) : Prop :=
  va_Z RX0 "HAS" "[I" (.ref (ad 91)) A U H ∧
  va_Z RX0 "LEAST_OF" "[I" (.ref (ad 92)) A U H ∧
  va_Z RX0 "MOST_OF" "[I" (.ref (ad 93)) A U H ∧
  (∀ o, tp_kd o = 27 → va_T .int (ad o) (tp_ln o) (fun j => .int (σ.1 o j)) A U H) ∧
  va_Z "java/lang/String" "COMPACT_STRINGS" "Z" (.int 1) A U H ∧
  (va_Z "jdk/internal/util/Preconditions" "SIOOBE_FORMATTER" "Ljava/util/function/BiFunction;" .null A U H ∨ va_Z "jdk/internal/util/Preconditions" "SIOOBE_FORMATTER" "Ljava/util/function/BiFunction;" (.ref (ad 100)) A U H) ∧
  vk_S 3 [4, 4, 6] tp_bytes (fun i => ad (94 + i)) (fun i => ad (97 + i)) A U H ∧
  vk_R "TramPence$Tape" 39 "fare" (ad 94) U ∧
  vk_R "TramPence$Tape" 50 "work" (ad 95) U ∧
  vk_R "TramPence$Tape" 52 "change" (ad 96) U ∧
  va_Nw tp_nest U
