section
-- ===== PART A: goes FIRST, ahead of the names: the tables' words, and 'selects' of the private methods out of them =====
/-- a private method of a class that the tables say can be made, by its rows of tables_1 -/
def lw_okq (q : MethodName × Nat) : Prop := (q.1.cls ≠ "java/lang/invoke/MethodHandle" ∧ q.1.cls ≠ "java/lang/invoke/VarHandle") ∧ Cond.instantiable q.1.cls q.2 ∈ tables_1 ∧ Cond.privateMethod q.1 ∈ tables_1 ∧ Cond.instanceMethod q.1 ∈ tables_1
theorem lw_p0 : lw_okq (⟨"TramPence", "hasPack", "(II)Z"⟩, 7) := ⟨⟨by decide +kernel, by decide +kernel⟩, List.mem_of_getElem? (i := 13) (by decide +kernel), List.mem_of_getElem? (i := 258) (by decide +kernel), List.mem_of_getElem? (i := 259) (by decide +kernel)⟩
theorem lw_p1 : lw_okq (⟨"TramPence", "takings", "(I)I"⟩, 7) := ⟨⟨by decide +kernel, by decide +kernel⟩, List.mem_of_getElem? (i := 13) (by decide +kernel), List.mem_of_getElem? (i := 313) (by decide +kernel), List.mem_of_getElem? (i := 314) (by decide +kernel)⟩
theorem lw_p2 : lw_okq (⟨"TramPence", "takeBackLatest", "()V"⟩, 7) := ⟨⟨by decide +kernel, by decide +kernel⟩, List.mem_of_getElem? (i := 13) (by decide +kernel), List.mem_of_getElem? (i := 321) (by decide +kernel), List.mem_of_getElem? (i := 322) (by decide +kernel)⟩
theorem lw_p3 : lw_okq (⟨"TramPence", "howManyAboard", "(III)I"⟩, 7) := ⟨⟨by decide +kernel, by decide +kernel⟩, List.mem_of_getElem? (i := 13) (by decide +kernel), List.mem_of_getElem? (i := 333) (by decide +kernel), List.mem_of_getElem? (i := 334) (by decide +kernel)⟩
theorem lw_p4 : lw_okq (⟨"TramPence", "isAboard", "(III)Z"⟩, 7) := ⟨⟨by decide +kernel, by decide +kernel⟩, List.mem_of_getElem? (i := 13) (by decide +kernel), List.mem_of_getElem? (i := 337) (by decide +kernel), List.mem_of_getElem? (i := 338) (by decide +kernel)⟩
theorem lw_p5 : lw_okq (⟨"TramPence", "isGoodAt", "(II)Z"⟩, 7) := ⟨⟨by decide +kernel, by decide +kernel⟩, List.mem_of_getElem? (i := 13) (by decide +kernel), List.mem_of_getElem? (i := 345) (by decide +kernel), List.mem_of_getElem? (i := 346) (by decide +kernel)⟩
theorem lw_p6 : lw_okq (⟨"TramPence", "beyondHeld", "(II)I"⟩, 7) := ⟨⟨by decide +kernel, by decide +kernel⟩, List.mem_of_getElem? (i := 13) (by decide +kernel), List.mem_of_getElem? (i := 375) (by decide +kernel), List.mem_of_getElem? (i := 376) (by decide +kernel)⟩
def lw_privs_1 : List (MethodName × Nat) := [(⟨"TramPence", "hasPack", "(II)Z"⟩, 7), (⟨"TramPence", "takings", "(I)I"⟩, 7), (⟨"TramPence", "takeBackLatest", "()V"⟩, 7), (⟨"TramPence", "howManyAboard", "(III)I"⟩, 7), (⟨"TramPence", "isAboard", "(III)Z"⟩, 7), (⟨"TramPence", "isGoodAt", "(II)Z"⟩, 7), (⟨"TramPence", "beyondHeld", "(II)I"⟩, 7)]
theorem lw_r1 : ∀ q ∈ lw_privs_1, lw_okq q := List.forall_mem_cons.mpr ⟨lw_p0, List.forall_mem_cons.mpr ⟨lw_p1, List.forall_mem_cons.mpr ⟨lw_p2, List.forall_mem_cons.mpr ⟨lw_p3, List.forall_mem_cons.mpr ⟨lw_p4, List.forall_mem_cons.mpr ⟨lw_p5, List.forall_mem_cons.mpr ⟨lw_p6, fun _ h => absurd h List.not_mem_nil⟩⟩⟩⟩⟩⟩⟩
def lw_privs : List (MethodName × Nat) := lw_privs_1
def lw_tbl : List Cond := k2_sels lw_privs ++ tables_1
theorem lw_privs_ok : ∀ q ∈ lw_privs, lw_okq q := lw_r1
/-! ===== BEGIN words of one list among another's, by their places ===== -/
theorem goodIn_r {big : List Cond} (ws : List Cond) (ps : List Nat) (hp : ws = ps.filterMap (fun i => big[i]?)) (h : ws.all goodWord = true) : GoodIn big ws := by
  intro w hw
  have h1 := List.all_eq_true.mp h w hw
  rw [hp] at hw
  obtain ⟨i, -, hi⟩ := List.mem_filterMap.mp hw
  have hm : w ∈ big := by first | exact List.mem_of_getElem? hi | exact List.getElem?_mem hi
  exact ⟨hm, good_of_word h1⟩
theorem goodIn_app {big a b : List Cond} (ha : GoodIn big a) (hb : GoodIn big b) : GoodIn big (a ++ b) := fun w h => (List.mem_append.mp h).elim (ha w) (hb w)
theorem goodIn_ca {big a b : List Cond} {c : Cond} (ha : GoodIn big (c :: a)) (hb : GoodIn big b) : GoodIn big (c :: (a ++ b)) := fun w h => (List.mem_cons.mp h).elim (fun e => ha w (List.mem_cons.mpr (Or.inl e))) (fun h => (List.mem_append.mp h).elim (fun h => ha w (List.mem_cons.mpr (Or.inr h))) (hb w))
theorem goodIn_sub {big ws : List Cond} (hm : ∀ w ∈ ws, w ∈ big) (h : ws.all goodWord = true) : GoodIn big ws := fun w hw => ⟨hm w hw, good_of_word (List.all_eq_true.mp h w hw)⟩
/-! ===== END ===== -/
def RX0 : String := "TramPence$LawBook"
def TX0 : u_T := fun k => match k with
  | 0 => ("TramPence$LawBook", "tape", "LTramPence$Tape;", true)
  | 1 => ("TramPence$LawBook", "told", "LTramPence$Laws;", false)
  | 2 => ("TramPence$LawBook", "fault", "I", false)
  | 3 => ("TramPence$LawBook", "draft", "LTramPence$Laws;", false)
  | 4 => ("TramPence$LawBook", "numbers", "[I", true)
  | 5 => ("TramPence$LawBook", "law", "I", false)
  | _ => ("TramPence$LawBook", "taken", "I", false)
def tyX0 : Nat → FieldType := fun k => match k with
  | 0 => .object "TramPence$Tape"
  | 1 => .object "TramPence$Laws"
  | 2 => .int
  | 3 => .object "TramPence$Laws"
  | 4 => .array .int
  | 5 => .int
  | _ => .int
abbrev wsX00 : List Cond := u_ws RX0 TX0 7
theorem nmX0 : ∀ a, a < 7 → ∀ b, b < 7 → a ≠ b → (TX0 a).2.1 ≠ (TX0 b).2.1 := by decide +kernel
theorem tyX0_ok : ∀ k, k < 7 → parseFieldDescriptor (TX0 k).2.2.1 = some (tyX0 k) := by decide +kernel
abbrev cX0_init : ByteArray := prog_2_method_1_code
def yX0_init : MethodName := ⟨RX0, "<init>", "()V"⟩
def RX1 : String := "TramPence$Laws"
def TX1 : u_T := fun k => match k with
  | 0 => ("TramPence$Laws", "sections", "[I", true)
  | 1 => ("TramPence$Laws", "pence", "[I", true)
  | 2 => ("TramPence$Laws", "fromHour", "[I", true)
  | 3 => ("TramPence$Laws", "toHour", "[I", true)
  | 4 => ("TramPence$Laws", "ofHundred", "[I", true)
  | 5 => ("TramPence$Laws", "fares", "I", false)
  | 6 => ("TramPence$Laws", "works", "I", false)
  | _ => ("TramPence$Laws", "changeMinutes", "I", false)
def tyX1 : Nat → FieldType := fun k => match k with
  | 0 => .array .int
  | 1 => .array .int
  | 2 => .array .int
  | 3 => .array .int
  | 4 => .array .int
  | 5 => .int
  | 6 => .int
  | _ => .int
abbrev wsX10 : List Cond := u_ws RX1 TX1 8
theorem nmX1 : ∀ a, a < 8 → ∀ b, b < 8 → a ≠ b → (TX1 a).2.1 ≠ (TX1 b).2.1 := by decide +kernel
theorem tyX1_ok : ∀ k, k < 8 → parseFieldDescriptor (TX1 k).2.2.1 = some (tyX1 k) := by decide +kernel
abbrev cX1_init : ByteArray := prog_3_method_1_code
def yX1_init : MethodName := ⟨RX1, "<init>", "()V"⟩
def RX2 : String := "TramPence$Packs"
def TX2 : u_T := fun k => match k with
  | 0 => ("TramPence$Packs", "next", "[[I", true)
  | _ => ("TramPence$Packs", "limit", "[[I", true)
def tyX2 : Nat → FieldType := fun k => match k with
  | 0 => .array (.array .int)
  | _ => .array (.array .int)
abbrev wsX20 : List Cond := u_ws RX2 TX2 2
theorem nmX2 : ∀ a, a < 2 → ∀ b, b < 2 → a ≠ b → (TX2 a).2.1 ≠ (TX2 b).2.1 := by decide +kernel
theorem tyX2_ok : ∀ k, k < 2 → parseFieldDescriptor (TX2 k).2.2.1 = some (tyX2 k) := by decide +kernel
abbrev cX2_init : ByteArray := prog_4_method_1_code
def yX2_init : MethodName := ⟨RX2, "<init>", "()V"⟩
abbrev cX2_size : ByteArray := prog_4_method_2_code
def yX2_size : MethodName := ⟨RX2, "size", "(II)I"⟩
abbrev cX2_replace : ByteArray := prog_4_method_3_code
def yX2_replace : MethodName := ⟨RX2, "replace", "(IIII)V"⟩
abbrev cX2_takeNext : ByteArray := prog_4_method_4_code
def yX2_takeNext : MethodName := ⟨RX2, "takeNext", "(II)I"⟩
abbrev cX2_anyWithOthers : ByteArray := prog_4_method_5_code
def yX2_anyWithOthers : MethodName := ⟨RX2, "anyWithOthers", "(IIII)Z"⟩
abbrev cX2_beyond : ByteArray := prog_4_method_6_code
def yX2_beyond : MethodName := ⟨RX2, "beyond", "(II)I"⟩
def RX3 : String := "TramPence$Roster"
def TX3 : u_T := fun k => match k with
  | 0 => ("TramPence$Roster", "from", "[I", true)
  | 1 => ("TramPence$Roster", "to", "[I", true)
  | 2 => ("TramPence$Roster", "freeFrom", "[I", true)
  | 3 => ("TramPence$Roster", "crewOf", "[I", true)
  | 4 => ("TramPence$Roster", "used", "I", false)
  | 5 => ("TramPence$Roster", "crewsUsed", "I", false)
  | _ => ("TramPence$Roster", "restMinutes", "I", false)
def tyX3 : Nat → FieldType := fun k => match k with
  | 0 => .array .int
  | 1 => .array .int
  | 2 => .array .int
  | 3 => .array .int
  | 4 => .int
  | 5 => .int
  | _ => .int
abbrev wsX30 : List Cond := u_ws RX3 TX3 7
theorem nmX3 : ∀ a, a < 7 → ∀ b, b < 7 → a ≠ b → (TX3 a).2.1 ≠ (TX3 b).2.1 := by decide +kernel
theorem tyX3_ok : ∀ k, k < 7 → parseFieldDescriptor (TX3 k).2.2.1 = some (tyX3 k) := by decide +kernel
abbrev cX3_init : ByteArray := prog_5_method_1_code
def yX3_init : MethodName := ⟨RX3, "<init>", "()V"⟩
def RX4 : String := "TramPence$Sales"
def TX4 : u_T := fun k => match k with
  | 0 => ("TramPence$Sales", "trip", "[I", true)
  | 1 => ("TramPence$Sales", "type", "[I", true)
  | 2 => ("TramPence$Sales", "step", "[I", true)
  | 3 => ("TramPence$Sales", "number", "[I", true)
  | _ => ("TramPence$Sales", "used", "I", false)
def tyX4 : Nat → FieldType := fun k => match k with
  | 0 => .array .int
  | 1 => .array .int
  | 2 => .array .int
  | 3 => .array .int
  | _ => .int
abbrev wsX40 : List Cond := u_ws RX4 TX4 5
theorem nmX4 : ∀ a, a < 5 → ∀ b, b < 5 → a ≠ b → (TX4 a).2.1 ≠ (TX4 b).2.1 := by decide +kernel
theorem tyX4_ok : ∀ k, k < 5 → parseFieldDescriptor (TX4 k).2.2.1 = some (tyX4 k) := by decide +kernel
abbrev cX4_init : ByteArray := prog_6_method_1_code
def yX4_init : MethodName := ⟨RX4, "<init>", "()V"⟩
abbrev cX4_isFull : ByteArray := prog_6_method_2_code
def yX4_isFull : MethodName := ⟨RX4, "isFull", "()Z"⟩
abbrev cX4_add : ByteArray := prog_6_method_3_code
def yX4_add : MethodName := ⟨RX4, "add", "(IIII)V"⟩
abbrev cX4_latestStep : ByteArray := prog_6_method_4_code
def yX4_latestStep : MethodName := ⟨RX4, "latestStep", "(I)I"⟩
abbrev cX4_find : ByteArray := prog_6_method_5_code
def yX4_find : MethodName := ⟨RX4, "find", "(II)I"⟩
abbrev cX4_anySold : ByteArray := prog_6_method_6_code
def yX4_anySold : MethodName := ⟨RX4, "anySold", "(III)Z"⟩
abbrev cX4_beyond : ByteArray := prog_6_method_7_code
def yX4_beyond : MethodName := ⟨RX4, "beyond", "(II)I"⟩
abbrev cX4_greatestSold : ByteArray := prog_6_method_8_code
def yX4_greatestSold : MethodName := ⟨RX4, "greatestSold", "(I)I"⟩
def RX5 : String := "TramPence$Sheet"
def TX5 : u_T := fun k => match k with
  | 0 => ("TramPence$Sheet", "cells", "[I", true)
  | 1 => ("TramPence$Sheet", "lane", "I", false)
  | _ => ("TramPence$Sheet", "size", "I", false)
def tyX5 : Nat → FieldType := fun k => match k with
  | 0 => .array .int
  | 1 => .int
  | _ => .int
abbrev wsX50 : List Cond := u_ws RX5 TX5 3
theorem nmX5 : ∀ a, a < 3 → ∀ b, b < 3 → a ≠ b → (TX5 a).2.1 ≠ (TX5 b).2.1 := by decide +kernel
theorem tyX5_ok : ∀ k, k < 3 → parseFieldDescriptor (TX5 k).2.2.1 = some (tyX5 k) := by decide +kernel
abbrev cX5_init : ByteArray := prog_7_method_1_code
def yX5_init : MethodName := ⟨RX5, "<init>", "()V"⟩
def RX6 : String := "TramPence$Tape"
def TX6 : u_T := fun k => match k with
  | 0 => ("TramPence$Tape", "bytes", "[B", true)
  | 1 => ("TramPence$Tape", "length", "I", false)
  | 2 => ("TramPence$Tape", "start", "I", false)
  | 3 => ("TramPence$Tape", "value", "I", false)
  | _ => ("TramPence$Tape", "place", "I", false)
def tyX6 : Nat → FieldType := fun k => match k with
  | 0 => .array .byte
  | 1 => .int
  | 2 => .int
  | 3 => .int
  | _ => .int
abbrev wsX60 : List Cond := u_ws RX6 TX6 5
theorem nmX6 : ∀ a, a < 5 → ∀ b, b < 5 → a ≠ b → (TX6 a).2.1 ≠ (TX6 b).2.1 := by decide +kernel
theorem tyX6_ok : ∀ k, k < 5 → parseFieldDescriptor (TX6 k).2.2.1 = some (tyX6 k) := by decide +kernel
abbrev cX6_init : ByteArray := prog_8_method_1_code
def yX6_init : MethodName := ⟨RX6, "<init>", "()V"⟩
def RX7 : String := "TramPence$Trips"
def TX7 : u_T := fun k => match k with
  | 0 => ("TramPence$Trips", "conductor", "[I", true)
  | 1 => ("TramPence$Trips", "up", "[Z", true)
  | 2 => ("TramPence$Trips", "open", "[Z", true)
  | _ => ("TramPence$Trips", "used", "I", false)
def tyX7 : Nat → FieldType := fun k => match k with
  | 0 => .array .int
  | 1 => .array .boolean
  | 2 => .array .boolean
  | _ => .int
abbrev wsX70 : List Cond := u_ws RX7 TX7 4
theorem nmX7 : ∀ a, a < 4 → ∀ b, b < 4 → a ≠ b → (TX7 a).2.1 ≠ (TX7 b).2.1 := by decide +kernel
theorem tyX7_ok : ∀ k, k < 4 → parseFieldDescriptor (TX7 k).2.2.1 = some (tyX7 k) := by decide +kernel
abbrev cX7_init : ByteArray := prog_9_method_1_code
def yX7_init : MethodName := ⟨RX7, "<init>", "()V"⟩
abbrev cX7_has : ByteArray := prog_9_method_2_code
def yX7_has : MethodName := ⟨RX7, "has", "(I)Z"⟩
abbrev cX7_add : ByteArray := prog_9_method_3_code
def yX7_add : MethodName := ⟨RX7, "add", "(IZ)I"⟩
abbrev cX7_hasOpen : ByteArray := prog_9_method_4_code
def yX7_hasOpen : MethodName := ⟨RX7, "hasOpen", "(I)Z"⟩
abbrev cX7_stepOfStage : ByteArray := prog_9_method_6_code
def yX7_stepOfStage : MethodName := ⟨RX7, "stepOfStage", "(II)I"⟩
abbrev cX7_stepOfSection : ByteArray := prog_9_method_7_code
def yX7_stepOfSection : MethodName := ⟨RX7, "stepOfSection", "(II)I"⟩
def RX8 : String := "TramPence$Types"
def TX8 : u_T := fun k => match k with
  | 0 => ("TramPence$Types", "price", "[I", true)
  | 1 => ("TramPence$Types", "span", "[I", true)
  | _ => ("TramPence$Types", "used", "I", false)
def tyX8 : Nat → FieldType := fun k => match k with
  | 0 => .array .int
  | 1 => .array .int
  | _ => .int
abbrev wsX80 : List Cond := u_ws RX8 TX8 3
theorem nmX8 : ∀ a, a < 3 → ∀ b, b < 3 → a ≠ b → (TX8 a).2.1 ≠ (TX8 b).2.1 := by decide +kernel
theorem tyX8_ok : ∀ k, k < 3 → parseFieldDescriptor (TX8 k).2.2.1 = some (tyX8 k) := by decide +kernel
abbrev cX8_init : ByteArray := prog_10_method_1_code
def yX8_init : MethodName := ⟨RX8, "<init>", "()V"⟩
abbrev cX8_has : ByteArray := prog_10_method_2_code
def yX8_has : MethodName := ⟨RX8, "has", "(I)Z"⟩
abbrev cX8_add : ByteArray := prog_10_method_3_code
def yX8_add : MethodName := ⟨RX8, "add", "(II)I"⟩
def RX9 : String := "TramPence"
def TX9 : u_T := fun k => match k with
  | 0 => ("TramPence", "types", "LTramPence$Types;", true)
  | 1 => ("TramPence", "packs", "LTramPence$Packs;", true)
  | 2 => ("TramPence", "trips", "LTramPence$Trips;", true)
  | 3 => ("TramPence", "sales", "LTramPence$Sales;", true)
  | 4 => ("TramPence", "sheets", "[LTramPence$Sheet;", true)
  | 5 => ("TramPence", "book", "LTramPence$LawBook;", true)
  | _ => ("TramPence", "roster", "LTramPence$Roster;", true)
def tyX9 : Nat → FieldType := fun k => match k with
  | 0 => .object "TramPence$Types"
  | 1 => .object "TramPence$Packs"
  | 2 => .object "TramPence$Trips"
  | 3 => .object "TramPence$Sales"
  | 4 => .array (.object "TramPence$Sheet")
  | 5 => .object "TramPence$LawBook"
  | _ => .object "TramPence$Roster"
abbrev wsX90 : List Cond := u_ws RX9 TX9 7
theorem nmX9 : ∀ a, a < 7 → ∀ b, b < 7 → a ≠ b → (TX9 a).2.1 ≠ (TX9 b).2.1 := by decide +kernel
theorem tyX9_ok : ∀ k, k < 7 → parseFieldDescriptor (TX9 k).2.2.1 = some (tyX9 k) := by decide +kernel
abbrev cX9_init : ByteArray := prog_1_method_1_code
def yX9_init : MethodName := ⟨RX9, "<init>", "()V"⟩
abbrev cX9_type : ByteArray := prog_1_method_2_code
def yX9_type : MethodName := ⟨RX9, "type", "(II)I"⟩
abbrev cX9_issue : ByteArray := prog_1_method_3_code
def yX9_issue : MethodName := ⟨RX9, "issue", "(IIII)I"⟩
abbrev cX9_pack : ByteArray := prog_1_method_4_code
def yX9_pack : MethodName := ⟨RX9, "pack", "(III)I"⟩
abbrev cX9_trip : ByteArray := prog_1_method_5_code
def yX9_trip : MethodName := ⟨RX9, "trip", "(IZ)I"⟩
abbrev cX9_close : ByteArray := prog_1_method_6_code
def yX9_close : MethodName := ⟨RX9, "close", "(I)I"⟩
abbrev cX9_sell : ByteArray := prog_1_method_7_code
def yX9_sell : MethodName := ⟨RX9, "sell", "(III)I"⟩
abbrev cX9_undo : ByteArray := prog_1_method_8_code
def yX9_undo : MethodName := ⟨RX9, "undo", "()I"⟩
abbrev cX9_money : ByteArray := prog_1_method_13_code
def yX9_money : MethodName := ⟨RX9, "money", "(I)I"⟩
abbrev cX9_aboard : ByteArray := prog_1_method_15_code
def yX9_aboard : MethodName := ⟨RX9, "aboard", "(III)I"⟩
abbrev cX9_riders : ByteArray := prog_1_method_16_code
def yX9_riders : MethodName := ⟨RX9, "riders", "(ZII)I"⟩
abbrev cX9_shown : ByteArray := prog_1_method_17_code
def yX9_shown : MethodName := ⟨RX9, "shown", "(IIII)I"⟩
abbrev cX9_heads : ByteArray := prog_1_method_18_code
def yX9_heads : MethodName := ⟨RX9, "heads", "(III)I"⟩
abbrev cX9_gap : ByteArray := prog_1_method_19_code
def yX9_gap : MethodName := ⟨RX9, "gap", "(I)I"⟩
abbrev cX9_isOutside : ByteArray := prog_1_method_32_code
def yX9_isOutside : MethodName := ⟨RX9, "isOutside", "(III)Z"⟩
abbrev cX9_hasPack : ByteArray := prog_1_method_33_code
def yX9_hasPack : MethodName := ⟨RX9, "hasPack", "(II)Z"⟩
abbrev cX9_takings : ByteArray := prog_1_method_34_code
def yX9_takings : MethodName := ⟨RX9, "takings", "(I)I"⟩
abbrev cX9_howManyAboard : ByteArray := prog_1_method_35_code
def yX9_howManyAboard : MethodName := ⟨RX9, "howManyAboard", "(III)I"⟩
abbrev cX9_isAboard : ByteArray := prog_1_method_36_code
def yX9_isAboard : MethodName := ⟨RX9, "isAboard", "(III)Z"⟩
abbrev cX9_isGoodAt : ByteArray := prog_1_method_37_code
def yX9_isGoodAt : MethodName := ⟨RX9, "isGoodAt", "(II)Z"⟩
abbrev cX9_takeBackLatest : ByteArray := prog_1_method_40_code
def yX9_takeBackLatest : MethodName := ⟨RX9, "takeBackLatest", "()V"⟩
abbrev cX9_beyondHeld : ByteArray := prog_1_method_41_code
def yX9_beyondHeld : MethodName := ⟨RX9, "beyondHeld", "(II)I"⟩
def RX10 : String := "TramPenceModel"
def TX10 : u_T := fun k => match k with
  | _ => ("", "", "", false)
def tyX10 : Nat → FieldType := fun k => match k with
  | _ => .int
abbrev wsX100 : List Cond := u_ws RX10 TX10 0
theorem nmX10 : ∀ a, a < 0 → ∀ b, b < 0 → a ≠ b → (TX10 a).2.1 ≠ (TX10 b).2.1 := by decide +kernel
theorem tyX10_ok : ∀ k, k < 0 → parseFieldDescriptor (TX10 k).2.2.1 = some (tyX10 k) := by decide +kernel
def RJ9 : String := "java/lang/Math"
def TJ9 : u_T := fun k => match k with
  | _ => ("", "", "", false)
def tyJ9 : Nat → FieldType := fun k => match k with
  | _ => .int
abbrev wsJ90 : List Cond := u_ws RJ9 TJ9 0
theorem nmJ9 : ∀ a, a < 0 → ∀ b, b < 0 → a ≠ b → (TJ9 a).2.1 ≠ (TJ9 b).2.1 := by decide +kernel
theorem tyJ9_ok : ∀ k, k < 0 → parseFieldDescriptor (TJ9 k).2.2.1 = some (tyJ9 k) := by decide +kernel
abbrev cJ9_max_7cf53 : ByteArray := prog_13_method_65_code
def yJ9_max_7cf53 : MethodName := ⟨RJ9, "max", "(II)I"⟩
abbrev cJ9_min_7cf53 : ByteArray := prog_13_method_69_code
def yJ9_min_7cf53 : MethodName := ⟨RJ9, "min", "(II)I"⟩
def RL : String := "TramPenceLaw"
abbrev cL_part : ByteArray := method_2_code
def yL_part : MethodName := ⟨RL, "part", "(II)I"⟩
abbrev cL_cell : ByteArray := method_3_code
def yL_cell : MethodName := ⟨RL, "cell", "([II)I"⟩
abbrev cL_sells : ByteArray := method_4_code
def yL_sells : MethodName := ⟨RL, "sells", "(LTramPence;[IIII[I[I[I[I[I)I"⟩
abbrev cL_law : ByteArray := code
def yL_law : MethodName := ⟨RL, "law", "([I)Z"⟩
abbrev vwCl : List vw_C := [(RX0, TX0, 7), (RX1, TX1, 8), (RX2, TX2, 2), (RX3, TX3, 7), (RX4, TX4, 5), (RX5, TX5, 3), (RX6, TX6, 5), (RX7, TX7, 4), (RX8, TX8, 3), (RX9, TX9, 7)]
end
section
/-! an array of arrays (multianewarray): the block that NAMES.whole.lean.txt prints, with the word it lacks -/
def va_AOA (ty : FieldType) (U : State) : Prop := (Cond.arrayOver (.array ty)).before #[] U = true
theorem va_AOA.use {ty : FieldType} {A : Array Value} {U : State} (h : va_AOA ty U) : (Cond.arrayOver (.array ty)).before A U = true := over_moved (Vm.Alike.refl U.vm) h
theorem va_AOA.moved {ty : FieldType} {u U : State} (hvm : u.vm.Alike U.vm) (h : va_AOA ty u) : va_AOA ty U := over_moved hvm h
/-- f, but v at every address of l -/
def vr_up {α : Type} (f : Nat → α) (l : List Nat) (v : α) : Nat → α := fun a => if a ∈ l then v else f a
theorem vr_up_in {α : Type} {f : Nat → α} {l : List Nat} {v : α} {a : Nat} (h : a ∈ l) : vr_up f l v a = v := if_pos h
theorem vr_up_ne {α : Type} {f : Nat → α} {l : List Nat} {v : α} {a : Nat} (h : a ∉ l) : vr_up f l v a = f a := if_neg h
theorem vr_rows {L l : List Nat} {f : Nat → va_E} {e : va_E} (h : ∀ a, a ∈ l → a ∉ L) : va_pl L f ++ l.map (fun a => (a, e)) = va_pl (L ++ l) (vr_up f l e) := by
  unfold va_pl
  rw [List.map_append]
  congr 1
  · apply List.map_congr_left
    intro a ha
    rw [vr_up_ne (fun q => h a q ha)]
  · apply List.map_congr_left
    intro a ha
    rw [vr_up_in ha]
theorem vr_lay {X rows : va_W} {x : Nat × va_E} {pl : va_W} {D : va_G} {cl : List vw_C} {H : Heap} (hP : va_P D cl (((X ++ pl) ++ [x]) ++ rows) H) : va_P D cl ((X ++ [x]) ++ (pl ++ rows)) H := by
  rw [List.append_assoc (X ++ pl)] at hP
  have h := va_P.swap hP
  rw [← List.append_assoc X] at h
  have h2 := va_P.swap h
  rw [List.append_assoc (X ++ [x])] at h2
  exact h2
theorem vr_layD {X rows : va_W} {x : Nat × va_E} {pl : va_W} {A : Nat → Prop} (hD : va_D A (((X ++ pl) ++ [x]) ++ rows)) : va_D A ((X ++ [x]) ++ (pl ++ rows)) := by
  rw [List.append_assoc (X ++ pl)] at hD
  have h := va_D.swap hD
  rw [← List.append_assoc X] at h
  have h2 := va_D.swap h
  rw [List.append_assoc (X ++ [x])] at h2
  exact h2
theorem vr_outer (c : ClassId) (N h0 : Nat) : ∀ i : Nat, Jvm.Free.Multi.outerC c N h0 i = arrV c N (fun j => va_rf (if j < i then some (h0 + 1 + j) else none))
  | 0 => by
    show ({ cls := c, slots := Array.replicate N .null, vm := .none } : Cell) = _
    rw [arrV_new]
    refine congrArg (arrV c N) (funext fun j => ?_)
    simp [va_rf]
  | i + 1 => by
    show (Jvm.Free.Multi.outerC c N h0 i).setSlot i (.ref (h0 + 1 + i)) = _
    rw [vr_outer c N h0 i, arrV_store]
    refine congrArg (arrV c N) (funext fun j => ?_)
    by_cases e : j = i
    · subst e
      simp [updV, va_rf]
    · by_cases h : j < i
      · simp [updV, e, h, Nat.lt_succ_of_lt h]
      · simp [updV, e, h, show ¬ j < i + 1 by omega]
section VGM
variable {p : Program} {l : Launch} {e : Env} {R : Room} {s : State} {m : MethodId} {args : Array Value} {below : List Frame} {meth : Method} {c : Code} {H : Heap} {locs : List Loc} {cells slots : Nat} {Q : State → Prop}
variable {cc : ByteArray} {pc : Nat} {ls : Array Slot} {rest : List Value} {D : va_G} {cl : List vw_C} {A : Nat → Prop} {a : Nat} {tys : List (ClassId × FieldType)} {ws : va_W} {H0 : Heap}
theorem va_mna {X : va_W} {L : List Nat} {f : Nat → va_E} {cc : ByteArray} (hexec : p.tables.exec = Jvm.exec) (hb : c.code = cc) {own : String} {index : Nat} {ty : FieldType} {cy : ClassId} (hown : s.vm.findClass own = some m.cls) (hclink : (Cond.classLink own index ("[" ++ (FieldType.array ty).toString)).before args s = true) (hover : va_AOA ty s) (harr : (Cond.arrayClass ty).before args s = true) (hcy : s.vm.findClass (FieldType.array ty).toString = some cy)
    (hK : va_K D cl tys s) (hP : va_P D cl (X ++ va_pl L f) H) (hD : va_D A (X ++ va_pl L f)) (hS : va_S A H0 H locs) (hA : ∀ q, H0.size ≤ q → A q) {n k : Int32} {N' K' : Nat} {z : vp_A} (hn : ¬ n < 0) (hk : ¬ k < 0) (hN : n.toNatClampNeg = N') (hM : k.toNatClampNeg = K')
    (hb1 : N' * 4 ≤ 536870912) (hb2 : K' * componentBytes ty ≤ 536870912) (hb3 : K' ≤ 536870912) (hdf : fits ty (defaultValue ty) = true) (hdd : (defaultValue ty).isDefault = true) (hcells : cells + (1 + N') ≤ R.cells) (hslots : slots + (N' + N' * K') ≤ R.slots) (hz : ∀ c : ClassId, Jvm.Free.Multi.innerC c K' (defaultValue ty) = vp_cell c z) (hdg : decode cc pc = .ok (.multianewarray index 2, 4))
    (kk : ∀ (q : Nat) (r : Nat → Nat) (cA : ClassId) (H1 : Heap), (∀ i j : Nat, i < N' → j < N' → r i = r j → i = j) → (∀ i : Nat, i < N' → r i ∉ L) → va_K D cl (tys ++ [(cA, .array ty)]) s →
      va_P D cl ((X ++ [(q, .inl (cA, N', .inr (.inr (.inr (.inr (fun i => if i < N' then some (r i) else none))))))]) ++ va_pl (L ++ (List.range N').map r) (vr_up f ((List.range N').map r) (.inl (cy, z)))) H1 → va_D A ((X ++ [(q, .inl (cA, N', .inr (.inr (.inr (.inr (fun i => if i < N' then some (r i) else none))))))]) ++ va_pl (L ++ (List.range N').map r) (vr_up f ((List.range N').map r) (.inl (cy, z)))) → va_S A H0 H1 locs →
      W p l e R s m args below meth c H1 locs (cells + 1 + N') (slots + N' + N' * K') Q (F0 m (pc + 4) ls (.ref q :: rest))) : W p l e R s m args below meth c H locs cells slots Q (F0 m pc ls (.int k :: .int n :: rest)) := by
  subst hN
  subst hM
  intro T hT Xs
  obtain ⟨vm₁, cA, comp, -, fA, fC, hO, -, X', step⟩ := Xs.multianewarray2F hexec hown hclink (va_AOA.use hover) harr (g := F0 m pc ls (.int k :: .int n :: rest)) rfl (by rw [hb]; exact hdg) rfl hn hk hb1 hb2 hb3 hdf hdd hcells hslots
  have ec : some cy = some comp := hcy.symm.trans fC
  cases ec
  generalize hF : Jvm.Free.Multi.fill (T.setVm vm₁) cA cy n.toNatClampNeg k.toNatClampNeg (defaultValue ty) n.toNatClampNeg = F at X' step
  have hTh : (T.setVm vm₁).heap = H := hT
  obtain ⟨f1, f2, -, -⟩ := Jvm.Free.Multi.fill_facts (T.setVm vm₁) cA cy n.toNatClampNeg k.toNatClampNeg (defaultValue ty) n.toNatClampNeg
  rw [hF, hTh] at f1 f2
  have hold : ∀ x : Nat, x < H.size → F.heap[x]? = H[x]? := fun x hx => by
    have := Jvm.Free.Multi.fill_old (T.setVm vm₁) cA cy n.toNatClampNeg k.toNatClampNeg (defaultValue ty) (a := x) (by rw [hTh]; exact hx) n.toNatClampNeg
    rw [hF, hTh] at this
    exact this
  have hrow : ∀ j : Nat, j < n.toNatClampNeg → F.heap[H.size + 1 + j]? = some (vp_cell cy z) := fun j hj => by
    have := Jvm.Free.Multi.fill_inner (T.setVm vm₁) cA cy n.toNatClampNeg k.toNatClampNeg (defaultValue ty) n.toNatClampNeg j hj
    rw [hF, hTh, hz] at this
    exact this
  have hout : Jvm.Free.Multi.outerC cA n.toNatClampNeg H.size n.toNatClampNeg = vp_cell cA (n.toNatClampNeg, .inr (.inr (.inr (.inr (fun i => if i < n.toNatClampNeg then some (H.size + 1 + i) else none))))) := by
    rw [vp_cell_q]
    exact vr_outer cA n.toNatClampNeg H.size n.toNatClampNeg
  rw [hout] at f2
  have hlt : ∀ a, a ∈ L → a < H.size := fun a ha => by
    obtain ⟨k9, hk9⟩ := va_pl_get (X := X) (f := f) ha
    exact (hP k9 _ hk9).lt
  have hnl : ∀ i : Nat, i < n.toNatClampNeg → H.size + 1 + i ∉ L := fun i _ h => by
    have := hlt _ h
    omega
  have hnm : ∀ a, a ∈ (List.range n.toNatClampNeg).map (fun i => H.size + 1 + i) → a ∉ L := fun a ha h => by
    obtain ⟨i, -, rfl⟩ := List.mem_map.mp ha
    have := hlt _ h
    omega
  have hP0 : va_P D cl (X ++ va_pl L f) F.heap := hP.kept (fun k9 x hx => hold x.1 ((hP k9 x hx).lt))
  have hP1 : va_P D cl ((X ++ va_pl L f) ++ [(H.size, .inl (cA, n.toNatClampNeg, .inr (.inr (.inr (.inr (fun i => if i < n.toNatClampNeg then some (H.size + 1 + i) else none))))))]) F.heap := hP0.app (fun k9 x hx => by
    have h0 : k9 < 1 := (List.getElem?_eq_some_iff.mp hx).1
    rw [show k9 = 0 by omega] at hx
    cases hx
    exact f2)
  have hP2 : va_P D cl (((X ++ va_pl L f) ++ [(H.size, .inl (cA, n.toNatClampNeg, .inr (.inr (.inr (.inr (fun i => if i < n.toNatClampNeg then some (H.size + 1 + i) else none))))))]) ++ ((List.range n.toNatClampNeg).map (fun i => H.size + 1 + i)).map (fun a => (a, .inl (cy, z)))) F.heap := hP1.app (fun k9 x hx => by
    obtain ⟨a, ha, rfl⟩ := List.mem_map.mp (List.mem_of_getElem? hx)
    obtain ⟨i, hi, rfl⟩ := List.mem_map.mp ha
    exact hrow i (List.mem_range.mp hi))
  have hD2 : va_D A (((X ++ va_pl L f) ++ [(H.size, .inl (cA, n.toNatClampNeg, .inr (.inr (.inr (.inr (fun i => if i < n.toNatClampNeg then some (H.size + 1 + i) else none))))))]) ++ ((List.range n.toNatClampNeg).map (fun i => H.size + 1 + i)).map (fun a => (a, .inl (cy, z)))) := by
    have hD1 := hD.push (e := .inl (cA, n.toNatClampNeg, .inr (.inr (.inr (.inr (fun i => if i < n.toNatClampNeg then some (H.size + 1 + i) else none)))))) hP rfl (hA _ hS.1)
    generalize hW1 : (X ++ va_pl L f) ++ [(H.size, .inl (cA, n.toNatClampNeg, .inr (.inr (.inr (.inr (fun i => if i < n.toNatClampNeg then some (H.size + 1 + i) else none))))))] = W1 at hD1 hP1 ⊢
    have hle : ∀ (k9 : Nat) (x : Nat × va_E), W1[k9]? = some x → x.1 ≤ H.size := fun k9 x hx => by
      rw [← hW1] at hx
      by_cases hl : k9 < (X ++ va_pl L f).length
      · rw [List.getElem?_append_left hl] at hx
        exact Nat.le_of_lt ((hP k9 x hx).lt)
      · rw [List.getElem?_append_right (by omega)] at hx
        have h0 : k9 - (X ++ va_pl L f).length < 1 := (List.getElem?_eq_some_iff.mp hx).1
        rw [show k9 - (X ++ va_pl L f).length = 0 by omega] at hx
        cases hx
        exact Nat.le_refl _
    have hr : ∀ (k9 : Nat) (x : Nat × va_E), (((List.range n.toNatClampNeg).map (fun i => H.size + 1 + i)).map (fun a => ((a, .inl (cy, z)) : Nat × va_E)))[k9]? = some x → x.1 = H.size + 1 + k9 := fun k9 x hx => by
      rw [List.getElem?_map, List.getElem?_map] at hx
      by_cases h9 : k9 < n.toNatClampNeg
      · rw [List.getElem?_range h9] at hx
        cases hx
        rfl
      · have hn0 : (List.range n.toNatClampNeg)[k9]? = none := List.getElem?_eq_none (by rw [List.length_range]; omega)
        rw [hn0] at hx
        cases hx
    refine ⟨fun i j x y hi hj hxy => ?_, fun k9 x hx => ?_⟩
    · by_cases h1 : i < W1.length <;> by_cases h2 : j < W1.length
      · rw [List.getElem?_append_left h1] at hi
        rw [List.getElem?_append_left h2] at hj
        exact hD1.1 i j x y hi hj hxy
      · rw [List.getElem?_append_left h1] at hi
        rw [List.getElem?_append_right (by omega)] at hj
        have := hle _ _ hi
        have := hr _ _ hj
        omega
      · rw [List.getElem?_append_right (by omega)] at hi
        rw [List.getElem?_append_left h2] at hj
        have := hle _ _ hj
        have := hr _ _ hi
        omega
      · rw [List.getElem?_append_right (by omega)] at hi hj
        have := hr _ _ hi
        have := hr _ _ hj
        omega
    · by_cases h1 : k9 < W1.length
      · rw [List.getElem?_append_left h1] at hx
        exact hD1.2 k9 x hx
      · rw [List.getElem?_append_right (by omega)] at hx
        have := hr _ _ hx
        exact hA _ (by have := hS.1; omega)
  have hAr : ArrOfT s cA (.array ty) := fun N9 z9 => by
    obtain ⟨-, k9, hk9, cm9, hkk9⟩ := (hO 0 0 0).1
    exact ⟨(fun q hq => by cases hq), k9, hk9, cm9, hkk9⟩
  have hK2 : va_K D cl (tys ++ [(cA, .array ty)]) s := ⟨hK.1, fun k9 x hx => by
    by_cases hl : k9 < tys.length
    · rw [List.getElem?_append_left hl] at hx
      exact hK.2 k9 x hx
    · rw [List.getElem?_append_right (by omega)] at hx
      have h0 : k9 - tys.length < 1 := (List.getElem?_eq_some_iff.mp hx).1
      rw [show k9 - tys.length = 0 by omega] at hx
      cases hx
      exact ⟨hAr, fA⟩⟩
  obtain ⟨t, a1, b1⟩ := kk H.size (fun i => H.size + 1 + i) cA F.heap (fun i j _ _ h => by have h9 : H.size + 1 + i = H.size + 1 + j := h; omega) hnl hK2 (by rw [← vr_rows hnm]; exact vr_lay hP2) (by rw [← vr_rows hnm]; exact vr_layD hD2) ⟨by rw [f1]; have := hS.1; omega, fun x h1 h2 => (hold x (Nat.lt_of_lt_of_le h1 hS.1)).trans (hS.2.1 x h1 h2), hS.2.2⟩ F rfl X'
  refine ⟨t, step t ?_, b1⟩
  have e : T.heap.size = H.size := by rw [hT]
  rw [e]
  exact a1
end VGM
end
section
/-! the objects of the two worlds: kinds (0 .. 10 classes, 20 int[], 21 byte[], 22 boolean[], 23, 24 arrays of references, 26 script, 27 tables, 28 String, 29 its bytes), lengths, references -/
def tp_kdl : List Nat := [9, 8, 2, 7, 4, 23, 0, 3, 20, 20, 24, 24, 20, 22, 22, 20, 20, 20, 20, 6, 5, 5, 5, 5, 1, 1, 20, 21, 20, 20, 20, 20, 20, 20, 20, 20, 20, 20, 20, 20, 20, 20, 20, 20, 20, 20, 20, 20, 20, 20, 20, 20, 20, 20, 20, 20, 20, 20, 20, 20, 20, 20, 20, 20, 20, 99, 99, 99, 99, 99, 99, 99, 99, 99, 99, 99, 99, 99, 99, 99, 99, 99, 99, 99, 99, 99, 99, 99, 99, 99, 26, 99, 99, 99, 99, 99, 99, 99, 99, 99, 99]
def tp_lnl : List Nat := [0, 0, 0, 0, 0, 4, 0, 0, 5, 5, 6, 6, 16, 16, 16, 200, 200, 200, 200, 0, 0, 0, 0, 0, 0, 0, 3, 200, 10, 10, 10, 10, 64, 64, 64, 64, 9, 9, 4, 4, 4, 9, 9, 4, 4, 4, 5, 5, 5, 5, 5, 5, 5, 5, 5, 5, 5, 5, 2, 2, 4, 4, 8, 8, 60, 0, 0, 0, 0, 0, 0, 0, 0, 0, 0, 0, 0, 0, 0, 0, 0, 0, 0, 0, 0, 0, 0, 0, 0, 0, 0, 0, 0, 0, 0, 0, 0, 0, 0, 0, 0]
def tp_rrl : List (List Nat) := [[1, 2, 3, 4, 5, 6, 7], [8, 9, 0], [10, 11], [12, 13, 14, 0], [15, 16, 17, 18, 0], [20], [19, 24, 0, 25, 26, 0, 0], [28, 29, 30, 31, 0, 0, 0], [], [], [46], [52], [], [], [], [], [], [], [], [27, 0, 0, 0, 0], [32, 0, 0], [33, 0, 0], [34, 0, 0], [35, 0, 0], [36, 37, 38, 39, 40, 0, 0, 0], [41, 42, 43, 44, 45, 0, 0, 0], [], [], [], [], [], [], [], [], [], [], [], [], [], [], [], [], [], [], [], [], [], [], [], [], [], [], [], [], [], [], [], [], [], [], [], [], [], [], [], [], [], [], [], [], [], [], [], [], [], [], [], [], [], [], [], [], [], [], [], [], [], [], [], [], [], [], [], [], [], [], [], [], [], [], []]
def tp_isl : List (List Bool) := [[true, true, false, true, true, false, false], [true, true, true, true, true, false, false, false], [true, true], [true, true, true, true, false, false, false], [true, true, true, true, false], [true, false, false], [true, false, false, false, false], [true, true, true, false], [true, true, false], [true, true, true, true, true, true, true], [false]]
def tp_law : Nat := 43
def tp_kd (o : Nat) : Nat := tp_kdl.getD o 99
def tp_ln (o : Nat) : Nat := tp_lnl.getD o 0
def tp_isR (c k : Nat) : Bool := (tp_isl.getD c []).getD k false
/-- the ints of fields and arrays, by object and place; how many objects there are -/
abbrev tp_St : Type := (Nat → Nat → Int32) × (Nat × Nat)
def tp_rr (_ : tp_St) (o k : Nat) : Nat := if tp_kd o < 20 then (tp_rrl.getD o []).getD k 0 else (tp_rrl.getD o []).getD 0 0 + k
/-- the locals of the law where it makes an array -/
def tp_exL : Nat → List Value
  | 9 => [.ref 90, .ref 0, .null, .null, .null, .null, .null, .null, .null, .null, .null, .null, .null, .null, .null, .null, .null, .null, .null, .null, .null, .null, .null, .null]
  | 43 => [.ref 90, .ref 0, .ref 58, .null, .null, .null, .null, .null, .null, .null, .null, .null, .null, .null, .null, .null, .null, .null, .null, .null, .null, .null, .null, .null]
  | 110 => [.ref 90, .ref 0, .ref 58, .ref 59, .null, .null, .null, .null, .null, .null, .null, .null, .null, .null, .null, .null, .null, .null, .null, .null, .null, .null, .null, .null]
  | 115 => [.ref 90, .ref 0, .ref 58, .ref 59, .ref 60, .null, .null, .null, .null, .null, .null, .null, .null, .null, .null, .null, .null, .null, .null, .null, .null, .null, .null, .null]
  | 141 => [.ref 90, .ref 0, .ref 58, .ref 59, .ref 60, .ref 61, .null, .null, .null, .null, .null, .null, .null, .null, .null, .null, .null, .null, .null, .null, .null, .null, .null, .null]
  | 147 => [.ref 90, .ref 0, .ref 58, .ref 59, .ref 60, .ref 61, .ref 62, .null, .null, .null, .null, .null, .null, .null, .null, .null, .null, .null, .null, .null, .null, .null, .null, .null]
  | 321 => [.ref 90, .ref 0, .ref 58, .ref 59, .ref 60, .ref 61, .ref 62, .ref 63, .null, .null, .null, .null, .null, .null, .null, .null, .null, .null, .null, .null, .null, .null, .null, .null]
  | _ => []
abbrev tp_Ins : Type := Instr × Nat × Int32 × Nat × Nat × Nat
/-- methods: class, name, code, locals, answer, room, the receiver's kind, arguments -/
abbrev tp_MI : Type := String × MethodName × ByteArray × Nat × Option FieldType × (Nat × Nat) × Nat × Nat
def tp_M0 : List tp_MI := [(RX2, yX2_size, cX2_size, 3, (some .int), (0, 0), 2, 3),
  (RX2, yX2_replace, cX2_replace, 5, none, (0, 0), 2, 5),
  (RX2, yX2_takeNext, cX2_takeNext, 3, (some .int), (0, 0), 2, 3),
  (RX2, yX2_anyWithOthers, cX2_anyWithOthers, 7, (some .boolean), (1, 21), 2, 5),
  (RX2, yX2_beyond, cX2_beyond, 5, (some .int), (0, 0), 2, 3),
  (RX4, yX4_isFull, cX4_isFull, 1, (some .boolean), (0, 0), 4, 1),
  (RX4, yX4_add, cX4_add, 5, none, (1, 20), 4, 5),
  (RX4, yX4_latestStep, cX4_latestStep, 3, (some .int), (0, 0), 4, 2),
  (RX4, yX4_find, cX4_find, 4, (some .int), (0, 0), 4, 3),
  (RX4, yX4_anySold, cX4_anySold, 5, (some .boolean), (0, 0), 4, 4),
  (RX4, yX4_beyond, cX4_beyond, 5, (some .int), (0, 0), 4, 3),
  (RX4, yX4_greatestSold, cX4_greatestSold, 4, (some .int), (1, 21), 4, 2),
  (RX7, yX7_has, cX7_has, 2, (some .boolean), (0, 0), 7, 2),
  (RX7, yX7_add, cX7_add, 3, (some .int), (0, 0), 7, 3),
  (RX7, yX7_hasOpen, cX7_hasOpen, 3, (some .boolean), (0, 0), 7, 2),
  (RX7, yX7_stepOfStage, cX7_stepOfStage, 3, (some .int), (0, 0), 7, 3),
  (RX7, yX7_stepOfSection, cX7_stepOfSection, 3, (some .int), (0, 0), 7, 3),
  (RX8, yX8_has, cX8_has, 2, (some .boolean), (0, 0), 8, 2),
  (RX8, yX8_add, cX8_add, 3, (some .int), (0, 0), 8, 3),
  (RX9, yX9_type, cX9_type, 3, (some .int), (1, 22), 9, 3),
  (RX9, yX9_issue, cX9_issue, 6, (some .int), (2, 47), 9, 5),
  (RX9, yX9_pack, cX9_pack, 5, (some .int), (2, 44), 9, 4),
  (RX9, yX9_trip, cX9_trip, 3, (some .int), (1, 22), 9, 3),
  (RX9, yX9_close, cX9_close, 2, (some .int), (1, 23), 9, 2),
  (RX9, yX9_sell, cX9_sell, 7, (some .int), (2, 44), 9, 4),
  (RX9, yX9_undo, cX9_undo, 4, (some .int), (1, 22), 9, 1),
  (RX9, yX9_money, cX9_money, 2, (some .int), (1, 23), 9, 2),
  (RX9, yX9_aboard, cX9_aboard, 4, (some .int), (3, 72), 9, 4),
  (RX9, yX9_riders, cX9_riders, 6, (some .int), (2, 47), 9, 4),
  (RX9, yX9_shown, cX9_shown, 7, (some .int), (1, 23), 9, 5),
  (RX9, yX9_heads, cX9_heads, 6, (some .int), (3, 72), 9, 4),
  (RX9, yX9_gap, cX9_gap, 6, (some .int), (2, 46), 9, 2),
  (RX9, yX9_isOutside, cX9_isOutside, 3, (some .boolean), (0, 0), 50, 3),
  (RX9, yX9_hasPack, cX9_hasPack, 3, (some .boolean), (1, 22), 9, 3),
  (RX9, yX9_takings, cX9_takings, 4, (some .int), (0, 0), 9, 2),
  (RX9, yX9_howManyAboard, cX9_howManyAboard, 6, (some .int), (2, 47), 9, 4),
  (RX9, yX9_isAboard, cX9_isAboard, 5, (some .boolean), (1, 23), 9, 4),
  (RX9, yX9_isGoodAt, cX9_isGoodAt, 4, (some .boolean), (0, 0), 9, 3),
  (RX9, yX9_takeBackLatest, cX9_takeBackLatest, 3, none, (0, 0), 9, 1),
  (RX9, yX9_beyondHeld, cX9_beyondHeld, 3, (some .int), (1, 24), 9, 3)]
def tp_M1 : List tp_MI := [(RL, yL_part, cL_part, 2, (some .int), (0, 0), 50, 2),
  (RL, yL_cell, cL_cell, 2, (some .int), (0, 0), 50, 2),
  (RL, yL_sells, cL_sells, 21, (some .int), (3, 70), 50, 10),
  (RL, yL_law, code, 24, some .boolean, (6, 224), 50, 1)]
def tp_M : List tp_MI := tp_M0 ++ tp_M1
def tp_mi (i : Nat) : tp_MI := tp_M.getD i ("", ⟨"", "", ""⟩, ⟨#[]⟩, 0, none, (0, 0), 0, 0)
/-- X2_size -/
def tp_P0 : List (Nat × List tp_Ins) := [(0, [(.aload_n 0, 1, 0, 0, 0, 0), (.getfield 18, 3, 0, 2, 1, 56), (.iload_n 1, 1, 0, 0, 0, 0), (.aaload, 1, 0, 0, 0, 0), (.iload_n 2, 1, 0, 0, 0, 0), (.iaload, 1, 0, 0, 0, 0), (.aload_n 0, 1, 0, 0, 0, 0), (.getfield 13, 3, 0, 2, 0, 54), (.iload_n 1, 1, 0, 0, 0, 0), (.aaload, 1, 0, 0, 0, 0), (.iload_n 2, 1, 0, 0, 0, 0), (.iaload, 1, 0, 0, 0, 0), (.isub, 1, 0, 0, 0, 0), (.ireturn, 1, 0, 0, 0, 0)])]
/-- X2_replace -/
def tp_P1 : List (Nat × List tp_Ins) := [(0, [(.aload_n 0, 1, 0, 0, 0, 0), (.getfield 13, 3, 0, 2, 0, 54), (.iload_n 1, 1, 0, 0, 0, 0), (.aaload, 1, 0, 0, 0, 0), (.iload_n 2, 1, 0, 0, 0, 0), (.iload_n 3, 1, 0, 0, 0, 0), (.iastore, 1, 0, 0, 0, 0), (.aload_n 0, 1, 0, 0, 0, 0), (.getfield 18, 3, 0, 2, 1, 56), (.iload_n 1, 1, 0, 0, 0, 0), (.aaload, 1, 0, 0, 0, 0), (.iload_n 2, 1, 0, 0, 0, 0), (.iload 4, 2, 0, 0, 0, 0), (.iastore, 1, 0, 0, 0, 0), (.return_, 1, 0, 0, 0, 0)])]
/-- X2_takeNext -/
def tp_P2 : List (Nat × List tp_Ins) := [(0, [(.aload_n 0, 1, 0, 0, 0, 0), (.getfield 13, 3, 0, 2, 0, 54), (.iload_n 1, 1, 0, 0, 0, 0), (.aaload, 1, 0, 0, 0, 0), (.iload_n 2, 1, 0, 0, 0, 0), (.dup2, 1, 0, 0, 0, 0), (.iaload, 1, 0, 0, 0, 0), (.dup_x2, 1, 0, 0, 0, 0), (.iconst 1, 1, 1, 0, 0, 0), (.iadd, 1, 0, 0, 0, 0), (.iastore, 1, 0, 0, 0, 0), (.ireturn, 1, 0, 0, 0, 0)])]
/-- X2_anyWithOthers -/
def tp_P3 : List (Nat × List tp_Ins) := [(0, [(.iconst 0, 1, 0, 0, 0, 0), (.istore 5, 2, 0, 0, 0, 0)]),
  (3, [(.iload 5, 2, 0, 0, 0, 0), (.bipush 6, 2, 6, 0, 0, 0), (.if_icmp .ge 51, 3, 0, 58, 0, 0), (.iload_n 3, 1, 0, 0, 0, 0), (.aload_n 0, 1, 0, 0, 0, 0), (.getfield 13, 3, 0, 2, 0, 54), (.iload 5, 2, 0, 0, 0, 0), (.aaload, 1, 0, 0, 0, 0), (.iload_n 2, 1, 0, 0, 0, 0), (.iaload, 1, 0, 0, 0, 0), (.invokestatic 21, 3, 0, 900, 2, 281), (.istore 6, 2, 0, 0, 0, 0), (.iload 5, 2, 0, 0, 0, 0), (.iload_n 1, 1, 0, 0, 0, 0), (.if_icmp .eq 24, 3, 0, 52, 0, 0), (.iload 6, 2, 0, 0, 0, 0), (.iload 4, 2, 0, 0, 0, 0), (.aload_n 0, 1, 0, 0, 0, 0), (.getfield 18, 3, 0, 2, 1, 56), (.iload 5, 2, 0, 0, 0, 0), (.aaload, 1, 0, 0, 0, 0), (.iload_n 2, 1, 0, 0, 0, 0), (.iaload, 1, 0, 0, 0, 0), (.invokestatic 27, 3, 0, 901, 2, 284), (.if_icmp .ge 5, 3, 0, 52, 0, 0), (.iconst 1, 1, 1, 0, 0, 0), (.ireturn, 1, 0, 0, 0, 0)]),
  (52, [(.iinc 5 1, 3, 1, 0, 0, 0), (.goto (-52), 3, 0, 3, 0, 0)]),
  (58, [(.iconst 0, 1, 0, 0, 0, 0), (.ireturn, 1, 0, 0, 0, 0)])]
/-- X2_beyond -/
def tp_P4 : List (Nat × List tp_Ins) := [(0, [(.iload_n 2, 1, 0, 0, 0, 0), (.istore_n 3, 1, 0, 0, 0, 0), (.iconst 0, 1, 0, 0, 0, 0), (.istore 4, 2, 0, 0, 0, 0)]),
  (5, [(.iload 4, 2, 0, 0, 0, 0), (.bipush 6, 2, 6, 0, 0, 0), (.if_icmp .ge 45, 3, 0, 54, 0, 0), (.iload_n 3, 1, 0, 0, 0, 0), (.aload_n 0, 1, 0, 0, 0, 0), (.getfield 13, 3, 0, 2, 0, 54), (.iload 4, 2, 0, 0, 0, 0), (.aaload, 1, 0, 0, 0, 0), (.iload_n 1, 1, 0, 0, 0, 0), (.iaload, 1, 0, 0, 0, 0), (.if_icmp .lt 26, 3, 0, 48, 0, 0), (.iload_n 3, 1, 0, 0, 0, 0), (.aload_n 0, 1, 0, 0, 0, 0), (.getfield 18, 3, 0, 2, 1, 56), (.iload 4, 2, 0, 0, 0, 0), (.aaload, 1, 0, 0, 0, 0), (.iload_n 1, 1, 0, 0, 0, 0), (.iaload, 1, 0, 0, 0, 0), (.if_icmp .ge 13, 3, 0, 48, 0, 0), (.aload_n 0, 1, 0, 0, 0, 0), (.getfield 18, 3, 0, 2, 1, 56), (.iload 4, 2, 0, 0, 0, 0), (.aaload, 1, 0, 0, 0, 0), (.iload_n 1, 1, 0, 0, 0, 0), (.iaload, 1, 0, 0, 0, 0), (.istore_n 3, 1, 0, 0, 0, 0)]),
  (48, [(.iinc 4 1, 3, 1, 0, 0, 0), (.goto (-46), 3, 0, 5, 0, 0)]),
  (54, [(.iload_n 3, 1, 0, 0, 0, 0), (.ireturn, 1, 0, 0, 0, 0)])]
/-- X4_isFull -/
def tp_P5 : List (Nat × List tp_Ins) := [(0, [(.aload_n 0, 1, 0, 0, 0, 0), (.getfield 22, 3, 0, 4, 4, 99), (.sipush 200, 3, 200, 0, 0, 0), (.if_icmp .lt 7, 3, 0, 14, 0, 0), (.iconst 1, 1, 1, 0, 0, 0), (.goto 4, 3, 0, 15, 0, 0)]),
  (14, [(.iconst 0, 1, 0, 0, 0, 0)]),
  (15, [(.ireturn, 1, 0, 0, 0, 0)])]
/-- X4_add -/
def tp_P6 : List (Nat × List tp_Ins) := [(0, [(.aload_n 0, 1, 0, 0, 0, 0), (.invokevirtual 26, 3, 0, 5, 1, 428), (.ifCond .eq 4, 3, 0, 8, 0, 0), (.return_, 1, 0, 0, 0, 0)]),
  (8, [(.aload_n 0, 1, 0, 0, 0, 0), (.getfield 9, 3, 0, 4, 0, 91), (.aload_n 0, 1, 0, 0, 0, 0), (.getfield 22, 3, 0, 4, 4, 99), (.iload_n 1, 1, 0, 0, 0, 0), (.iastore, 1, 0, 0, 0, 0), (.aload_n 0, 1, 0, 0, 0, 0), (.getfield 13, 3, 0, 4, 1, 93), (.aload_n 0, 1, 0, 0, 0, 0), (.getfield 22, 3, 0, 4, 4, 99), (.iload_n 2, 1, 0, 0, 0, 0), (.iastore, 1, 0, 0, 0, 0), (.aload_n 0, 1, 0, 0, 0, 0), (.getfield 16, 3, 0, 4, 2, 95), (.aload_n 0, 1, 0, 0, 0, 0), (.getfield 22, 3, 0, 4, 4, 99), (.iload_n 3, 1, 0, 0, 0, 0), (.iastore, 1, 0, 0, 0, 0), (.aload_n 0, 1, 0, 0, 0, 0), (.getfield 19, 3, 0, 4, 3, 97), (.aload_n 0, 1, 0, 0, 0, 0), (.getfield 22, 3, 0, 4, 4, 99), (.iload 4, 2, 0, 0, 0, 0), (.iastore, 1, 0, 0, 0, 0), (.aload_n 0, 1, 0, 0, 0, 0), (.dup, 1, 0, 0, 0, 0), (.getfield 22, 3, 0, 4, 4, 99), (.iconst 1, 1, 1, 0, 0, 0), (.iadd, 1, 0, 0, 0, 0), (.putfield 22, 3, 0, 4, 4, 99), (.return_, 1, 0, 0, 0, 0)])]
/-- X4_latestStep -/
def tp_P7 : List (Nat × List tp_Ins) := [(0, [(.aload_n 0, 1, 0, 0, 0, 0), (.getfield 22, 3, 0, 4, 4, 99), (.iconst 1, 1, 1, 0, 0, 0), (.isub, 1, 0, 0, 0, 0), (.istore_n 2, 1, 0, 0, 0, 0)]),
  (7, [(.iload_n 2, 1, 0, 0, 0, 0), (.ifCond .lt 26, 3, 0, 34, 0, 0), (.aload_n 0, 1, 0, 0, 0, 0), (.getfield 9, 3, 0, 4, 0, 91), (.iload_n 2, 1, 0, 0, 0, 0), (.iaload, 1, 0, 0, 0, 0), (.iload_n 1, 1, 0, 0, 0, 0), (.if_icmp .ne 10, 3, 0, 28, 0, 0), (.aload_n 0, 1, 0, 0, 0, 0), (.getfield 16, 3, 0, 4, 2, 95), (.iload_n 2, 1, 0, 0, 0, 0), (.iaload, 1, 0, 0, 0, 0), (.ireturn, 1, 0, 0, 0, 0)]),
  (28, [(.iinc 2 (-1), 3, -1, 0, 0, 0), (.goto (-24), 3, 0, 7, 0, 0)]),
  (34, [(.iconst 0, 1, 0, 0, 0, 0), (.ireturn, 1, 0, 0, 0, 0)])]
/-- X4_find -/
def tp_P8 : List (Nat × List tp_Ins) := [(0, [(.iconst 0, 1, 0, 0, 0, 0), (.istore_n 3, 1, 0, 0, 0, 0)]),
  (2, [(.iload_n 3, 1, 0, 0, 0, 0), (.aload_n 0, 1, 0, 0, 0, 0), (.getfield 22, 3, 0, 4, 4, 99), (.if_icmp .ge 31, 3, 0, 38, 0, 0), (.aload_n 0, 1, 0, 0, 0, 0), (.getfield 13, 3, 0, 4, 1, 93), (.iload_n 3, 1, 0, 0, 0, 0), (.iaload, 1, 0, 0, 0, 0), (.iload_n 1, 1, 0, 0, 0, 0), (.if_icmp .ne 15, 3, 0, 32, 0, 0), (.aload_n 0, 1, 0, 0, 0, 0), (.getfield 19, 3, 0, 4, 3, 97), (.iload_n 3, 1, 0, 0, 0, 0), (.iaload, 1, 0, 0, 0, 0), (.iload_n 2, 1, 0, 0, 0, 0), (.if_icmp .ne 5, 3, 0, 32, 0, 0), (.iload_n 3, 1, 0, 0, 0, 0), (.ireturn, 1, 0, 0, 0, 0)]),
  (32, [(.iinc 3 1, 3, 1, 0, 0, 0), (.goto (-33), 3, 0, 2, 0, 0)]),
  (38, [(.iconst (-1), 1, -1, 0, 0, 0), (.ireturn, 1, 0, 0, 0, 0)])]
/-- X4_anySold -/
def tp_P9 : List (Nat × List tp_Ins) := [(0, [(.iconst 0, 1, 0, 0, 0, 0), (.istore 4, 2, 0, 0, 0, 0)]),
  (3, [(.iload 4, 2, 0, 0, 0, 0), (.aload_n 0, 1, 0, 0, 0, 0), (.getfield 22, 3, 0, 4, 4, 99), (.if_icmp .ge 44, 3, 0, 53, 0, 0), (.aload_n 0, 1, 0, 0, 0, 0), (.getfield 13, 3, 0, 4, 1, 93), (.iload 4, 2, 0, 0, 0, 0), (.iaload, 1, 0, 0, 0, 0), (.iload_n 1, 1, 0, 0, 0, 0), (.if_icmp .ne 27, 3, 0, 47, 0, 0), (.aload_n 0, 1, 0, 0, 0, 0), (.getfield 19, 3, 0, 4, 3, 97), (.iload 4, 2, 0, 0, 0, 0), (.iaload, 1, 0, 0, 0, 0), (.iload_n 2, 1, 0, 0, 0, 0), (.if_icmp .lt 16, 3, 0, 47, 0, 0), (.aload_n 0, 1, 0, 0, 0, 0), (.getfield 19, 3, 0, 4, 3, 97), (.iload 4, 2, 0, 0, 0, 0), (.iaload, 1, 0, 0, 0, 0), (.iload_n 3, 1, 0, 0, 0, 0), (.if_icmp .ge 5, 3, 0, 47, 0, 0), (.iconst 1, 1, 1, 0, 0, 0), (.ireturn, 1, 0, 0, 0, 0)]),
  (47, [(.iinc 4 1, 3, 1, 0, 0, 0), (.goto (-47), 3, 0, 3, 0, 0)]),
  (53, [(.iconst 0, 1, 0, 0, 0, 0), (.ireturn, 1, 0, 0, 0, 0)])]
/-- X4_beyond -/
def tp_P10 : List (Nat × List tp_Ins) := [(0, [(.iload_n 2, 1, 0, 0, 0, 0), (.istore_n 3, 1, 0, 0, 0, 0), (.iconst 0, 1, 0, 0, 0, 0), (.istore 4, 2, 0, 0, 0, 0)]),
  (5, [(.iload 4, 2, 0, 0, 0, 0), (.aload_n 0, 1, 0, 0, 0, 0), (.getfield 22, 3, 0, 4, 4, 99), (.if_icmp .ge 34, 3, 0, 45, 0, 0), (.aload_n 0, 1, 0, 0, 0, 0), (.getfield 13, 3, 0, 4, 1, 93), (.iload 4, 2, 0, 0, 0, 0), (.iaload, 1, 0, 0, 0, 0), (.iload_n 1, 1, 0, 0, 0, 0), (.if_icmp .ne 17, 3, 0, 39, 0, 0), (.aload_n 0, 1, 0, 0, 0, 0), (.getfield 19, 3, 0, 4, 3, 97), (.iload 4, 2, 0, 0, 0, 0), (.iaload, 1, 0, 0, 0, 0), (.iload_n 3, 1, 0, 0, 0, 0), (.if_icmp .ne 6, 3, 0, 39, 0, 0), (.iinc 3 1, 3, 1, 0, 0, 0)]),
  (39, [(.iinc 4 1, 3, 1, 0, 0, 0), (.goto (-37), 3, 0, 5, 0, 0)]),
  (45, [(.iload_n 3, 1, 0, 0, 0, 0), (.ireturn, 1, 0, 0, 0, 0)])]
/-- X4_greatestSold -/
def tp_P11 : List (Nat × List tp_Ins) := [(0, [(.iconst (-1), 1, -1, 0, 0, 0), (.istore_n 2, 1, 0, 0, 0, 0), (.iconst 0, 1, 0, 0, 0, 0), (.istore_n 3, 1, 0, 0, 0, 0)]),
  (4, [(.iload_n 3, 1, 0, 0, 0, 0), (.aload_n 0, 1, 0, 0, 0, 0), (.getfield 22, 3, 0, 4, 4, 99), (.if_icmp .ge 30, 3, 0, 39, 0, 0), (.aload_n 0, 1, 0, 0, 0, 0), (.getfield 13, 3, 0, 4, 1, 93), (.iload_n 3, 1, 0, 0, 0, 0), (.iaload, 1, 0, 0, 0, 0), (.iload_n 1, 1, 0, 0, 0, 0), (.if_icmp .ne 14, 3, 0, 33, 0, 0), (.iload_n 2, 1, 0, 0, 0, 0), (.aload_n 0, 1, 0, 0, 0, 0), (.getfield 19, 3, 0, 4, 3, 97), (.iload_n 3, 1, 0, 0, 0, 0), (.iaload, 1, 0, 0, 0, 0), (.invokestatic 30, 3, 0, 900, 2, 380), (.istore_n 2, 1, 0, 0, 0, 0)]),
  (33, [(.iinc 3 1, 3, 1, 0, 0, 0), (.goto (-32), 3, 0, 4, 0, 0)]),
  (39, [(.iload_n 2, 1, 0, 0, 0, 0), (.ireturn, 1, 0, 0, 0, 0)])]
/-- X7_has -/
def tp_P12 : List (Nat × List tp_Ins) := [(0, [(.iload_n 1, 1, 0, 0, 0, 0), (.ifCond .lt 15, 3, 0, 16, 0, 0), (.iload_n 1, 1, 0, 0, 0, 0), (.aload_n 0, 1, 0, 0, 0, 0), (.getfield 22, 3, 0, 7, 3, 74), (.if_icmp .ge 7, 3, 0, 16, 0, 0), (.iconst 1, 1, 1, 0, 0, 0), (.goto 4, 3, 0, 17, 0, 0)]),
  (16, [(.iconst 0, 1, 0, 0, 0, 0)]),
  (17, [(.ireturn, 1, 0, 0, 0, 0)])]
/-- X7_add -/
def tp_P13 : List (Nat × List tp_Ins) := [(0, [(.aload_n 0, 1, 0, 0, 0, 0), (.getfield 22, 3, 0, 7, 3, 74), (.bipush 16, 2, 16, 0, 0, 0), (.if_icmp .lt 6, 3, 0, 12, 0, 0), (.bipush (-3), 2, -3, 0, 0, 0), (.ireturn, 1, 0, 0, 0, 0)]),
  (12, [(.aload_n 0, 1, 0, 0, 0, 0), (.getfield 11, 3, 0, 7, 0, 68), (.aload_n 0, 1, 0, 0, 0, 0), (.getfield 22, 3, 0, 7, 3, 74), (.iload_n 1, 1, 0, 0, 0, 0), (.iastore, 1, 0, 0, 0, 0), (.aload_n 0, 1, 0, 0, 0, 0), (.getfield 15, 3, 0, 7, 1, 70), (.aload_n 0, 1, 0, 0, 0, 0), (.getfield 22, 3, 0, 7, 3, 74), (.iload_n 2, 1, 0, 0, 0, 0), (.bastore, 1, 0, 0, 0, 0), (.aload_n 0, 1, 0, 0, 0, 0), (.getfield 19, 3, 0, 7, 2, 72), (.aload_n 0, 1, 0, 0, 0, 0), (.getfield 22, 3, 0, 7, 3, 74), (.iconst 1, 1, 1, 0, 0, 0), (.bastore, 1, 0, 0, 0, 0), (.aload_n 0, 1, 0, 0, 0, 0), (.dup, 1, 0, 0, 0, 0), (.getfield 22, 3, 0, 7, 3, 74), (.dup_x1, 1, 0, 0, 0, 0), (.iconst 1, 1, 1, 0, 0, 0), (.iadd, 1, 0, 0, 0, 0), (.putfield 22, 3, 0, 7, 3, 74), (.ireturn, 1, 0, 0, 0, 0)])]
/-- X7_hasOpen -/
def tp_P14 : List (Nat × List tp_Ins) := [(0, [(.iconst 0, 1, 0, 0, 0, 0), (.istore_n 2, 1, 0, 0, 0, 0)]),
  (2, [(.iload_n 2, 1, 0, 0, 0, 0), (.aload_n 0, 1, 0, 0, 0, 0), (.getfield 22, 3, 0, 7, 3, 74), (.if_icmp .ge 30, 3, 0, 37, 0, 0), (.aload_n 0, 1, 0, 0, 0, 0), (.getfield 19, 3, 0, 7, 2, 72), (.iload_n 2, 1, 0, 0, 0, 0), (.baload, 1, 0, 0, 0, 0), (.ifCond .eq 15, 3, 0, 31, 0, 0), (.aload_n 0, 1, 0, 0, 0, 0), (.getfield 11, 3, 0, 7, 0, 68), (.iload_n 2, 1, 0, 0, 0, 0), (.iaload, 1, 0, 0, 0, 0), (.iload_n 1, 1, 0, 0, 0, 0), (.if_icmp .ne 5, 3, 0, 31, 0, 0), (.iconst 1, 1, 1, 0, 0, 0), (.ireturn, 1, 0, 0, 0, 0)]),
  (31, [(.iinc 2 1, 3, 1, 0, 0, 0), (.goto (-32), 3, 0, 2, 0, 0)]),
  (37, [(.iconst 0, 1, 0, 0, 0, 0), (.ireturn, 1, 0, 0, 0, 0)])]
/-- X7_stepOfStage -/
def tp_P15 : List (Nat × List tp_Ins) := [(0, [(.aload_n 0, 1, 0, 0, 0, 0), (.getfield 15, 3, 0, 7, 1, 70), (.iload_n 1, 1, 0, 0, 0, 0), (.baload, 1, 0, 0, 0, 0), (.ifCond .eq 7, 3, 0, 13, 0, 0), (.iload_n 2, 1, 0, 0, 0, 0), (.goto 7, 3, 0, 17, 0, 0)]),
  (13, [(.bipush 9, 2, 9, 0, 0, 0), (.iload_n 2, 1, 0, 0, 0, 0), (.isub, 1, 0, 0, 0, 0)]),
  (17, [(.ireturn, 1, 0, 0, 0, 0)])]
/-- X7_stepOfSection -/
def tp_P16 : List (Nat × List tp_Ins) := [(0, [(.aload_n 0, 1, 0, 0, 0, 0), (.getfield 15, 3, 0, 7, 1, 70), (.iload_n 1, 1, 0, 0, 0, 0), (.baload, 1, 0, 0, 0, 0), (.ifCond .eq 7, 3, 0, 13, 0, 0), (.iload_n 2, 1, 0, 0, 0, 0), (.goto 7, 3, 0, 17, 0, 0)]),
  (13, [(.bipush 8, 2, 8, 0, 0, 0), (.iload_n 2, 1, 0, 0, 0, 0), (.isub, 1, 0, 0, 0, 0)]),
  (17, [(.ireturn, 1, 0, 0, 0, 0)])]
/-- X8_has -/
def tp_P17 : List (Nat × List tp_Ins) := [(0, [(.iload_n 1, 1, 0, 0, 0, 0), (.ifCond .lt 15, 3, 0, 16, 0, 0), (.iload_n 1, 1, 0, 0, 0, 0), (.aload_n 0, 1, 0, 0, 0, 0), (.getfield 18, 3, 0, 8, 2, 37), (.if_icmp .ge 7, 3, 0, 16, 0, 0), (.iconst 1, 1, 1, 0, 0, 0), (.goto 4, 3, 0, 17, 0, 0)]),
  (16, [(.iconst 0, 1, 0, 0, 0, 0)]),
  (17, [(.ireturn, 1, 0, 0, 0, 0)])]
/-- X8_add -/
def tp_P18 : List (Nat × List tp_Ins) := [(0, [(.aload_n 0, 1, 0, 0, 0, 0), (.getfield 18, 3, 0, 8, 2, 37), (.iconst 5, 1, 5, 0, 0, 0), (.if_icmp .lt 6, 3, 0, 11, 0, 0), (.bipush (-3), 2, -3, 0, 0, 0), (.ireturn, 1, 0, 0, 0, 0)]),
  (11, [(.aload_n 0, 1, 0, 0, 0, 0), (.getfield 11, 3, 0, 8, 0, 33), (.aload_n 0, 1, 0, 0, 0, 0), (.getfield 18, 3, 0, 8, 2, 37), (.iload_n 1, 1, 0, 0, 0, 0), (.iastore, 1, 0, 0, 0, 0), (.aload_n 0, 1, 0, 0, 0, 0), (.getfield 15, 3, 0, 8, 1, 35), (.aload_n 0, 1, 0, 0, 0, 0), (.getfield 18, 3, 0, 8, 2, 37), (.iload_n 2, 1, 0, 0, 0, 0), (.iastore, 1, 0, 0, 0, 0), (.aload_n 0, 1, 0, 0, 0, 0), (.dup, 1, 0, 0, 0, 0), (.getfield 18, 3, 0, 8, 2, 37), (.dup_x1, 1, 0, 0, 0, 0), (.iconst 1, 1, 1, 0, 0, 0), (.iadd, 1, 0, 0, 0, 0), (.putfield 18, 3, 0, 8, 2, 37), (.ireturn, 1, 0, 0, 0, 0)])]
/-- X9_type -/
def tp_P19 : List (Nat × List tp_Ins) := [(0, [(.iload_n 1, 1, 0, 0, 0, 0), (.iconst 1, 1, 1, 0, 0, 0), (.bipush 60, 2, 60, 0, 0, 0), (.invokestatic 58, 3, 0, 32, 3, 253), (.ifCond .ne 13, 3, 0, 20, 0, 0), (.iload_n 2, 1, 0, 0, 0, 0), (.iconst 1, 1, 1, 0, 0, 0), (.bipush 9, 2, 9, 0, 0, 0), (.invokestatic 58, 3, 0, 32, 3, 253), (.ifCond .eq 5, 3, 0, 22, 0, 0)]),
  (20, [(.iconst (-1), 1, -1, 0, 0, 0), (.ireturn, 1, 0, 0, 0, 0)]),
  (22, [(.aload_n 0, 1, 0, 0, 0, 0), (.getfield 10, 3, 0, 9, 0, 227), (.iload_n 1, 1, 0, 0, 0, 0), (.iload_n 2, 1, 0, 0, 0, 0), (.invokevirtual 62, 3, 0, 18, 3, 256), (.ireturn, 1, 0, 0, 0, 0)])]
/-- X9_issue -/
def tp_P20 : List (Nat × List tp_Ins) := [(0, [(.aload_n 0, 1, 0, 0, 0, 0), (.iload_n 1, 1, 0, 0, 0, 0), (.iload_n 2, 1, 0, 0, 0, 0), (.invokevirtual 66, 3, 0, 33, 3, 264), (.ifCond .eq 25, 3, 0, 31, 0, 0), (.iload_n 3, 1, 0, 0, 0, 0), (.iconst 0, 1, 0, 0, 0, 0), (.ldc 70, 2, 100000, 0, 0, 272), (.invokestatic 58, 3, 0, 32, 3, 253), (.ifCond .ne 15, 3, 0, 31, 0, 0), (.iload 4, 2, 0, 0, 0, 0), (.iconst 0, 1, 0, 0, 0, 0), (.sipush 1000, 3, 1000, 0, 0, 0), (.invokestatic 58, 3, 0, 32, 3, 253), (.ifCond .eq 5, 3, 0, 33, 0, 0)]),
  (31, [(.iconst (-1), 1, -1, 0, 0, 0), (.ireturn, 1, 0, 0, 0, 0)]),
  (33, [(.aload_n 0, 1, 0, 0, 0, 0), (.getfield 33, 3, 0, 9, 3, 230), (.iload_n 2, 1, 0, 0, 0, 0), (.iload_n 3, 1, 0, 0, 0, 0), (.iload_n 3, 1, 0, 0, 0, 0), (.iload 4, 2, 0, 0, 0, 0), (.iadd, 1, 0, 0, 0, 0), (.invokevirtual 71, 3, 0, 9, 4, 273), (.ifCond .ne 20, 3, 0, 66, 0, 0), (.aload_n 0, 1, 0, 0, 0, 0), (.getfield 19, 3, 0, 9, 1, 228), (.iload_n 1, 1, 0, 0, 0, 0), (.iload_n 2, 1, 0, 0, 0, 0), (.iload_n 3, 1, 0, 0, 0, 0), (.iload_n 3, 1, 0, 0, 0, 0), (.iload 4, 2, 0, 0, 0, 0), (.iadd, 1, 0, 0, 0, 0), (.invokevirtual 74, 3, 0, 3, 5, 277), (.ifCond .eq 6, 3, 0, 69, 0, 0)]),
  (66, [(.bipush (-2), 2, -2, 0, 0, 0), (.ireturn, 1, 0, 0, 0, 0)]),
  (69, [(.aload_n 0, 1, 0, 0, 0, 0), (.getfield 19, 3, 0, 9, 1, 228), (.iload_n 1, 1, 0, 0, 0, 0), (.iload_n 2, 1, 0, 0, 0, 0), (.invokevirtual 78, 3, 0, 0, 3, 287), (.istore 5, 2, 0, 0, 0, 0), (.aload_n 0, 1, 0, 0, 0, 0), (.getfield 19, 3, 0, 9, 1, 228), (.iload_n 1, 1, 0, 0, 0, 0), (.iload_n 2, 1, 0, 0, 0, 0), (.iload_n 3, 1, 0, 0, 0, 0), (.iload_n 3, 1, 0, 0, 0, 0), (.iload 4, 2, 0, 0, 0, 0), (.iadd, 1, 0, 0, 0, 0), (.invokevirtual 81, 3, 0, 1, 5, 291), (.iload 5, 2, 0, 0, 0, 0), (.ireturn, 1, 0, 0, 0, 0)])]
/-- X9_pack -/
def tp_P21 : List (Nat × List tp_Ins) := [(0, [(.aload_n 0, 1, 0, 0, 0, 0), (.iload_n 1, 1, 0, 0, 0, 0), (.iload_n 2, 1, 0, 0, 0, 0), (.invokevirtual 66, 3, 0, 33, 3, 264), (.ifCond .eq 12, 3, 0, 18, 0, 0), (.iload_n 3, 1, 0, 0, 0, 0), (.iconst 0, 1, 0, 0, 0, 0), (.iconst 1, 1, 1, 0, 0, 0), (.invokestatic 58, 3, 0, 32, 3, 253), (.ifCond .eq 5, 3, 0, 20, 0, 0)]),
  (18, [(.iconst (-1), 1, -1, 0, 0, 0), (.ireturn, 1, 0, 0, 0, 0)]),
  (20, [(.aload_n 0, 1, 0, 0, 0, 0), (.getfield 19, 3, 0, 9, 1, 228), (.iload_n 1, 1, 0, 0, 0, 0), (.iload_n 2, 1, 0, 0, 0, 0), (.invokevirtual 78, 3, 0, 0, 3, 287), (.istore 4, 2, 0, 0, 0, 0), (.iload_n 3, 1, 0, 0, 0, 0), (.iconst 1, 1, 1, 0, 0, 0), (.if_icmp .ne 6, 3, 0, 39, 0, 0), (.iload 4, 2, 0, 0, 0, 0), (.ireturn, 1, 0, 0, 0, 0)]),
  (39, [(.iload 4, 2, 0, 0, 0, 0), (.ifCond .ne 8, 3, 0, 49, 0, 0), (.bipush (-4), 2, -4, 0, 0, 0), (.goto 14, 3, 0, 60, 0, 0)]),
  (49, [(.aload_n 0, 1, 0, 0, 0, 0), (.getfield 19, 3, 0, 9, 1, 228), (.getfield 85, 3, 0, 2, 0, 55), (.iload_n 1, 1, 0, 0, 0, 0), (.aaload, 1, 0, 0, 0, 0), (.iload_n 2, 1, 0, 0, 0, 0), (.iaload, 1, 0, 0, 0, 0)]),
  (60, [(.ireturn, 1, 0, 0, 0, 0)])]
/-- X9_trip -/
def tp_P22 : List (Nat × List tp_Ins) := [(0, [(.iload_n 1, 1, 0, 0, 0, 0), (.iconst 0, 1, 0, 0, 0, 0), (.iconst 5, 1, 5, 0, 0, 0), (.invokestatic 58, 3, 0, 32, 3, 253), (.ifCond .eq 5, 3, 0, 11, 0, 0), (.iconst (-1), 1, -1, 0, 0, 0), (.ireturn, 1, 0, 0, 0, 0)]),
  (11, [(.aload_n 0, 1, 0, 0, 0, 0), (.getfield 26, 3, 0, 9, 2, 229), (.iload_n 1, 1, 0, 0, 0, 0), (.invokevirtual 89, 3, 0, 14, 2, 303), (.ifCond .eq 8, 3, 0, 27, 0, 0), (.bipush (-2), 2, -2, 0, 0, 0), (.goto 12, 3, 0, 36, 0, 0)]),
  (27, [(.aload_n 0, 1, 0, 0, 0, 0), (.getfield 26, 3, 0, 9, 2, 229), (.iload_n 1, 1, 0, 0, 0, 0), (.iload_n 2, 1, 0, 0, 0, 0), (.invokevirtual 93, 3, 0, 13, 3, 307)]),
  (36, [(.ireturn, 1, 0, 0, 0, 0)])]
/-- X9_close -/
def tp_P23 : List (Nat × List tp_Ins) := [(0, [(.aload_n 0, 1, 0, 0, 0, 0), (.getfield 26, 3, 0, 9, 2, 229), (.iload_n 1, 1, 0, 0, 0, 0), (.invokevirtual 96, 3, 0, 12, 2, 315), (.ifCond .ne 5, 3, 0, 13, 0, 0), (.iconst (-1), 1, -1, 0, 0, 0), (.ireturn, 1, 0, 0, 0, 0)]),
  (13, [(.aload_n 0, 1, 0, 0, 0, 0), (.getfield 26, 3, 0, 9, 2, 229), (.getfield 99, 3, 0, 7, 2, 73), (.iload_n 1, 1, 0, 0, 0, 0), (.baload, 1, 0, 0, 0, 0), (.ifCond .ne 6, 3, 0, 28, 0, 0), (.bipush (-2), 2, -2, 0, 0, 0), (.ireturn, 1, 0, 0, 0, 0)]),
  (28, [(.aload_n 0, 1, 0, 0, 0, 0), (.getfield 26, 3, 0, 9, 2, 229), (.getfield 99, 3, 0, 7, 2, 73), (.iload_n 1, 1, 0, 0, 0, 0), (.iconst 0, 1, 0, 0, 0, 0), (.bastore, 1, 0, 0, 0, 0), (.aload_n 0, 1, 0, 0, 0, 0), (.iload_n 1, 1, 0, 0, 0, 0), (.invokevirtual 103, 3, 0, 34, 2, 319), (.ireturn, 1, 0, 0, 0, 0)])]
/-- X9_sell -/
def tp_P24 : List (Nat × List tp_Ins) := [(0, [(.aload_n 0, 1, 0, 0, 0, 0), (.getfield 26, 3, 0, 9, 2, 229), (.iload_n 1, 1, 0, 0, 0, 0), (.invokevirtual 96, 3, 0, 12, 2, 315), (.ifCond .eq 24, 3, 0, 32, 0, 0), (.aload_n 0, 1, 0, 0, 0, 0), (.getfield 10, 3, 0, 9, 0, 227), (.iload_n 2, 1, 0, 0, 0, 0), (.invokevirtual 107, 3, 0, 17, 2, 268), (.ifCond .eq 13, 3, 0, 32, 0, 0), (.iload_n 3, 1, 0, 0, 0, 0), (.iconst 0, 1, 0, 0, 0, 0), (.bipush 9, 2, 9, 0, 0, 0), (.invokestatic 58, 3, 0, 32, 3, 253), (.ifCond .eq 5, 3, 0, 34, 0, 0)]),
  (32, [(.iconst (-1), 1, -1, 0, 0, 0), (.ireturn, 1, 0, 0, 0, 0)]),
  (34, [(.aload_n 0, 1, 0, 0, 0, 0), (.getfield 26, 3, 0, 9, 2, 229), (.iload_n 1, 1, 0, 0, 0, 0), (.iload_n 3, 1, 0, 0, 0, 0), (.invokevirtual 108, 3, 0, 15, 3, 408), (.istore 4, 2, 0, 0, 0, 0), (.aload_n 0, 1, 0, 0, 0, 0), (.getfield 26, 3, 0, 9, 2, 229), (.getfield 99, 3, 0, 7, 2, 73), (.iload_n 1, 1, 0, 0, 0, 0), (.baload, 1, 0, 0, 0, 0), (.ifCond .eq 23, 3, 0, 77, 0, 0), (.iload 4, 2, 0, 0, 0, 0), (.aload_n 0, 1, 0, 0, 0, 0), (.getfield 33, 3, 0, 9, 3, 230), (.iload_n 1, 1, 0, 0, 0, 0), (.invokevirtual 111, 3, 0, 7, 2, 412), (.if_icmp .lt 10, 3, 0, 77, 0, 0), (.iload 4, 2, 0, 0, 0, 0), (.bipush 9, 2, 9, 0, 0, 0), (.if_icmp .ne 6, 3, 0, 80, 0, 0)]),
  (77, [(.bipush (-2), 2, -2, 0, 0, 0), (.ireturn, 1, 0, 0, 0, 0)]),
  (80, [(.aload_n 0, 1, 0, 0, 0, 0), (.getfield 33, 3, 0, 9, 3, 230), (.invokevirtual 114, 3, 0, 5, 1, 416), (.ifCond .eq 6, 3, 0, 93, 0, 0), (.bipush (-3), 2, -3, 0, 0, 0), (.ireturn, 1, 0, 0, 0, 0)]),
  (93, [(.aload_n 0, 1, 0, 0, 0, 0), (.getfield 26, 3, 0, 9, 2, 229), (.getfield 118, 3, 0, 7, 0, 69), (.iload_n 1, 1, 0, 0, 0, 0), (.iaload, 1, 0, 0, 0, 0), (.istore 5, 2, 0, 0, 0, 0), (.aload_n 0, 1, 0, 0, 0, 0), (.getfield 19, 3, 0, 9, 1, 228), (.iload 5, 2, 0, 0, 0, 0), (.iload_n 2, 1, 0, 0, 0, 0), (.invokevirtual 78, 3, 0, 0, 3, 287), (.ifCond .ne 6, 3, 0, 120, 0, 0), (.bipush (-4), 2, -4, 0, 0, 0), (.ireturn, 1, 0, 0, 0, 0)]),
  (120, [(.aload_n 0, 1, 0, 0, 0, 0), (.getfield 19, 3, 0, 9, 1, 228), (.iload 5, 2, 0, 0, 0, 0), (.iload_n 2, 1, 0, 0, 0, 0), (.invokevirtual 122, 3, 0, 2, 3, 420), (.istore 6, 2, 0, 0, 0, 0), (.aload_n 0, 1, 0, 0, 0, 0), (.getfield 33, 3, 0, 9, 3, 230), (.iload_n 1, 1, 0, 0, 0, 0), (.iload_n 2, 1, 0, 0, 0, 0), (.iload 4, 2, 0, 0, 0, 0), (.iload 6, 2, 0, 0, 0, 0), (.invokevirtual 125, 3, 0, 6, 5, 424), (.iload 6, 2, 0, 0, 0, 0), (.ireturn, 1, 0, 0, 0, 0)])]
/-- X9_undo -/
def tp_P25 : List (Nat × List tp_Ins) := [(0, [(.aload_n 0, 1, 0, 0, 0, 0), (.getfield 33, 3, 0, 9, 3, 230), (.getfield 127, 3, 0, 4, 4, 100), (.ifCond .ne 6, 3, 0, 13, 0, 0), (.bipush (-4), 2, -4, 0, 0, 0), (.ireturn, 1, 0, 0, 0, 0)]),
  (13, [(.aload_n 0, 1, 0, 0, 0, 0), (.getfield 33, 3, 0, 9, 3, 230), (.getfield 127, 3, 0, 4, 4, 100), (.iconst 1, 1, 1, 0, 0, 0), (.isub, 1, 0, 0, 0, 0), (.istore_n 1, 1, 0, 0, 0, 0), (.aload_n 0, 1, 0, 0, 0, 0), (.getfield 33, 3, 0, 9, 3, 230), (.getfield 131, 3, 0, 4, 0, 92), (.iload_n 1, 1, 0, 0, 0, 0), (.iaload, 1, 0, 0, 0, 0), (.istore_n 2, 1, 0, 0, 0, 0), (.aload_n 0, 1, 0, 0, 0, 0), (.getfield 19, 3, 0, 9, 1, 228), (.getfield 85, 3, 0, 2, 0, 55), (.aload_n 0, 1, 0, 0, 0, 0), (.getfield 26, 3, 0, 9, 2, 229), (.getfield 118, 3, 0, 7, 0, 69), (.iload_n 2, 1, 0, 0, 0, 0), (.iaload, 1, 0, 0, 0, 0), (.aaload, 1, 0, 0, 0, 0), (.aload_n 0, 1, 0, 0, 0, 0), (.getfield 33, 3, 0, 9, 3, 230), (.getfield 134, 3, 0, 4, 1, 94), (.iload_n 1, 1, 0, 0, 0, 0), (.iaload, 1, 0, 0, 0, 0), (.iaload, 1, 0, 0, 0, 0), (.istore_n 3, 1, 0, 0, 0, 0), (.aload_n 0, 1, 0, 0, 0, 0), (.getfield 26, 3, 0, 9, 2, 229), (.getfield 99, 3, 0, 7, 2, 73), (.iload_n 2, 1, 0, 0, 0, 0), (.baload, 1, 0, 0, 0, 0), (.ifCond .eq 18, 3, 0, 88, 0, 0), (.aload_n 0, 1, 0, 0, 0, 0), (.getfield 33, 3, 0, 9, 3, 230), (.getfield 137, 3, 0, 4, 3, 98), (.iload_n 1, 1, 0, 0, 0, 0), (.iaload, 1, 0, 0, 0, 0), (.iload_n 3, 1, 0, 0, 0, 0), (.iconst 1, 1, 1, 0, 0, 0), (.isub, 1, 0, 0, 0, 0), (.if_icmp .eq 6, 3, 0, 91, 0, 0)]),
  (88, [(.bipush (-2), 2, -2, 0, 0, 0), (.ireturn, 1, 0, 0, 0, 0)]),
  (91, [(.aload_n 0, 1, 0, 0, 0, 0), (.invokevirtual 140, 3, 0, 38, 1, 327), (.aload_n 0, 1, 0, 0, 0, 0), (.getfield 33, 3, 0, 9, 3, 230), (.getfield 127, 3, 0, 4, 4, 100), (.ireturn, 1, 0, 0, 0, 0)])]
/-- X9_money -/
def tp_P26 : List (Nat × List tp_Ins) := [(0, [(.aload_n 0, 1, 0, 0, 0, 0), (.getfield 26, 3, 0, 9, 2, 229), (.iload_n 1, 1, 0, 0, 0, 0), (.invokevirtual 96, 3, 0, 12, 2, 315), (.ifCond .eq 11, 3, 0, 19, 0, 0), (.aload_n 0, 1, 0, 0, 0, 0), (.iload_n 1, 1, 0, 0, 0, 0), (.invokevirtual 103, 3, 0, 34, 2, 319), (.goto 4, 3, 0, 20, 0, 0)]),
  (19, [(.iconst (-1), 1, -1, 0, 0, 0)]),
  (20, [(.ireturn, 1, 0, 0, 0, 0)])]
/-- X9_aboard -/
def tp_P27 : List (Nat × List tp_Ins) := [(0, [(.aload_n 0, 1, 0, 0, 0, 0), (.getfield 26, 3, 0, 9, 2, 229), (.iload_n 1, 1, 0, 0, 0, 0), (.invokevirtual 96, 3, 0, 12, 2, 315), (.ifCond .eq 22, 3, 0, 30, 0, 0), (.iload_n 2, 1, 0, 0, 0, 0), (.iconst 0, 1, 0, 0, 0, 0), (.bipush 8, 2, 8, 0, 0, 0), (.invokestatic 58, 3, 0, 32, 3, 253), (.ifCond .ne 12, 3, 0, 30, 0, 0), (.iload_n 3, 1, 0, 0, 0, 0), (.iconst 0, 1, 0, 0, 0, 0), (.iconst 1, 1, 1, 0, 0, 0), (.invokestatic 58, 3, 0, 32, 3, 253), (.ifCond .eq 5, 3, 0, 32, 0, 0)]),
  (30, [(.iconst (-1), 1, -1, 0, 0, 0), (.ireturn, 1, 0, 0, 0, 0)]),
  (32, [(.aload_n 0, 1, 0, 0, 0, 0), (.iload_n 1, 1, 0, 0, 0, 0), (.iload_n 2, 1, 0, 0, 0, 0), (.iload_n 3, 1, 0, 0, 0, 0), (.invokevirtual 178, 3, 0, 35, 4, 339), (.ireturn, 1, 0, 0, 0, 0)])]
/-- X9_riders -/
def tp_P28 : List (Nat × List tp_Ins) := [(0, [(.iload_n 2, 1, 0, 0, 0, 0), (.iconst 0, 1, 0, 0, 0, 0), (.bipush 8, 2, 8, 0, 0, 0), (.invokestatic 58, 3, 0, 32, 3, 253), (.ifCond .ne 12, 3, 0, 19, 0, 0), (.iload_n 3, 1, 0, 0, 0, 0), (.iconst 0, 1, 0, 0, 0, 0), (.iconst 1, 1, 1, 0, 0, 0), (.invokestatic 58, 3, 0, 32, 3, 253), (.ifCond .eq 5, 3, 0, 21, 0, 0)]),
  (19, [(.iconst (-1), 1, -1, 0, 0, 0), (.ireturn, 1, 0, 0, 0, 0)]),
  (21, [(.iconst 0, 1, 0, 0, 0, 0), (.istore 4, 2, 0, 0, 0, 0), (.iconst 0, 1, 0, 0, 0, 0), (.istore 5, 2, 0, 0, 0, 0)]),
  (27, [(.iload 5, 2, 0, 0, 0, 0), (.aload_n 0, 1, 0, 0, 0, 0), (.getfield 33, 3, 0, 9, 3, 230), (.getfield 127, 3, 0, 4, 4, 100), (.if_icmp .ge 45, 3, 0, 81, 0, 0), (.aload_n 0, 1, 0, 0, 0, 0), (.getfield 26, 3, 0, 9, 2, 229), (.getfield 182, 3, 0, 7, 1, 71), (.aload_n 0, 1, 0, 0, 0, 0), (.getfield 33, 3, 0, 9, 3, 230), (.getfield 131, 3, 0, 4, 0, 92), (.iload 5, 2, 0, 0, 0, 0), (.iaload, 1, 0, 0, 0, 0), (.baload, 1, 0, 0, 0, 0), (.iload_n 1, 1, 0, 0, 0, 0), (.if_icmp .ne 17, 3, 0, 75, 0, 0), (.aload_n 0, 1, 0, 0, 0, 0), (.iload 5, 2, 0, 0, 0, 0), (.iload_n 2, 1, 0, 0, 0, 0), (.iload_n 3, 1, 0, 0, 0, 0), (.invokevirtual 185, 3, 0, 36, 4, 343), (.ifCond .eq 6, 3, 0, 75, 0, 0), (.iinc 4 1, 3, 1, 0, 0, 0)]),
  (75, [(.iinc 5 1, 3, 1, 0, 0, 0), (.goto (-51), 3, 0, 27, 0, 0)]),
  (81, [(.iload 4, 2, 0, 0, 0, 0), (.ireturn, 1, 0, 0, 0, 0)])]
/-- X9_shown -/
def tp_P29 : List (Nat × List tp_Ins) := [(0, [(.aload_n 0, 1, 0, 0, 0, 0), (.getfield 26, 3, 0, 9, 2, 229), (.iload_n 1, 1, 0, 0, 0, 0), (.invokevirtual 96, 3, 0, 12, 2, 315), (.ifCond .eq 29, 3, 0, 37, 0, 0), (.iload_n 2, 1, 0, 0, 0, 0), (.iconst 0, 1, 0, 0, 0, 0), (.bipush 8, 2, 8, 0, 0, 0), (.invokestatic 58, 3, 0, 32, 3, 253), (.ifCond .ne 19, 3, 0, 37, 0, 0), (.aload_n 0, 1, 0, 0, 0, 0), (.getfield 10, 3, 0, 9, 0, 227), (.iload_n 3, 1, 0, 0, 0, 0), (.invokevirtual 107, 3, 0, 17, 2, 268), (.ifCond .eq 8, 3, 0, 37, 0, 0), (.iload 4, 2, 0, 0, 0, 0), (.ifCond .ge 5, 3, 0, 39, 0, 0)]),
  (37, [(.iconst (-1), 1, -1, 0, 0, 0), (.ireturn, 1, 0, 0, 0, 0)]),
  (39, [(.aload_n 0, 1, 0, 0, 0, 0), (.getfield 33, 3, 0, 9, 3, 230), (.iload_n 3, 1, 0, 0, 0, 0), (.iload 4, 2, 0, 0, 0, 0), (.invokevirtual 188, 3, 0, 8, 3, 363), (.istore 5, 2, 0, 0, 0, 0), (.iload 5, 2, 0, 0, 0, 0), (.ifCond .ge 5, 3, 0, 58, 0, 0), (.iconst 1, 1, 1, 0, 0, 0), (.ireturn, 1, 0, 0, 0, 0)]),
  (58, [(.aload_n 0, 1, 0, 0, 0, 0), (.getfield 33, 3, 0, 9, 3, 230), (.getfield 131, 3, 0, 4, 0, 92), (.iload 5, 2, 0, 0, 0, 0), (.iaload, 1, 0, 0, 0, 0), (.iload_n 1, 1, 0, 0, 0, 0), (.if_icmp .eq 5, 3, 0, 74, 0, 0), (.iconst 2, 1, 2, 0, 0, 0), (.ireturn, 1, 0, 0, 0, 0)]),
  (74, [(.aload_n 0, 1, 0, 0, 0, 0), (.getfield 26, 3, 0, 9, 2, 229), (.iload_n 1, 1, 0, 0, 0, 0), (.iload_n 2, 1, 0, 0, 0, 0), (.invokevirtual 191, 3, 0, 16, 3, 347), (.istore 6, 2, 0, 0, 0, 0), (.aload_n 0, 1, 0, 0, 0, 0), (.getfield 33, 3, 0, 9, 3, 230), (.getfield 194, 3, 0, 4, 2, 96), (.iload 5, 2, 0, 0, 0, 0), (.iaload, 1, 0, 0, 0, 0), (.iload 6, 2, 0, 0, 0, 0), (.if_icmp .le 5, 3, 0, 102, 0, 0), (.iconst 3, 1, 3, 0, 0, 0), (.ireturn, 1, 0, 0, 0, 0)]),
  (102, [(.aload_n 0, 1, 0, 0, 0, 0), (.iload 5, 2, 0, 0, 0, 0), (.iload 6, 2, 0, 0, 0, 0), (.invokevirtual 197, 3, 0, 37, 3, 351), (.ifCond .eq 7, 3, 0, 117, 0, 0), (.iconst 0, 1, 0, 0, 0, 0), (.goto 4, 3, 0, 118, 0, 0)]),
  (117, [(.iconst 4, 1, 4, 0, 0, 0)]),
  (118, [(.ireturn, 1, 0, 0, 0, 0)])]
/-- X9_heads -/
def tp_P30 : List (Nat × List tp_Ins) := [(0, [(.aload_n 0, 1, 0, 0, 0, 0), (.getfield 26, 3, 0, 9, 2, 229), (.iload_n 1, 1, 0, 0, 0, 0), (.invokevirtual 96, 3, 0, 12, 2, 315), (.ifCond .eq 24, 3, 0, 32, 0, 0), (.iload_n 2, 1, 0, 0, 0, 0), (.iconst 0, 1, 0, 0, 0, 0), (.bipush 8, 2, 8, 0, 0, 0), (.invokestatic 58, 3, 0, 32, 3, 253), (.ifCond .ne 14, 3, 0, 32, 0, 0), (.iload_n 3, 1, 0, 0, 0, 0), (.iconst 0, 1, 0, 0, 0, 0), (.sipush 1000, 3, 1000, 0, 0, 0), (.invokestatic 58, 3, 0, 32, 3, 253), (.ifCond .eq 6, 3, 0, 35, 0, 0)]),
  (32, [(.ldc 176, 2, -1000000, 0, 0, 371), (.ireturn, 1, 0, 0, 0, 0)]),
  (35, [(.aload_n 0, 1, 0, 0, 0, 0), (.iload_n 1, 1, 0, 0, 0, 0), (.iload_n 2, 1, 0, 0, 0, 0), (.iconst 1, 1, 1, 0, 0, 0), (.invokevirtual 178, 3, 0, 35, 4, 339), (.istore 4, 2, 0, 0, 0, 0), (.iload_n 3, 1, 0, 0, 0, 0), (.iload 4, 2, 0, 0, 0, 0), (.if_icmp .le 8, 3, 0, 55, 0, 0), (.iload_n 3, 1, 0, 0, 0, 0), (.iload 4, 2, 0, 0, 0, 0), (.isub, 1, 0, 0, 0, 0), (.ireturn, 1, 0, 0, 0, 0)]),
  (55, [(.aload_n 0, 1, 0, 0, 0, 0), (.iload_n 1, 1, 0, 0, 0, 0), (.iload_n 2, 1, 0, 0, 0, 0), (.iconst 0, 1, 0, 0, 0, 0), (.invokevirtual 178, 3, 0, 35, 4, 339), (.istore 5, 2, 0, 0, 0, 0), (.iload_n 3, 1, 0, 0, 0, 0), (.iload 5, 2, 0, 0, 0, 0), (.if_icmp .ge 10, 3, 0, 77, 0, 0), (.iload_n 3, 1, 0, 0, 0, 0), (.iload 5, 2, 0, 0, 0, 0), (.isub, 1, 0, 0, 0, 0), (.goto 4, 3, 0, 78, 0, 0)]),
  (77, [(.iconst 0, 1, 0, 0, 0, 0)]),
  (78, [(.ireturn, 1, 0, 0, 0, 0)])]
/-- X9_gap -/
def tp_P31 : List (Nat × List tp_Ins) := [(0, [(.aload_n 0, 1, 0, 0, 0, 0), (.getfield 10, 3, 0, 9, 0, 227), (.iload_n 1, 1, 0, 0, 0, 0), (.invokevirtual 107, 3, 0, 17, 2, 268), (.ifCond .ne 5, 3, 0, 13, 0, 0), (.iconst (-1), 1, -1, 0, 0, 0), (.ireturn, 1, 0, 0, 0, 0)]),
  (13, [(.aload_n 0, 1, 0, 0, 0, 0), (.getfield 33, 3, 0, 9, 3, 230), (.iload_n 1, 1, 0, 0, 0, 0), (.invokevirtual 200, 3, 0, 11, 2, 376), (.istore_n 2, 1, 0, 0, 0, 0), (.iconst 0, 1, 0, 0, 0, 0), (.istore_n 3, 1, 0, 0, 0, 0), (.iconst 0, 1, 0, 0, 0, 0), (.istore 4, 2, 0, 0, 0, 0)]),
  (27, [(.iload 4, 2, 0, 0, 0, 0), (.sipush 206, 3, 206, 0, 0, 0), (.if_icmp .gt 33, 3, 0, 65, 0, 0), (.iload_n 3, 1, 0, 0, 0, 0), (.iload_n 2, 1, 0, 0, 0, 0), (.if_icmp .ge 28, 3, 0, 65, 0, 0), (.aload_n 0, 1, 0, 0, 0, 0), (.iload_n 1, 1, 0, 0, 0, 0), (.iload_n 3, 1, 0, 0, 0, 0), (.invokevirtual 203, 3, 0, 39, 3, 381), (.istore 5, 2, 0, 0, 0, 0), (.iload 5, 2, 0, 0, 0, 0), (.iload_n 3, 1, 0, 0, 0, 0), (.if_icmp .ne 5, 3, 0, 56, 0, 0), (.iload_n 3, 1, 0, 0, 0, 0), (.ireturn, 1, 0, 0, 0, 0)]),
  (56, [(.iload 5, 2, 0, 0, 0, 0), (.istore_n 3, 1, 0, 0, 0, 0), (.iinc 4 1, 3, 1, 0, 0, 0), (.goto (-35), 3, 0, 27, 0, 0)]),
  (65, [(.bipush (-4), 2, -4, 0, 0, 0), (.ireturn, 1, 0, 0, 0, 0)])]
/-- X9_isOutside -/
def tp_P32 : List (Nat × List tp_Ins) := [(0, [(.iload_n 0, 1, 0, 0, 0, 0), (.iload_n 1, 1, 0, 0, 0, 0), (.if_icmp .lt 8, 3, 0, 10, 0, 0), (.iload_n 0, 1, 0, 0, 0, 0), (.iload_n 2, 1, 0, 0, 0, 0), (.if_icmp .le 7, 3, 0, 14, 0, 0)]),
  (10, [(.iconst 1, 1, 1, 0, 0, 0), (.goto 4, 3, 0, 15, 0, 0)]),
  (14, [(.iconst 0, 1, 0, 0, 0, 0)]),
  (15, [(.ireturn, 1, 0, 0, 0, 0)])]
/-- X9_hasPack -/
def tp_P33 : List (Nat × List tp_Ins) := [(0, [(.iload_n 1, 1, 0, 0, 0, 0), (.iconst 0, 1, 0, 0, 0, 0), (.iconst 5, 1, 5, 0, 0, 0), (.invokestatic 58, 3, 0, 32, 3, 253), (.ifCond .ne 18, 3, 0, 24, 0, 0), (.aload_n 0, 1, 0, 0, 0, 0), (.getfield 10, 3, 0, 9, 0, 227), (.iload_n 2, 1, 0, 0, 0, 0), (.invokevirtual 107, 3, 0, 17, 2, 268), (.ifCond .eq 7, 3, 0, 24, 0, 0), (.iconst 1, 1, 1, 0, 0, 0), (.goto 4, 3, 0, 25, 0, 0)]),
  (24, [(.iconst 0, 1, 0, 0, 0, 0)]),
  (25, [(.ireturn, 1, 0, 0, 0, 0)])]
/-- X9_takings -/
def tp_P34 : List (Nat × List tp_Ins) := [(0, [(.iconst 0, 1, 0, 0, 0, 0), (.istore_n 2, 1, 0, 0, 0, 0), (.iconst 0, 1, 0, 0, 0, 0), (.istore_n 3, 1, 0, 0, 0, 0)]),
  (4, [(.iload_n 3, 1, 0, 0, 0, 0), (.aload_n 0, 1, 0, 0, 0, 0), (.getfield 33, 3, 0, 9, 3, 230), (.getfield 127, 3, 0, 4, 4, 100), (.if_icmp .ge 42, 3, 0, 54, 0, 0), (.aload_n 0, 1, 0, 0, 0, 0), (.getfield 33, 3, 0, 9, 3, 230), (.getfield 131, 3, 0, 4, 0, 92), (.iload_n 3, 1, 0, 0, 0, 0), (.iaload, 1, 0, 0, 0, 0), (.iload_n 1, 1, 0, 0, 0, 0), (.if_icmp .ne 23, 3, 0, 48, 0, 0), (.iload_n 2, 1, 0, 0, 0, 0), (.aload_n 0, 1, 0, 0, 0, 0), (.getfield 10, 3, 0, 9, 0, 227), (.getfield 266, 3, 0, 8, 0, 34), (.aload_n 0, 1, 0, 0, 0, 0), (.getfield 33, 3, 0, 9, 3, 230), (.getfield 134, 3, 0, 4, 1, 94), (.iload_n 3, 1, 0, 0, 0, 0), (.iaload, 1, 0, 0, 0, 0), (.iaload, 1, 0, 0, 0, 0), (.iadd, 1, 0, 0, 0, 0), (.istore_n 2, 1, 0, 0, 0, 0)]),
  (48, [(.iinc 3 1, 3, 1, 0, 0, 0), (.goto (-47), 3, 0, 4, 0, 0)]),
  (54, [(.iload_n 2, 1, 0, 0, 0, 0), (.ireturn, 1, 0, 0, 0, 0)])]
/-- X9_howManyAboard -/
def tp_P35 : List (Nat × List tp_Ins) := [(0, [(.iconst 0, 1, 0, 0, 0, 0), (.istore 4, 2, 0, 0, 0, 0), (.iconst 0, 1, 0, 0, 0, 0), (.istore 5, 2, 0, 0, 0, 0)]),
  (6, [(.iload 5, 2, 0, 0, 0, 0), (.aload_n 0, 1, 0, 0, 0, 0), (.getfield 33, 3, 0, 9, 3, 230), (.getfield 127, 3, 0, 4, 4, 100), (.if_icmp .ge 37, 3, 0, 52, 0, 0), (.aload_n 0, 1, 0, 0, 0, 0), (.getfield 33, 3, 0, 9, 3, 230), (.getfield 131, 3, 0, 4, 0, 92), (.iload 5, 2, 0, 0, 0, 0), (.iaload, 1, 0, 0, 0, 0), (.iload_n 1, 1, 0, 0, 0, 0), (.if_icmp .ne 17, 3, 0, 46, 0, 0), (.aload_n 0, 1, 0, 0, 0, 0), (.iload 5, 2, 0, 0, 0, 0), (.iload_n 2, 1, 0, 0, 0, 0), (.iload_n 3, 1, 0, 0, 0, 0), (.invokevirtual 185, 3, 0, 36, 4, 343), (.ifCond .eq 6, 3, 0, 46, 0, 0), (.iinc 4 1, 3, 1, 0, 0, 0)]),
  (46, [(.iinc 5 1, 3, 1, 0, 0, 0), (.goto (-43), 3, 0, 6, 0, 0)]),
  (52, [(.iload 4, 2, 0, 0, 0, 0), (.ireturn, 1, 0, 0, 0, 0)])]
/-- X9_isAboard -/
def tp_P36 : List (Nat × List tp_Ins) := [(0, [(.aload_n 0, 1, 0, 0, 0, 0), (.getfield 26, 3, 0, 9, 2, 229), (.aload_n 0, 1, 0, 0, 0, 0), (.getfield 33, 3, 0, 9, 3, 230), (.getfield 131, 3, 0, 4, 0, 92), (.iload_n 1, 1, 0, 0, 0, 0), (.iaload, 1, 0, 0, 0, 0), (.iload_n 2, 1, 0, 0, 0, 0), (.invokevirtual 191, 3, 0, 16, 3, 347), (.istore 4, 2, 0, 0, 0, 0), (.iload_n 3, 1, 0, 0, 0, 0), (.ifCond .ne 25, 3, 0, 45, 0, 0), (.aload_n 0, 1, 0, 0, 0, 0), (.getfield 33, 3, 0, 9, 3, 230), (.getfield 194, 3, 0, 4, 2, 96), (.iload_n 1, 1, 0, 0, 0, 0), (.iaload, 1, 0, 0, 0, 0), (.iload 4, 2, 0, 0, 0, 0), (.if_icmp .ne 7, 3, 0, 41, 0, 0), (.iconst 1, 1, 1, 0, 0, 0), (.goto 14, 3, 0, 52, 0, 0)]),
  (41, [(.iconst 0, 1, 0, 0, 0, 0), (.goto 10, 3, 0, 52, 0, 0)]),
  (45, [(.aload_n 0, 1, 0, 0, 0, 0), (.iload_n 1, 1, 0, 0, 0, 0), (.iload 4, 2, 0, 0, 0, 0), (.invokevirtual 197, 3, 0, 37, 3, 351)]),
  (52, [(.ireturn, 1, 0, 0, 0, 0)])]
/-- X9_isGoodAt -/
def tp_P37 : List (Nat × List tp_Ins) := [(0, [(.aload_n 0, 1, 0, 0, 0, 0), (.getfield 33, 3, 0, 9, 3, 230), (.getfield 194, 3, 0, 4, 2, 96), (.iload_n 1, 1, 0, 0, 0, 0), (.iaload, 1, 0, 0, 0, 0), (.istore_n 3, 1, 0, 0, 0, 0), (.iload_n 2, 1, 0, 0, 0, 0), (.iload_n 3, 1, 0, 0, 0, 0), (.if_icmp .lt 30, 3, 0, 42, 0, 0), (.iload_n 2, 1, 0, 0, 0, 0), (.iload_n 3, 1, 0, 0, 0, 0), (.aload_n 0, 1, 0, 0, 0, 0), (.getfield 10, 3, 0, 9, 0, 227), (.getfield 269, 3, 0, 8, 1, 36), (.aload_n 0, 1, 0, 0, 0, 0), (.getfield 33, 3, 0, 9, 3, 230), (.getfield 134, 3, 0, 4, 1, 94), (.iload_n 1, 1, 0, 0, 0, 0), (.iaload, 1, 0, 0, 0, 0), (.iaload, 1, 0, 0, 0, 0), (.iadd, 1, 0, 0, 0, 0), (.if_icmp .ge 7, 3, 0, 42, 0, 0), (.iconst 1, 1, 1, 0, 0, 0), (.goto 4, 3, 0, 43, 0, 0)]),
  (42, [(.iconst 0, 1, 0, 0, 0, 0)]),
  (43, [(.ireturn, 1, 0, 0, 0, 0)])]
/-- X9_takeBackLatest -/
def tp_P38 : List (Nat × List tp_Ins) := [(0, [(.aload_n 0, 1, 0, 0, 0, 0), (.getfield 33, 3, 0, 9, 3, 230), (.getfield 127, 3, 0, 4, 4, 100), (.iconst 1, 1, 1, 0, 0, 0), (.isub, 1, 0, 0, 0, 0), (.istore_n 1, 1, 0, 0, 0, 0), (.aload_n 0, 1, 0, 0, 0, 0), (.getfield 26, 3, 0, 9, 2, 229), (.getfield 118, 3, 0, 7, 0, 69), (.aload_n 0, 1, 0, 0, 0, 0), (.getfield 33, 3, 0, 9, 3, 230), (.getfield 131, 3, 0, 4, 0, 92), (.iload_n 1, 1, 0, 0, 0, 0), (.iaload, 1, 0, 0, 0, 0), (.iaload, 1, 0, 0, 0, 0), (.istore_n 2, 1, 0, 0, 0, 0), (.aload_n 0, 1, 0, 0, 0, 0), (.getfield 19, 3, 0, 9, 1, 228), (.getfield 85, 3, 0, 2, 0, 55), (.iload_n 2, 1, 0, 0, 0, 0), (.aaload, 1, 0, 0, 0, 0), (.aload_n 0, 1, 0, 0, 0, 0), (.getfield 33, 3, 0, 9, 3, 230), (.getfield 134, 3, 0, 4, 1, 94), (.iload_n 1, 1, 0, 0, 0, 0), (.iaload, 1, 0, 0, 0, 0), (.aload_n 0, 1, 0, 0, 0, 0), (.getfield 33, 3, 0, 9, 3, 230), (.getfield 137, 3, 0, 4, 3, 98), (.iload_n 1, 1, 0, 0, 0, 0), (.iaload, 1, 0, 0, 0, 0), (.iastore, 1, 0, 0, 0, 0), (.aload_n 0, 1, 0, 0, 0, 0), (.getfield 33, 3, 0, 9, 3, 230), (.iload_n 1, 1, 0, 0, 0, 0), (.putfield 127, 3, 0, 4, 4, 100), (.return_, 1, 0, 0, 0, 0)])]
/-- X9_beyondHeld -/
def tp_P39 : List (Nat × List tp_Ins) := [(0, [(.aload_n 0, 1, 0, 0, 0, 0), (.getfield 19, 3, 0, 9, 1, 228), (.iload_n 1, 1, 0, 0, 0, 0), (.aload_n 0, 1, 0, 0, 0, 0), (.getfield 33, 3, 0, 9, 3, 230), (.iload_n 1, 1, 0, 0, 0, 0), (.iload_n 2, 1, 0, 0, 0, 0), (.invokevirtual 278, 3, 0, 10, 3, 385), (.invokevirtual 281, 3, 0, 4, 3, 389), (.ireturn, 1, 0, 0, 0, 0)])]
/-- L_part -/
def tp_P40 : List (Nat × List tp_Ins) := [(0, [(.iload_n 0, 1, 0, 0, 0, 0), (.ldc 7, 2, 2147483647, 0, 0, 396), (.iand, 1, 0, 0, 0, 0), (.iload_n 1, 1, 0, 0, 0, 0), (.irem, 1, 0, 0, 0, 0), (.ireturn, 1, 0, 0, 0, 0)])]
/-- L_cell -/
def tp_P41 : List (Nat × List tp_Ins) := [(0, [(.aload_n 0, 1, 0, 0, 0, 0), (.arraylength, 1, 0, 0, 0, 0), (.ifCond .ne 13, 3, 0, 15, 0, 0), (.sipush 7919, 3, 7919, 0, 0, 0), (.iload_n 1, 1, 0, 0, 0, 0), (.imul, 1, 0, 0, 0, 0), (.iconst 3, 1, 3, 0, 0, 0), (.iadd, 1, 0, 0, 0, 0), (.goto 27, 3, 0, 39, 0, 0)]),
  (15, [(.aload_n 0, 1, 0, 0, 0, 0), (.iload_n 1, 1, 0, 0, 0, 0), (.aload_n 0, 1, 0, 0, 0, 0), (.arraylength, 1, 0, 0, 0, 0), (.irem, 1, 0, 0, 0, 0), (.iaload, 1, 0, 0, 0, 0), (.iload_n 1, 1, 0, 0, 0, 0), (.bipush 7, 2, 7, 0, 0, 0), (.irem, 1, 0, 0, 0, 0), (.ishr, 1, 0, 0, 0, 0), (.iload_n 1, 1, 0, 0, 0, 0), (.aload_n 0, 1, 0, 0, 0, 0), (.arraylength, 1, 0, 0, 0, 0), (.idiv, 1, 0, 0, 0, 0), (.bipush 31, 2, 31, 0, 0, 0), (.imul, 1, 0, 0, 0, 0), (.ixor, 1, 0, 0, 0, 0), (.iload_n 1, 1, 0, 0, 0, 0), (.ldc 8, 2, 2654435, 0, 0, 400), (.imul, 1, 0, 0, 0, 0), (.ixor, 1, 0, 0, 0, 0)]),
  (39, [(.ireturn, 1, 0, 0, 0, 0)])]
/-- L_sells -/
def tp_P42 : List (Nat × List tp_Ins) := [(0, [(.iconst 0, 1, 0, 0, 0, 0), (.istore 10, 2, 0, 0, 0, 0)]),
  (3, [(.iload 10, 2, 0, 0, 0, 0), (.bipush 14, 2, 14, 0, 0, 0), (.if_icmp .ge 373, 3, 0, 380, 0, 0), (.aload_n 1, 1, 0, 0, 0, 0), (.iload_n 2, 1, 0, 0, 0, 0), (.iload 10, 2, 0, 0, 0, 0), (.iadd, 1, 0, 0, 0, 0), (.invokestatic 9, 3, 0, 41, 2, 397), (.istore 11, 2, 0, 0, 0, 0), (.iload 11, 2, 0, 0, 0, 0), (.iload_n 3, 1, 0, 0, 0, 0), (.invokestatic 15, 3, 0, 40, 2, 393), (.istore 12, 2, 0, 0, 0, 0), (.iload 11, 2, 0, 0, 0, 0), (.iconst 3, 1, 3, 0, 0, 0), (.ishr, 1, 0, 0, 0, 0), (.iload 4, 2, 0, 0, 0, 0), (.invokestatic 15, 3, 0, 40, 2, 393), (.istore 13, 2, 0, 0, 0, 0), (.iconst (-1), 1, -1, 0, 0, 0), (.istore 14, 2, 0, 0, 0, 0), (.iconst 0, 1, 0, 0, 0, 0), (.istore 15, 2, 0, 0, 0, 0)]),
  (45, [(.iload 15, 2, 0, 0, 0, 0), (.aload 6, 2, 0, 0, 0, 0), (.iconst 0, 1, 0, 0, 0, 0), (.iaload, 1, 0, 0, 0, 0), (.if_icmp .ge 34, 3, 0, 85, 0, 0), (.aload 6, 2, 0, 0, 0, 0), (.iconst 4, 1, 4, 0, 0, 0), (.iload 15, 2, 0, 0, 0, 0), (.imul, 1, 0, 0, 0, 0), (.iconst 1, 1, 1, 0, 0, 0), (.iadd, 1, 0, 0, 0, 0), (.iaload, 1, 0, 0, 0, 0), (.iload 12, 2, 0, 0, 0, 0), (.if_icmp .ne 14, 3, 0, 79, 0, 0), (.aload 6, 2, 0, 0, 0, 0), (.iconst 4, 1, 4, 0, 0, 0), (.iload 15, 2, 0, 0, 0, 0), (.imul, 1, 0, 0, 0, 0), (.iconst 4, 1, 4, 0, 0, 0), (.iadd, 1, 0, 0, 0, 0), (.iaload, 1, 0, 0, 0, 0), (.istore 14, 2, 0, 0, 0, 0)]),
  (79, [(.iinc 15 1, 3, 1, 0, 0, 0), (.goto (-37), 3, 0, 45, 0, 0)]),
  (85, [(.iload 14, 2, 0, 0, 0, 0), (.ifCond .ge 15, 3, 0, 102, 0, 0), (.iload 11, 2, 0, 0, 0, 0), (.bipush 6, 2, 6, 0, 0, 0), (.ishr, 1, 0, 0, 0, 0), (.iconst 4, 1, 4, 0, 0, 0), (.invokestatic 15, 3, 0, 40, 2, 393), (.goto 42, 3, 0, 141, 0, 0)]),
  (102, [(.aload 5, 2, 0, 0, 0, 0), (.iload 12, 2, 0, 0, 0, 0), (.iaload, 1, 0, 0, 0, 0), (.iconst 1, 1, 1, 0, 0, 0), (.if_icmp .ne 18, 3, 0, 126, 0, 0), (.iload 14, 2, 0, 0, 0, 0), (.iload 11, 2, 0, 0, 0, 0), (.bipush 6, 2, 6, 0, 0, 0), (.ishr, 1, 0, 0, 0, 0), (.iconst 3, 1, 3, 0, 0, 0), (.invokestatic 15, 3, 0, 40, 2, 393), (.iadd, 1, 0, 0, 0, 0), (.goto 18, 3, 0, 141, 0, 0)]),
  (126, [(.bipush 9, 2, 9, 0, 0, 0), (.iload 14, 2, 0, 0, 0, 0), (.isub, 1, 0, 0, 0, 0), (.iload 11, 2, 0, 0, 0, 0), (.bipush 6, 2, 6, 0, 0, 0), (.ishr, 1, 0, 0, 0, 0), (.iconst 3, 1, 3, 0, 0, 0), (.invokestatic 15, 3, 0, 40, 2, 393), (.iadd, 1, 0, 0, 0, 0)]),
  (141, [(.istore 15, 2, 0, 0, 0, 0), (.iload 11, 2, 0, 0, 0, 0), (.bipush 9, 2, 9, 0, 0, 0), (.ishr, 1, 0, 0, 0, 0), (.bipush 9, 2, 9, 0, 0, 0), (.invokestatic 15, 3, 0, 40, 2, 393), (.ifCond .ne 15, 3, 0, 168, 0, 0), (.iload 11, 2, 0, 0, 0, 0), (.bipush 12, 2, 12, 0, 0, 0), (.ishr, 1, 0, 0, 0, 0), (.bipush 10, 2, 10, 0, 0, 0), (.invokestatic 15, 3, 0, 40, 2, 393), (.istore 15, 2, 0, 0, 0, 0)]),
  (168, [(.iload 15, 2, 0, 0, 0, 0), (.bipush 9, 2, 9, 0, 0, 0), (.if_icmp .le 8, 3, 0, 180, 0, 0), (.bipush 9, 2, 9, 0, 0, 0), (.goto 5, 3, 0, 182, 0, 0)]),
  (180, [(.iload 15, 2, 0, 0, 0, 0)]),
  (182, [(.istore 15, 2, 0, 0, 0, 0), (.aload 5, 2, 0, 0, 0, 0), (.iload 12, 2, 0, 0, 0, 0), (.iaload, 1, 0, 0, 0, 0), (.iconst 1, 1, 1, 0, 0, 0), (.if_icmp .ne 8, 3, 0, 198, 0, 0), (.iload 15, 2, 0, 0, 0, 0), (.goto 8, 3, 0, 203, 0, 0)]),
  (198, [(.bipush 9, 2, 9, 0, 0, 0), (.iload 15, 2, 0, 0, 0, 0), (.isub, 1, 0, 0, 0, 0)]),
  (203, [(.istore 16, 2, 0, 0, 0, 0), (.iload 14, 2, 0, 0, 0, 0), (.ifCond .ge 7, 3, 0, 214, 0, 0), (.iconst 0, 1, 0, 0, 0, 0), (.goto 22, 3, 0, 233, 0, 0)]),
  (214, [(.aload 5, 2, 0, 0, 0, 0), (.iload 12, 2, 0, 0, 0, 0), (.iaload, 1, 0, 0, 0, 0), (.iconst 1, 1, 1, 0, 0, 0), (.if_icmp .ne 8, 3, 0, 228, 0, 0), (.iload 14, 2, 0, 0, 0, 0), (.goto 8, 3, 0, 233, 0, 0)]),
  (228, [(.bipush 9, 2, 9, 0, 0, 0), (.iload 14, 2, 0, 0, 0, 0), (.isub, 1, 0, 0, 0, 0)]),
  (233, [(.istore 17, 2, 0, 0, 0, 0), (.iconst 2, 1, 2, 0, 0, 0), (.aload 9, 2, 0, 0, 0, 0), (.iload 12, 2, 0, 0, 0, 0), (.iaload, 1, 0, 0, 0, 0), (.imul, 1, 0, 0, 0, 0), (.iload 13, 2, 0, 0, 0, 0), (.iadd, 1, 0, 0, 0, 0), (.istore 18, 2, 0, 0, 0, 0), (.iload 15, 2, 0, 0, 0, 0), (.iload 17, 2, 0, 0, 0, 0), (.if_icmp .lt 10, 3, 0, 261, 0, 0), (.iload 15, 2, 0, 0, 0, 0), (.bipush 9, 2, 9, 0, 0, 0), (.if_icmp .ne 8, 3, 0, 266, 0, 0)]),
  (261, [(.bipush (-2), 2, -2, 0, 0, 0), (.goto 26, 3, 0, 289, 0, 0)]),
  (266, [(.aload 7, 2, 0, 0, 0, 0), (.iload 18, 2, 0, 0, 0, 0), (.iaload, 1, 0, 0, 0, 0), (.aload 8, 2, 0, 0, 0, 0), (.iload 18, 2, 0, 0, 0, 0), (.iaload, 1, 0, 0, 0, 0), (.if_icmp .ne 8, 3, 0, 284, 0, 0), (.bipush (-4), 2, -4, 0, 0, 0), (.goto 8, 3, 0, 289, 0, 0)]),
  (284, [(.aload 7, 2, 0, 0, 0, 0), (.iload 18, 2, 0, 0, 0, 0), (.iaload, 1, 0, 0, 0, 0)]),
  (289, [(.istore 19, 2, 0, 0, 0, 0), (.aload_n 0, 1, 0, 0, 0, 0), (.iload 12, 2, 0, 0, 0, 0), (.iload 13, 2, 0, 0, 0, 0), (.iload 16, 2, 0, 0, 0, 0), (.invokevirtual 19, 3, 0, 24, 4, 404), (.iload 19, 2, 0, 0, 0, 0), (.if_icmp .eq 5, 3, 0, 308, 0, 0), (.iconst (-1), 1, -1, 0, 0, 0), (.ireturn, 1, 0, 0, 0, 0)]),
  (308, [(.iload 19, 2, 0, 0, 0, 0), (.ifCond .lt 64, 3, 0, 374, 0, 0), (.iconst 4, 1, 4, 0, 0, 0), (.aload 6, 2, 0, 0, 0, 0), (.iconst 0, 1, 0, 0, 0, 0), (.iaload, 1, 0, 0, 0, 0), (.imul, 1, 0, 0, 0, 0), (.istore 20, 2, 0, 0, 0, 0), (.aload 6, 2, 0, 0, 0, 0), (.iload 20, 2, 0, 0, 0, 0), (.iconst 1, 1, 1, 0, 0, 0), (.iadd, 1, 0, 0, 0, 0), (.iload 12, 2, 0, 0, 0, 0), (.iastore, 1, 0, 0, 0, 0), (.aload 6, 2, 0, 0, 0, 0), (.iload 20, 2, 0, 0, 0, 0), (.iconst 2, 1, 2, 0, 0, 0), (.iadd, 1, 0, 0, 0, 0), (.iload 13, 2, 0, 0, 0, 0), (.iastore, 1, 0, 0, 0, 0), (.aload 6, 2, 0, 0, 0, 0), (.iload 20, 2, 0, 0, 0, 0), (.iconst 3, 1, 3, 0, 0, 0), (.iadd, 1, 0, 0, 0, 0), (.iload 19, 2, 0, 0, 0, 0), (.iastore, 1, 0, 0, 0, 0), (.aload 6, 2, 0, 0, 0, 0), (.iload 20, 2, 0, 0, 0, 0), (.iconst 4, 1, 4, 0, 0, 0), (.iadd, 1, 0, 0, 0, 0), (.iload 16, 2, 0, 0, 0, 0), (.iastore, 1, 0, 0, 0, 0), (.aload 6, 2, 0, 0, 0, 0), (.iconst 0, 1, 0, 0, 0, 0), (.dup2, 1, 0, 0, 0, 0), (.iaload, 1, 0, 0, 0, 0), (.iconst 1, 1, 1, 0, 0, 0), (.iadd, 1, 0, 0, 0, 0), (.iastore, 1, 0, 0, 0, 0), (.aload 7, 2, 0, 0, 0, 0), (.iload 18, 2, 0, 0, 0, 0), (.dup2, 1, 0, 0, 0, 0), (.iaload, 1, 0, 0, 0, 0), (.iconst 1, 1, 1, 0, 0, 0), (.iadd, 1, 0, 0, 0, 0), (.iastore, 1, 0, 0, 0, 0)]),
  (374, [(.iinc 10 1, 3, 1, 0, 0, 0), (.goto (-374), 3, 0, 3, 0, 0)]),
  (380, [(.aload 6, 2, 0, 0, 0, 0), (.iconst 0, 1, 0, 0, 0, 0), (.iaload, 1, 0, 0, 0, 0), (.ireturn, 1, 0, 0, 0, 0)])]
def tp_P43_0 : List (Nat × List tp_Ins) := [(11, [(.astore_n 2, 1, 0, 0, 0, 0), (.aload_n 2, 1, 0, 0, 0, 0), (.iconst 0, 1, 0, 0, 0, 0), (.iconst 1, 1, 1, 0, 0, 0), (.aload_n 0, 1, 0, 0, 0, 0), (.iconst 0, 1, 0, 0, 0, 0), (.invokestatic 9, 3, 0, 41, 2, 397), (.bipush 30, 2, 30, 0, 0, 0), (.invokestatic 15, 3, 0, 40, 2, 393), (.iadd, 1, 0, 0, 0, 0), (.iastore, 1, 0, 0, 0, 0), (.aload_n 2, 1, 0, 0, 0, 0), (.iconst 1, 1, 1, 0, 0, 0), (.iconst 1, 1, 1, 0, 0, 0), (.aload_n 0, 1, 0, 0, 0, 0), (.iconst 1, 1, 1, 0, 0, 0), (.invokestatic 9, 3, 0, 41, 2, 397), (.bipush 30, 2, 30, 0, 0, 0), (.invokestatic 15, 3, 0, 40, 2, 393), (.iadd, 1, 0, 0, 0, 0), (.iastore, 1, 0, 0, 0, 0), (.iconst 2, 1, 2, 0, 0, 0), (.newarray .int, 2, 0, 0, 0, 0)]),
  (45, [(.astore_n 3, 1, 0, 0, 0, 0), (.aload_n 3, 1, 0, 0, 0, 0), (.iconst 0, 1, 0, 0, 0, 0), (.iconst 1, 1, 1, 0, 0, 0), (.aload_n 0, 1, 0, 0, 0, 0), (.iconst 2, 1, 2, 0, 0, 0), (.invokestatic 9, 3, 0, 41, 2, 397), (.iconst 5, 1, 5, 0, 0, 0), (.invokestatic 15, 3, 0, 40, 2, 393), (.iadd, 1, 0, 0, 0, 0), (.iastore, 1, 0, 0, 0, 0), (.aload_n 3, 1, 0, 0, 0, 0), (.iconst 1, 1, 1, 0, 0, 0), (.iconst 1, 1, 1, 0, 0, 0), (.aload_n 0, 1, 0, 0, 0, 0), (.iconst 3, 1, 3, 0, 0, 0), (.invokestatic 9, 3, 0, 41, 2, 397), (.bipush 9, 2, 9, 0, 0, 0), (.invokestatic 15, 3, 0, 40, 2, 393), (.iadd, 1, 0, 0, 0, 0), (.iastore, 1, 0, 0, 0, 0), (.iconst 0, 1, 0, 0, 0, 0), (.istore 4, 2, 0, 0, 0, 0)]),
  (78, [(.iload 4, 2, 0, 0, 0, 0), (.iconst 2, 1, 2, 0, 0, 0), (.if_icmp .ge 28, 3, 0, 109, 0, 0), (.aload_n 1, 1, 0, 0, 0, 0), (.aload_n 2, 1, 0, 0, 0, 0), (.iload 4, 2, 0, 0, 0, 0), (.iaload, 1, 0, 0, 0, 0), (.aload_n 3, 1, 0, 0, 0, 0), (.iload 4, 2, 0, 0, 0, 0), (.iaload, 1, 0, 0, 0, 0), (.invokevirtual 26, 3, 0, 19, 3, 249), (.iload 4, 2, 0, 0, 0, 0), (.if_icmp .eq 5, 3, 0, 103, 0, 0), (.iconst 0, 1, 0, 0, 0, 0), (.ireturn, 1, 0, 0, 0, 0)]),
  (103, [(.iinc 4 1, 3, 1, 0, 0, 0), (.goto (-28), 3, 0, 78, 0, 0)]),
  (109, [(.iconst 4, 1, 4, 0, 0, 0), (.newarray .int, 2, 0, 0, 0, 0)]),
  (112, [(.astore 4, 2, 0, 0, 0, 0), (.iconst 4, 1, 4, 0, 0, 0), (.newarray .int, 2, 0, 0, 0, 0)]),
  (117, [(.astore 5, 2, 0, 0, 0, 0), (.aload 5, 2, 0, 0, 0, 0), (.iconst 0, 1, 0, 0, 0, 0), (.iconst 0, 1, 0, 0, 0, 0), (.iastore, 1, 0, 0, 0, 0), (.aload 5, 2, 0, 0, 0, 0), (.iconst 1, 1, 1, 0, 0, 0), (.iconst 1, 1, 1, 0, 0, 0), (.iastore, 1, 0, 0, 0, 0), (.aload 5, 2, 0, 0, 0, 0), (.iconst 2, 1, 2, 0, 0, 0), (.iconst 2, 1, 2, 0, 0, 0), (.iastore, 1, 0, 0, 0, 0), (.aload 5, 2, 0, 0, 0, 0), (.iconst 3, 1, 3, 0, 0, 0), (.iconst 3, 1, 3, 0, 0, 0), (.iastore, 1, 0, 0, 0, 0), (.bipush 8, 2, 8, 0, 0, 0), (.newarray .int, 2, 0, 0, 0, 0)]),
  (143, [(.astore 6, 2, 0, 0, 0, 0), (.bipush 8, 2, 8, 0, 0, 0), (.newarray .int, 2, 0, 0, 0, 0)]),
  (149, [(.astore 7, 2, 0, 0, 0, 0), (.iconst 0, 1, 0, 0, 0, 0), (.istore 8, 2, 0, 0, 0, 0)]),
  (154, [(.iload 8, 2, 0, 0, 0, 0), (.iconst 4, 1, 4, 0, 0, 0), (.if_icmp .ge 162, 3, 0, 319, 0, 0), (.aload 4, 2, 0, 0, 0, 0), (.iload 8, 2, 0, 0, 0, 0), (.aload_n 0, 1, 0, 0, 0, 0), (.iconst 4, 1, 4, 0, 0, 0), (.iload 8, 2, 0, 0, 0, 0), (.iadd, 1, 0, 0, 0, 0), (.invokestatic 9, 3, 0, 41, 2, 397), (.iconst 1, 1, 1, 0, 0, 0), (.iand, 1, 0, 0, 0, 0), (.iastore, 1, 0, 0, 0, 0), (.aload_n 1, 1, 0, 0, 0, 0), (.iload 8, 2, 0, 0, 0, 0), (.aload 4, 2, 0, 0, 0, 0), (.iload 8, 2, 0, 0, 0, 0), (.iaload, 1, 0, 0, 0, 0), (.iconst 1, 1, 1, 0, 0, 0), (.if_icmp .ne 7, 3, 0, 191, 0, 0), (.iconst 1, 1, 1, 0, 0, 0), (.goto 4, 3, 0, 192, 0, 0)]),
  (191, [(.iconst 0, 1, 0, 0, 0, 0)]),
  (192, [(.invokevirtual 29, 3, 0, 22, 3, 299), (.iload 8, 2, 0, 0, 0, 0), (.if_icmp .eq 5, 3, 0, 202, 0, 0), (.iconst 0, 1, 0, 0, 0, 0), (.ireturn, 1, 0, 0, 0, 0)]),
  (202, [(.iconst 0, 1, 0, 0, 0, 0), (.istore 9, 2, 0, 0, 0, 0)]),
  (205, [(.iload 9, 2, 0, 0, 0, 0), (.iconst 2, 1, 2, 0, 0, 0), (.if_icmp .ge 105, 3, 0, 313, 0, 0), (.aload 6, 2, 0, 0, 0, 0), (.iconst 2, 1, 2, 0, 0, 0), (.iload 8, 2, 0, 0, 0, 0), (.imul, 1, 0, 0, 0, 0), (.iload 9, 2, 0, 0, 0, 0), (.iadd, 1, 0, 0, 0, 0), (.bipush 50, 2, 50, 0, 0, 0), (.iload 8, 2, 0, 0, 0, 0), (.imul, 1, 0, 0, 0, 0), (.iastore, 1, 0, 0, 0, 0), (.aload 7, 2, 0, 0, 0, 0), (.iconst 2, 1, 2, 0, 0, 0), (.iload 8, 2, 0, 0, 0, 0), (.imul, 1, 0, 0, 0, 0), (.iload 9, 2, 0, 0, 0, 0), (.iadd, 1, 0, 0, 0, 0), (.bipush 50, 2, 50, 0, 0, 0), (.iload 8, 2, 0, 0, 0, 0), (.imul, 1, 0, 0, 0, 0), (.iconst 3, 1, 3, 0, 0, 0), (.iadd, 1, 0, 0, 0, 0), (.aload_n 0, 1, 0, 0, 0, 0), (.bipush 8, 2, 8, 0, 0, 0), (.iconst 2, 1, 2, 0, 0, 0), (.iload 8, 2, 0, 0, 0, 0), (.imul, 1, 0, 0, 0, 0), (.iadd, 1, 0, 0, 0, 0), (.iload 9, 2, 0, 0, 0, 0), (.iadd, 1, 0, 0, 0, 0), (.invokestatic 9, 3, 0, 41, 2, 397), (.bipush 10, 2, 10, 0, 0, 0), (.invokestatic 15, 3, 0, 40, 2, 393), (.iadd, 1, 0, 0, 0, 0), (.iastore, 1, 0, 0, 0, 0), (.aload_n 1, 1, 0, 0, 0, 0), (.iload 8, 2, 0, 0, 0, 0), (.iload 9, 2, 0, 0, 0, 0), (.aload 6, 2, 0, 0, 0, 0), (.iconst 2, 1, 2, 0, 0, 0), (.iload 8, 2, 0, 0, 0, 0), (.imul, 1, 0, 0, 0, 0), (.iload 9, 2, 0, 0, 0, 0), (.iadd, 1, 0, 0, 0, 0), (.iaload, 1, 0, 0, 0, 0), (.aload 7, 2, 0, 0, 0, 0), (.iconst 2, 1, 2, 0, 0, 0), (.iload 8, 2, 0, 0, 0, 0), (.imul, 1, 0, 0, 0, 0), (.iload 9, 2, 0, 0, 0, 0), (.iadd, 1, 0, 0, 0, 0), (.iaload, 1, 0, 0, 0, 0), (.aload 6, 2, 0, 0, 0, 0), (.iconst 2, 1, 2, 0, 0, 0), (.iload 8, 2, 0, 0, 0, 0), (.imul, 1, 0, 0, 0, 0), (.iload 9, 2, 0, 0, 0, 0), (.iadd, 1, 0, 0, 0, 0), (.iaload, 1, 0, 0, 0, 0), (.isub, 1, 0, 0, 0, 0), (.invokevirtual 33, 3, 0, 20, 5, 260), (.ifCond .eq 5, 3, 0, 307, 0, 0), (.iconst 0, 1, 0, 0, 0, 0), (.ireturn, 1, 0, 0, 0, 0)]),
  (307, [(.iinc 9 1, 3, 1, 0, 0, 0), (.goto (-105), 3, 0, 205, 0, 0)]),
  (313, [(.iinc 8 1, 3, 1, 0, 0, 0), (.goto (-162), 3, 0, 154, 0, 0)]),
  (319, [(.bipush 60, 2, 60, 0, 0, 0), (.newarray .int, 2, 0, 0, 0, 0)]),
  (323, [(.astore 8, 2, 0, 0, 0, 0), (.aload_n 1, 1, 0, 0, 0, 0), (.aload_n 0, 1, 0, 0, 0, 0), (.bipush 20, 2, 20, 0, 0, 0), (.iconst 4, 1, 4, 0, 0, 0), (.iconst 2, 1, 2, 0, 0, 0), (.aload 4, 2, 0, 0, 0, 0), (.aload 8, 2, 0, 0, 0, 0), (.aload 6, 2, 0, 0, 0, 0), (.aload 7, 2, 0, 0, 0, 0), (.aload 5, 2, 0, 0, 0, 0), (.invokestatic 37, 3, 0, 42, 10, 401), (.istore 9, 2, 0, 0, 0, 0), (.iload 9, 2, 0, 0, 0, 0), (.ifCond .ge 5, 3, 0, 353, 0, 0), (.iconst 0, 1, 0, 0, 0, 0), (.ireturn, 1, 0, 0, 0, 0)]),
  (353, [(.iconst 0, 1, 0, 0, 0, 0), (.istore 10, 2, 0, 0, 0, 0), (.iconst 0, 1, 0, 0, 0, 0), (.istore 11, 2, 0, 0, 0, 0)]),
  (359, [(.iload 11, 2, 0, 0, 0, 0), (.iload 9, 2, 0, 0, 0, 0), (.if_icmp .ge 25, 3, 0, 388, 0, 0), (.iload 10, 2, 0, 0, 0, 0), (.aload_n 2, 1, 0, 0, 0, 0), (.aload 8, 2, 0, 0, 0, 0), (.iconst 4, 1, 4, 0, 0, 0), (.iload 11, 2, 0, 0, 0, 0), (.imul, 1, 0, 0, 0, 0), (.iconst 2, 1, 2, 0, 0, 0), (.iadd, 1, 0, 0, 0, 0), (.iaload, 1, 0, 0, 0, 0), (.iaload, 1, 0, 0, 0, 0), (.iadd, 1, 0, 0, 0, 0), (.istore 10, 2, 0, 0, 0, 0), (.iinc 11 1, 3, 1, 0, 0, 0), (.goto (-26), 3, 0, 359, 0, 0)])]
def tp_P43_20 : List (Nat × List tp_Ins) := [(388, [(.iconst 0, 1, 0, 0, 0, 0), (.istore 11, 2, 0, 0, 0, 0), (.iconst 0, 1, 0, 0, 0, 0), (.istore 12, 2, 0, 0, 0, 0)]),
  (394, [(.iload 12, 2, 0, 0, 0, 0), (.iconst 4, 1, 4, 0, 0, 0), (.if_icmp .ge 20, 3, 0, 417, 0, 0), (.iload 11, 2, 0, 0, 0, 0), (.aload_n 1, 1, 0, 0, 0, 0), (.iload 12, 2, 0, 0, 0, 0), (.invokevirtual 41, 3, 0, 26, 2, 331), (.iadd, 1, 0, 0, 0, 0), (.istore 11, 2, 0, 0, 0, 0), (.iinc 12 1, 3, 1, 0, 0, 0), (.goto (-20), 3, 0, 394, 0, 0)]),
  (417, [(.iload 11, 2, 0, 0, 0, 0), (.iload 10, 2, 0, 0, 0, 0), (.if_icmp .eq 5, 3, 0, 426, 0, 0), (.iconst 0, 1, 0, 0, 0, 0), (.ireturn, 1, 0, 0, 0, 0)]),
  (426, [(.iconst 0, 1, 0, 0, 0, 0), (.istore 12, 2, 0, 0, 0, 0)]),
  (429, [(.iload 12, 2, 0, 0, 0, 0), (.bipush 9, 2, 9, 0, 0, 0), (.if_icmp .ge 464, 3, 0, 897, 0, 0), (.iconst 0, 1, 0, 0, 0, 0), (.istore 13, 2, 0, 0, 0, 0)]),
  (439, [(.iload 13, 2, 0, 0, 0, 0), (.iconst 2, 1, 2, 0, 0, 0), (.if_icmp .ge 449, 3, 0, 891, 0, 0), (.iconst 0, 1, 0, 0, 0, 0), (.istore 14, 2, 0, 0, 0, 0), (.iconst 0, 1, 0, 0, 0, 0), (.istore 15, 2, 0, 0, 0, 0), (.iconst 0, 1, 0, 0, 0, 0), (.istore 16, 2, 0, 0, 0, 0)]),
  (454, [(.iload 16, 2, 0, 0, 0, 0), (.iconst 4, 1, 4, 0, 0, 0), (.if_icmp .ge 382, 3, 0, 839, 0, 0), (.aload 4, 2, 0, 0, 0, 0), (.iload 16, 2, 0, 0, 0, 0), (.iaload, 1, 0, 0, 0, 0), (.iconst 1, 1, 1, 0, 0, 0), (.if_icmp .ne 7, 3, 0, 473, 0, 0), (.iconst 1, 1, 1, 0, 0, 0), (.goto 4, 3, 0, 474, 0, 0)]),
  (473, [(.iconst 0, 1, 0, 0, 0, 0)]),
  (474, [(.iload 13, 2, 0, 0, 0, 0), (.ifCond .ne 7, 3, 0, 483, 0, 0), (.iconst 1, 1, 1, 0, 0, 0), (.goto 4, 3, 0, 484, 0, 0)]),
  (483, [(.iconst 0, 1, 0, 0, 0, 0)]),
  (484, [(.if_icmp .eq 6, 3, 0, 490, 0, 0), (.goto 346, 3, 0, 833, 0, 0)]),
  (490, [(.iload 14, 2, 0, 0, 0, 0), (.aload_n 1, 1, 0, 0, 0, 0), (.iload 16, 2, 0, 0, 0, 0), (.iload 12, 2, 0, 0, 0, 0), (.iconst 0, 1, 0, 0, 0, 0), (.invokevirtual 45, 3, 0, 27, 4, 335), (.iadd, 1, 0, 0, 0, 0), (.istore 14, 2, 0, 0, 0, 0), (.iload 15, 2, 0, 0, 0, 0), (.aload_n 1, 1, 0, 0, 0, 0), (.iload 16, 2, 0, 0, 0, 0), (.iload 12, 2, 0, 0, 0, 0), (.iconst 1, 1, 1, 0, 0, 0), (.invokevirtual 45, 3, 0, 27, 4, 335), (.iadd, 1, 0, 0, 0, 0), (.istore 15, 2, 0, 0, 0, 0), (.aload 4, 2, 0, 0, 0, 0), (.iload 16, 2, 0, 0, 0, 0), (.iaload, 1, 0, 0, 0, 0), (.iconst 1, 1, 1, 0, 0, 0), (.if_icmp .ne 10, 3, 0, 534, 0, 0), (.iload 12, 2, 0, 0, 0, 0), (.iconst 1, 1, 1, 0, 0, 0), (.isub, 1, 0, 0, 0, 0), (.goto 7, 3, 0, 538, 0, 0)]),
  (534, [(.iload 12, 2, 0, 0, 0, 0), (.iconst 1, 1, 1, 0, 0, 0), (.iadd, 1, 0, 0, 0, 0)]),
  (538, [(.istore 17, 2, 0, 0, 0, 0), (.iload 17, 2, 0, 0, 0, 0), (.ifCond .lt 10, 3, 0, 552, 0, 0), (.iload 17, 2, 0, 0, 0, 0), (.bipush 8, 2, 8, 0, 0, 0), (.if_icmp .le 7, 3, 0, 556, 0, 0)]),
  (552, [(.iconst 0, 1, 0, 0, 0, 0), (.goto 12, 3, 0, 565, 0, 0)]),
  (556, [(.aload_n 1, 1, 0, 0, 0, 0), (.iload 16, 2, 0, 0, 0, 0), (.iload 17, 2, 0, 0, 0, 0), (.iconst 1, 1, 1, 0, 0, 0), (.invokevirtual 45, 3, 0, 27, 4, 335)]),
  (565, [(.istore 18, 2, 0, 0, 0, 0), (.iconst 0, 1, 0, 0, 0, 0), (.istore 19, 2, 0, 0, 0, 0), (.iconst 0, 1, 0, 0, 0, 0), (.istore 20, 2, 0, 0, 0, 0), (.iconst 0, 1, 0, 0, 0, 0), (.istore 21, 2, 0, 0, 0, 0)]),
  (576, [(.iload 21, 2, 0, 0, 0, 0), (.iload 9, 2, 0, 0, 0, 0), (.if_icmp .ge 138, 3, 0, 718, 0, 0), (.aload 8, 2, 0, 0, 0, 0), (.iconst 4, 1, 4, 0, 0, 0), (.iload 21, 2, 0, 0, 0, 0), (.imul, 1, 0, 0, 0, 0), (.iconst 1, 1, 1, 0, 0, 0), (.iadd, 1, 0, 0, 0, 0), (.iaload, 1, 0, 0, 0, 0), (.iload 16, 2, 0, 0, 0, 0), (.if_icmp .eq 6, 3, 0, 600, 0, 0), (.goto 115, 3, 0, 712, 0, 0)]),
  (600, [(.aload 8, 2, 0, 0, 0, 0), (.iconst 4, 1, 4, 0, 0, 0), (.iload 21, 2, 0, 0, 0, 0), (.imul, 1, 0, 0, 0, 0), (.iconst 4, 1, 4, 0, 0, 0), (.iadd, 1, 0, 0, 0, 0), (.iaload, 1, 0, 0, 0, 0), (.istore 22, 2, 0, 0, 0, 0), (.aload_n 3, 1, 0, 0, 0, 0), (.aload 8, 2, 0, 0, 0, 0), (.iconst 4, 1, 4, 0, 0, 0), (.iload 21, 2, 0, 0, 0, 0), (.imul, 1, 0, 0, 0, 0), (.iconst 2, 1, 2, 0, 0, 0), (.iadd, 1, 0, 0, 0, 0), (.iaload, 1, 0, 0, 0, 0), (.iaload, 1, 0, 0, 0, 0), (.istore 23, 2, 0, 0, 0, 0), (.iload 19, 2, 0, 0, 0, 0), (.aload 4, 2, 0, 0, 0, 0), (.iload 16, 2, 0, 0, 0, 0), (.iaload, 1, 0, 0, 0, 0), (.iconst 1, 1, 1, 0, 0, 0), (.if_icmp .ne 21, 3, 0, 653, 0, 0), (.iload 22, 2, 0, 0, 0, 0), (.iload 23, 2, 0, 0, 0, 0), (.iadd, 1, 0, 0, 0, 0), (.iload 12, 2, 0, 0, 0, 0), (.if_icmp .ne 7, 3, 0, 649, 0, 0), (.iconst 1, 1, 1, 0, 0, 0), (.goto 24, 3, 0, 670, 0, 0)]),
  (649, [(.iconst 0, 1, 0, 0, 0, 0), (.goto 20, 3, 0, 670, 0, 0)])]
def tp_P43_40 : List (Nat × List tp_Ins) := [(653, [(.iload 22, 2, 0, 0, 0, 0), (.iload 23, 2, 0, 0, 0, 0), (.isub, 1, 0, 0, 0, 0), (.iload 12, 2, 0, 0, 0, 0), (.iconst 1, 1, 1, 0, 0, 0), (.iadd, 1, 0, 0, 0, 0), (.if_icmp .ne 7, 3, 0, 669, 0, 0), (.iconst 1, 1, 1, 0, 0, 0), (.goto 4, 3, 0, 670, 0, 0)]),
  (669, [(.iconst 0, 1, 0, 0, 0, 0)]),
  (670, [(.iadd, 1, 0, 0, 0, 0), (.istore 19, 2, 0, 0, 0, 0), (.iload 20, 2, 0, 0, 0, 0), (.aload_n 1, 1, 0, 0, 0, 0), (.iload 16, 2, 0, 0, 0, 0), (.iload 12, 2, 0, 0, 0, 0), (.aload 8, 2, 0, 0, 0, 0), (.iconst 4, 1, 4, 0, 0, 0), (.iload 21, 2, 0, 0, 0, 0), (.imul, 1, 0, 0, 0, 0), (.iconst 2, 1, 2, 0, 0, 0), (.iadd, 1, 0, 0, 0, 0), (.iaload, 1, 0, 0, 0, 0), (.aload 8, 2, 0, 0, 0, 0), (.iconst 4, 1, 4, 0, 0, 0), (.iload 21, 2, 0, 0, 0, 0), (.imul, 1, 0, 0, 0, 0), (.iconst 3, 1, 3, 0, 0, 0), (.iadd, 1, 0, 0, 0, 0), (.iaload, 1, 0, 0, 0, 0), (.invokevirtual 48, 3, 0, 29, 5, 359), (.ifCond .ne 7, 3, 0, 708, 0, 0), (.iconst 1, 1, 1, 0, 0, 0), (.goto 4, 3, 0, 709, 0, 0)]),
  (708, [(.iconst 0, 1, 0, 0, 0, 0)]),
  (709, [(.iadd, 1, 0, 0, 0, 0), (.istore 20, 2, 0, 0, 0, 0)]),
  (712, [(.iinc 21 1, 3, 1, 0, 0, 0), (.goto (-139), 3, 0, 576, 0, 0)]),
  (718, [(.aload_n 1, 1, 0, 0, 0, 0), (.iload 16, 2, 0, 0, 0, 0), (.iload 12, 2, 0, 0, 0, 0), (.iconst 1, 1, 1, 0, 0, 0), (.invokevirtual 45, 3, 0, 27, 4, 335), (.iload 18, 2, 0, 0, 0, 0), (.aload_n 1, 1, 0, 0, 0, 0), (.iload 16, 2, 0, 0, 0, 0), (.iload 12, 2, 0, 0, 0, 0), (.iconst 0, 1, 0, 0, 0, 0), (.invokevirtual 45, 3, 0, 27, 4, 335), (.iadd, 1, 0, 0, 0, 0), (.iload 19, 2, 0, 0, 0, 0), (.isub, 1, 0, 0, 0, 0), (.if_icmp .ne 17, 3, 0, 759, 0, 0), (.iload 20, 2, 0, 0, 0, 0), (.aload_n 1, 1, 0, 0, 0, 0), (.iload 16, 2, 0, 0, 0, 0), (.iload 12, 2, 0, 0, 0, 0), (.iconst 1, 1, 1, 0, 0, 0), (.invokevirtual 45, 3, 0, 27, 4, 335), (.if_icmp .eq 5, 3, 0, 761, 0, 0)]),
  (759, [(.iconst 0, 1, 0, 0, 0, 0), (.ireturn, 1, 0, 0, 0, 0)]),
  (761, [(.iconst 0, 1, 0, 0, 0, 0), (.istore 21, 2, 0, 0, 0, 0)]),
  (764, [(.iload 21, 2, 0, 0, 0, 0), (.bipush 16, 2, 16, 0, 0, 0), (.if_icmp .ge 65, 3, 0, 833, 0, 0), (.aload_n 1, 1, 0, 0, 0, 0), (.iload 16, 2, 0, 0, 0, 0), (.iload 12, 2, 0, 0, 0, 0), (.iload 21, 2, 0, 0, 0, 0), (.invokevirtual 51, 3, 0, 30, 4, 367), (.ifCond .ne 7, 3, 0, 788, 0, 0), (.iconst 1, 1, 1, 0, 0, 0), (.goto 4, 3, 0, 789, 0, 0)]),
  (788, [(.iconst 0, 1, 0, 0, 0, 0)]),
  (789, [(.iload 21, 2, 0, 0, 0, 0), (.aload_n 1, 1, 0, 0, 0, 0), (.iload 16, 2, 0, 0, 0, 0), (.iload 12, 2, 0, 0, 0, 0), (.iconst 0, 1, 0, 0, 0, 0), (.invokevirtual 45, 3, 0, 27, 4, 335), (.if_icmp .lt 21, 3, 0, 821, 0, 0), (.iload 21, 2, 0, 0, 0, 0), (.aload_n 1, 1, 0, 0, 0, 0), (.iload 16, 2, 0, 0, 0, 0), (.iload 12, 2, 0, 0, 0, 0), (.iconst 1, 1, 1, 0, 0, 0), (.invokevirtual 45, 3, 0, 27, 4, 335), (.if_icmp .gt 7, 3, 0, 821, 0, 0), (.iconst 1, 1, 1, 0, 0, 0), (.goto 4, 3, 0, 822, 0, 0)]),
  (821, [(.iconst 0, 1, 0, 0, 0, 0)]),
  (822, [(.if_icmp .eq 5, 3, 0, 827, 0, 0), (.iconst 0, 1, 0, 0, 0, 0), (.ireturn, 1, 0, 0, 0, 0)]),
  (827, [(.iinc 21 1, 3, 1, 0, 0, 0), (.goto (-66), 3, 0, 764, 0, 0)]),
  (833, [(.iinc 16 1, 3, 1, 0, 0, 0), (.goto (-382), 3, 0, 454, 0, 0)]),
  (839, [(.aload_n 1, 1, 0, 0, 0, 0), (.iload 13, 2, 0, 0, 0, 0), (.ifCond .ne 7, 3, 0, 849, 0, 0), (.iconst 1, 1, 1, 0, 0, 0), (.goto 4, 3, 0, 850, 0, 0)]),
  (849, [(.iconst 0, 1, 0, 0, 0, 0)]),
  (850, [(.iload 12, 2, 0, 0, 0, 0), (.iconst 0, 1, 0, 0, 0, 0), (.invokevirtual 54, 3, 0, 28, 4, 355), (.iload 14, 2, 0, 0, 0, 0), (.if_icmp .ne 25, 3, 0, 883, 0, 0), (.aload_n 1, 1, 0, 0, 0, 0), (.iload 13, 2, 0, 0, 0, 0), (.ifCond .ne 7, 3, 0, 871, 0, 0), (.iconst 1, 1, 1, 0, 0, 0), (.goto 4, 3, 0, 872, 0, 0)]),
  (871, [(.iconst 0, 1, 0, 0, 0, 0)])]
def tp_P43_60 : List (Nat × List tp_Ins) := [(872, [(.iload 12, 2, 0, 0, 0, 0), (.iconst 1, 1, 1, 0, 0, 0), (.invokevirtual 54, 3, 0, 28, 4, 355), (.iload 15, 2, 0, 0, 0, 0), (.if_icmp .eq 5, 3, 0, 885, 0, 0)]),
  (883, [(.iconst 0, 1, 0, 0, 0, 0), (.ireturn, 1, 0, 0, 0, 0)]),
  (885, [(.iinc 13 1, 3, 1, 0, 0, 0), (.goto (-449), 3, 0, 439, 0, 0)]),
  (891, [(.iinc 12 1, 3, 1, 0, 0, 0), (.goto (-465), 3, 0, 429, 0, 0)]),
  (897, [(.iload 9, 2, 0, 0, 0, 0), (.iconst 1, 1, 1, 0, 0, 0), (.isub, 1, 0, 0, 0, 0), (.istore 12, 2, 0, 0, 0, 0)]),
  (903, [(.iload 12, 2, 0, 0, 0, 0), (.ifCond .lt 89, 3, 0, 994, 0, 0), (.aload_n 1, 1, 0, 0, 0, 0), (.invokevirtual 58, 3, 0, 25, 1, 323), (.iload 12, 2, 0, 0, 0, 0), (.if_icmp .eq 5, 3, 0, 919, 0, 0), (.iconst 0, 1, 0, 0, 0, 0), (.ireturn, 1, 0, 0, 0, 0)]),
  (919, [(.aload 8, 2, 0, 0, 0, 0), (.iconst 4, 1, 4, 0, 0, 0), (.iload 12, 2, 0, 0, 0, 0), (.imul, 1, 0, 0, 0, 0), (.iconst 1, 1, 1, 0, 0, 0), (.iadd, 1, 0, 0, 0, 0), (.iaload, 1, 0, 0, 0, 0), (.istore 13, 2, 0, 0, 0, 0), (.aload_n 1, 1, 0, 0, 0, 0), (.iload 13, 2, 0, 0, 0, 0), (.aload 8, 2, 0, 0, 0, 0), (.iconst 4, 1, 4, 0, 0, 0), (.iload 12, 2, 0, 0, 0, 0), (.imul, 1, 0, 0, 0, 0), (.iconst 2, 1, 2, 0, 0, 0), (.iadd, 1, 0, 0, 0, 0), (.iaload, 1, 0, 0, 0, 0), (.iconst 0, 1, 0, 0, 0, 0), (.invokevirtual 62, 3, 0, 21, 4, 295), (.aload 8, 2, 0, 0, 0, 0), (.iconst 4, 1, 4, 0, 0, 0), (.iload 12, 2, 0, 0, 0, 0), (.imul, 1, 0, 0, 0, 0), (.iconst 3, 1, 3, 0, 0, 0), (.iadd, 1, 0, 0, 0, 0), (.iaload, 1, 0, 0, 0, 0), (.if_icmp .ne 31, 3, 0, 986, 0, 0), (.aload_n 1, 1, 0, 0, 0, 0), (.iconst 0, 1, 0, 0, 0, 0), (.iconst 0, 1, 0, 0, 0, 0), (.aload 8, 2, 0, 0, 0, 0), (.iconst 4, 1, 4, 0, 0, 0), (.iload 12, 2, 0, 0, 0, 0), (.imul, 1, 0, 0, 0, 0), (.iconst 2, 1, 2, 0, 0, 0), (.iadd, 1, 0, 0, 0, 0), (.iaload, 1, 0, 0, 0, 0), (.aload 8, 2, 0, 0, 0, 0), (.iconst 4, 1, 4, 0, 0, 0), (.iload 12, 2, 0, 0, 0, 0), (.imul, 1, 0, 0, 0, 0), (.iconst 3, 1, 3, 0, 0, 0), (.iadd, 1, 0, 0, 0, 0), (.iaload, 1, 0, 0, 0, 0), (.invokevirtual 48, 3, 0, 29, 5, 359), (.iconst 1, 1, 1, 0, 0, 0), (.if_icmp .eq 5, 3, 0, 988, 0, 0)]),
  (986, [(.iconst 0, 1, 0, 0, 0, 0), (.ireturn, 1, 0, 0, 0, 0)]),
  (988, [(.iinc 12 (-1), 3, -1, 0, 0, 0), (.goto (-88), 3, 0, 903, 0, 0)]),
  (994, [(.iconst 0, 1, 0, 0, 0, 0), (.istore 12, 2, 0, 0, 0, 0)]),
  (997, [(.iload 12, 2, 0, 0, 0, 0), (.iconst 4, 1, 4, 0, 0, 0), (.if_icmp .ge 29, 3, 0, 1029, 0, 0), (.aload_n 1, 1, 0, 0, 0, 0), (.iload 12, 2, 0, 0, 0, 0), (.invokevirtual 41, 3, 0, 26, 2, 331), (.ifCond .ne 12, 3, 0, 1021, 0, 0), (.aload_n 1, 1, 0, 0, 0, 0), (.iload 12, 2, 0, 0, 0, 0), (.invokevirtual 65, 3, 0, 23, 2, 311), (.ifCond .eq 5, 3, 0, 1023, 0, 0)]),
  (1021, [(.iconst 0, 1, 0, 0, 0, 0), (.ireturn, 1, 0, 0, 0, 0)]),
  (1023, [(.iinc 12 1, 3, 1, 0, 0, 0), (.goto (-29), 3, 0, 997, 0, 0)]),
  (1029, [(.aload_n 1, 1, 0, 0, 0, 0), (.invokevirtual 58, 3, 0, 25, 1, 323), (.bipush (-4), 2, -4, 0, 0, 0), (.if_icmp .ne 27, 3, 0, 1062, 0, 0), (.aload_n 1, 1, 0, 0, 0, 0), (.iconst 0, 1, 0, 0, 0, 0), (.invokevirtual 68, 3, 0, 31, 2, 372), (.bipush (-4), 2, -4, 0, 0, 0), (.if_icmp .ne 17, 3, 0, 1062, 0, 0), (.aload_n 1, 1, 0, 0, 0, 0), (.iconst 1, 1, 1, 0, 0, 0), (.invokevirtual 68, 3, 0, 31, 2, 372), (.bipush (-4), 2, -4, 0, 0, 0), (.if_icmp .ne 7, 3, 0, 1062, 0, 0), (.iconst 1, 1, 1, 0, 0, 0), (.goto 4, 3, 0, 1063, 0, 0)]),
  (1062, [(.iconst 0, 1, 0, 0, 0, 0)]),
  (1063, [(.ireturn, 1, 0, 0, 0, 0)])]
/-- L_law -/
def tp_P43 : List (Nat × List tp_Ins) := tp_P43_0 ++ tp_P43_20 ++ tp_P43_40 ++ tp_P43_60
def tp_PP0 : List (List (Nat × List tp_Ins)) := [tp_P0, tp_P1, tp_P2, tp_P3, tp_P4, tp_P5, tp_P6, tp_P7, tp_P8, tp_P9, tp_P10, tp_P11, tp_P12, tp_P13, tp_P14, tp_P15, tp_P16, tp_P17, tp_P18, tp_P19, tp_P20, tp_P21, tp_P22, tp_P23, tp_P24, tp_P25, tp_P26, tp_P27, tp_P28, tp_P29, tp_P30, tp_P31, tp_P32, tp_P33, tp_P34, tp_P35, tp_P36, tp_P37, tp_P38, tp_P39]
def tp_PP1 : List (List (Nat × List tp_Ins)) := [tp_P40, tp_P41, tp_P42, tp_P43]
def tp_PP : List (List (Nat × List tp_Ins)) := tp_PP0 ++ tp_PP1
def tp_prg (i : Nat) : List (Nat × List tp_Ins) := tp_PP.getD i []
def tp_blk (i pc : Nat) : List tp_Ins := ((tp_prg i).lookup pc).getD []
def tp_pmax : Nat × Nat × Nat := (282, 18, 283)
def tp_pmin : Nat × Nat × Nat := (285, 18, 286)
/-- the places of a method's words: its code, instance or static, selects, its class is initialised -/
def tp_mpl : List (Nat × Nat × Nat × Nat) := [(290, 288, 289, 10), (294, 292, 293, 10), (423, 421, 422, 10), (280, 278, 279, 10), (392, 390, 391, 10), (419, 417, 418, 12), (427, 425, 426, 12), (415, 413, 414, 12), (366, 364, 365, 12), (276, 274, 275, 12), (388, 386, 387, 12), (379, 377, 378, 12), (318, 316, 317, 11), (310, 308, 309, 11), (306, 304, 305, 11), (411, 409, 410, 11), (350, 348, 349, 11), (271, 269, 270, 9), (259, 257, 258, 9), (252, 250, 251, 8), (263, 261, 262, 8), (298, 296, 297, 8), (302, 300, 301, 8), (314, 312, 313, 8), (407, 405, 406, 8), (326, 324, 325, 8), (334, 332, 333, 8), (338, 336, 337, 8), (358, 356, 357, 8), (362, 360, 361, 8), (370, 368, 369, 8), (375, 373, 374, 8), (255, 254, 0, 8), (267, 266, 0, 8), (322, 321, 1, 8), (342, 341, 3, 8), (346, 345, 4, 8), (354, 353, 5, 8), (330, 329, 2, 8), (384, 383, 6, 8), (395, 394, 0, 7), (399, 398, 0, 7), (403, 402, 0, 7)]
/-- what is given of the script, which is never written -/
def tp_ro (ad : Nat → Nat) (A : Nat → Prop) (U : State) (H : Heap) (σ : tp_St) : Prop := va_T .int (ad 90) (σ.1 89 0).toNatClampNeg (fun j => .int (σ.1 90 j)) A U H
end
section
def tp_cls (i : Nat) : String := (tp_mi i).1
def tp_y (i : Nat) : MethodName := (tp_mi i).2.1
def tp_cc (i : Nat) : ByteArray := (tp_mi i).2.2.1
def tp_n (i : Nat) : Nat := (tp_mi i).2.2.2.1
def tp_ret (i : Nat) : Option FieldType := (tp_mi i).2.2.2.2.1
def tp_rf (i : Nat) : Nat := (tp_mi i).2.2.2.2.2.1.1
def tp_rl (i : Nat) : Nat := (tp_mi i).2.2.2.2.2.1.2
def tp_rk (i : Nat) : Nat := (tp_mi i).2.2.2.2.2.2.1
def tp_na (i : Nat) : Nat := (tp_mi i).2.2.2.2.2.2.2
/-! the check of an instruction -/
def tp_gt : List Cond := lw_tbl.filter goodWord
def tp_wd (c : Cond) (i : Nat) : Bool := decide (lw_tbl[i]? = some c) && goodWord c
theorem tp_gt_in {c : Cond} {i : Nat} (h : tp_wd c i = true) : c ∈ tp_gt := by
  simp only [tp_wd, Bool.and_eq_true, decide_eq_true_eq] at h
  exact List.mem_filter.mpr ⟨List.mem_of_getElem? h.1, h.2⟩
def tp_rm (i : Nat) : Room := { frames := tp_rf i, cells := 0, slots := 0, locals := tp_rl i }
def tp_wl (i : Nat) : List Cond := .code (tp_y i) (tp_cc i) (tp_n i) (tp_ret i) :: tp_gt
def tp_okc (mid a : Nat) : Bool := decide (a < tp_law) && decide (tp_rf a + 1 ≤ tp_rf mid ∧ 8 + (tp_n a + 11) + tp_rl a ≤ tp_rl mid)
def tp_ok2 (mid pc : Nat) (x : tp_Ins) : Bool := match x with
  | (i, n, v, a, b, w) => match i with
    | .iload_n _ => n == 1
    | .aload_n _ => n == 1
    | .lload_n _ => n == 1
    | .iload _ => n == 2
    | .aload _ => n == 2
    | .lload _ => n == 2
    | .iconst k => n == 1 && decide (Int32.ofInt k = v)
    | .bipush k => n == 2 && decide ((Int8.ofInt k).toInt32 = v)
    | .sipush k => n == 3 && decide ((Int16.ofInt k).toInt32 = v)
    | .ldc k => n == 2 && tp_wd (.constant (tp_cls mid) k v) w
    | .lconst _ => n == 1
    | .ldc2_w k => n == 3 && tp_wd (.constantLong (tp_cls mid) k (Int64.ofNat a)) w
    | .istore_n _ => n == 1
    | .astore_n _ => n == 1
    | .istore _ => n == 2
    | .astore _ => n == 2
    | .lstore _ => n == 2
    | .iinc _ k => n == 3 && decide (Int32.ofInt k = v)
    | .iadd => n == 1
    | .isub => n == 1
    | .imul => n == 1
    | .idiv => n == 1
    | .irem => n == 1
    | .ixor => n == 1
    | .newarray t => n == 2 && (match t with
      | .int => true
      | _ => false)
    | .iand => n == 1
    | .ior => n == 1
    | .ishl => n == 1
    | .ishr => n == 1
    | .i2l => n == 1
    | .i2b => n == 1
    | .i2s => n == 1
    | .i2c => n == 1
    | .l2i => n == 1
    | .ladd => n == 1
    | .land => n == 1
    | .lor => n == 1
    | .lcmp => n == 1
    | .lshl => n == 1
    | .lshr => n == 1
    | .lushr => n == 1
    | .dup => n == 1
    | .pop => n == 1
    | .dup_x1 => n == 1
    | .dup_x2 => n == 1
    | .dup2 => n == 1
    | .ifCond _ off => n == 3 && decide ((pc : Int) + off = (a : Int))
    | .if_icmp _ off => n == 3 && decide ((pc : Int) + off = (a : Int))
    | .goto off => n == 3 && decide ((pc : Int) + off = (a : Int))
    | .tableswitch d lo hi os => decide (0 ≤ (pc : Int) + d) && (os.toList.all (fun o => decide (0 ≤ (pc : Int) + o)) && decide (lo + os.size = hi + 1 ∧ lo = 0))
    | .lookupswitch d ps => decide (0 ≤ (pc : Int) + d) && (ps.toList.all (fun o => decide (0 ≤ (pc : Int) + o.2)) && (ps.toList.zip (ps.toList.drop 1)).all (fun (a, next) => a.1 < next.1))
    | .getfield k => n == 3 && (match vwCl[a]? with
        | some q => decide (b < q.2.2) && tp_wd (.fieldLink (tp_cls mid) k (q.2.1 b).1 (q.2.1 b).2.1 (q.2.1 b).2.2.1) w
        | none => false)
    | .putfield k => n == 3 && (match vwCl[a]? with
        | some q => decide (b < q.2.2) && (tp_wd (.fieldLink (tp_cls mid) k (q.2.1 b).1 (q.2.1 b).2.1 (q.2.1 b).2.2.1) w && (decide ((q.2.1 b).2.2.2 = false) && decide (parseFieldDescriptor (q.2.1 b).2.2.1 = some (match tp_isR a b with
          | true => .object RX1
          | false => .int))))
        | none => false)
    | .iaload => n == 1
    | .baload => n == 1
    | .aaload => n == 1
    | .iastore => n == 1
    | .bastore => n == 1
    | .arraylength => n == 1
    | .invokevirtual k => n == 3 && (tp_okc mid a && (decide (tp_rk a < 11) && tp_wd (.methodLink (tp_cls mid) k (tp_y a)) w))
    | .invokestatic k => n == 3 && (match a with
      | 900 => decide (1 ≤ tp_rf mid ∧ 21 ≤ tp_rl mid) && tp_wd (.methodLink (tp_cls mid) k Lib.Math.max.name) w
      | 901 => decide (1 ≤ tp_rf mid ∧ 21 ≤ tp_rl mid) && tp_wd (.methodLink (tp_cls mid) k Lib.Math.min.name) w
      | a => tp_okc mid a && (decide (tp_rk a = 50) && tp_wd (.methodLink (tp_cls mid) k (tp_y a)) w))
    | .ireturn => n == 1
    | .return_ => n == 1
    | _ => true
def tp_ok (mid pc : Nat) (x : tp_Ins) : Bool := decide (decode (tp_cc mid) pc = .ok (x.1, x.2.1)) && tp_ok2 mid pc x
def tp_okL (mid : Nat) : Nat → List tp_Ins → Bool
  | _, [] => true
  | pc, x :: is => tp_ok mid pc x && tp_okL mid (pc + x.2.1) is
/-- a method's own words -/
def tp_okM (i : Nat) : Bool := match tp_mpl.getD i (0, 0, 0, 0) with
  | (_, q2, q3, q4) => (match tp_rk i with
    | 50 => tp_wd (.static (tp_y i)) q2 && decide ((parseMethodDescriptor (tp_y i).desc).map (fun d => d.parameters.length) = some (tp_na i))
    | _ => tp_wd (.instanceMethod (tp_y i)) q2 && (tp_wd (.selects (tp_y i).cls (tp_y i) (tp_y i)) q3 && decide ((parseMethodDescriptor (tp_y i).desc).map (fun d => d.parameters.length) = some (tp_na i - 1) ∧ 0 < tp_na i)))
    && (tp_wd (.initialized (tp_y i).cls) q4 && (decide ((tp_y i).cls ≠ "java/lang/invoke/MethodHandle" ∧ (tp_y i).cls ≠ "java/lang/invoke/VarHandle") && (decide ((tp_y i).cls = tp_cls i) && (plainName (tp_y i).cls && (if tp_rk i < 11 then decide ((vwCl[tp_rk i]?).map (fun q => q.1) = some (tp_y i).cls) else true)))))
end
section
set_option maxRecDepth 100000 in
theorem tp_okp0 : (tp_prg 0).all (fun q => tp_okL 0 q.1 q.2) = true := by decide +kernel
set_option maxRecDepth 100000 in
theorem tp_okp1 : (tp_prg 1).all (fun q => tp_okL 1 q.1 q.2) = true := by decide +kernel
set_option maxRecDepth 100000 in
theorem tp_okp2 : (tp_prg 2).all (fun q => tp_okL 2 q.1 q.2) = true := by decide +kernel
set_option maxRecDepth 100000 in
theorem tp_okp3 : (tp_prg 3).all (fun q => tp_okL 3 q.1 q.2) = true := by decide +kernel
set_option maxRecDepth 100000 in
theorem tp_okp4 : (tp_prg 4).all (fun q => tp_okL 4 q.1 q.2) = true := by decide +kernel
set_option maxRecDepth 100000 in
theorem tp_okp5 : (tp_prg 5).all (fun q => tp_okL 5 q.1 q.2) = true := by decide +kernel
set_option maxRecDepth 100000 in
theorem tp_okp6 : (tp_prg 6).all (fun q => tp_okL 6 q.1 q.2) = true := by decide +kernel
set_option maxRecDepth 100000 in
theorem tp_okp7 : (tp_prg 7).all (fun q => tp_okL 7 q.1 q.2) = true := by decide +kernel
set_option maxRecDepth 100000 in
theorem tp_okp8 : (tp_prg 8).all (fun q => tp_okL 8 q.1 q.2) = true := by decide +kernel
set_option maxRecDepth 100000 in
theorem tp_okp9 : (tp_prg 9).all (fun q => tp_okL 9 q.1 q.2) = true := by decide +kernel
set_option maxRecDepth 100000 in
theorem tp_okp10 : (tp_prg 10).all (fun q => tp_okL 10 q.1 q.2) = true := by decide +kernel
set_option maxRecDepth 100000 in
theorem tp_okp11 : (tp_prg 11).all (fun q => tp_okL 11 q.1 q.2) = true := by decide +kernel
set_option maxRecDepth 100000 in
theorem tp_okp12 : (tp_prg 12).all (fun q => tp_okL 12 q.1 q.2) = true := by decide +kernel
set_option maxRecDepth 100000 in
theorem tp_okp13 : (tp_prg 13).all (fun q => tp_okL 13 q.1 q.2) = true := by decide +kernel
set_option maxRecDepth 100000 in
theorem tp_okp14 : (tp_prg 14).all (fun q => tp_okL 14 q.1 q.2) = true := by decide +kernel
set_option maxRecDepth 100000 in
theorem tp_okp15 : (tp_prg 15).all (fun q => tp_okL 15 q.1 q.2) = true := by decide +kernel
set_option maxRecDepth 100000 in
theorem tp_okp16 : (tp_prg 16).all (fun q => tp_okL 16 q.1 q.2) = true := by decide +kernel
set_option maxRecDepth 100000 in
theorem tp_okp17 : (tp_prg 17).all (fun q => tp_okL 17 q.1 q.2) = true := by decide +kernel
set_option maxRecDepth 100000 in
theorem tp_okp18 : (tp_prg 18).all (fun q => tp_okL 18 q.1 q.2) = true := by decide +kernel
set_option maxRecDepth 100000 in
theorem tp_okp19 : (tp_prg 19).all (fun q => tp_okL 19 q.1 q.2) = true := by decide +kernel
set_option maxRecDepth 100000 in
theorem tp_okp20 : (tp_prg 20).all (fun q => tp_okL 20 q.1 q.2) = true := by decide +kernel
set_option maxRecDepth 100000 in
theorem tp_okp21 : (tp_prg 21).all (fun q => tp_okL 21 q.1 q.2) = true := by decide +kernel
set_option maxRecDepth 100000 in
theorem tp_okp22 : (tp_prg 22).all (fun q => tp_okL 22 q.1 q.2) = true := by decide +kernel
set_option maxRecDepth 100000 in
theorem tp_okp23 : (tp_prg 23).all (fun q => tp_okL 23 q.1 q.2) = true := by decide +kernel
set_option maxRecDepth 100000 in
theorem tp_okp24 : (tp_prg 24).all (fun q => tp_okL 24 q.1 q.2) = true := by decide +kernel
set_option maxRecDepth 100000 in
theorem tp_okp25 : (tp_prg 25).all (fun q => tp_okL 25 q.1 q.2) = true := by decide +kernel
set_option maxRecDepth 100000 in
theorem tp_okp26 : (tp_prg 26).all (fun q => tp_okL 26 q.1 q.2) = true := by decide +kernel
set_option maxRecDepth 100000 in
theorem tp_okp27 : (tp_prg 27).all (fun q => tp_okL 27 q.1 q.2) = true := by decide +kernel
set_option maxRecDepth 100000 in
theorem tp_okp28 : (tp_prg 28).all (fun q => tp_okL 28 q.1 q.2) = true := by decide +kernel
set_option maxRecDepth 100000 in
theorem tp_okp29 : (tp_prg 29).all (fun q => tp_okL 29 q.1 q.2) = true := by decide +kernel
set_option maxRecDepth 100000 in
theorem tp_okp30 : (tp_prg 30).all (fun q => tp_okL 30 q.1 q.2) = true := by decide +kernel
set_option maxRecDepth 100000 in
theorem tp_okp31 : (tp_prg 31).all (fun q => tp_okL 31 q.1 q.2) = true := by decide +kernel
set_option maxRecDepth 100000 in
theorem tp_okp32 : (tp_prg 32).all (fun q => tp_okL 32 q.1 q.2) = true := by decide +kernel
set_option maxRecDepth 100000 in
theorem tp_okp33 : (tp_prg 33).all (fun q => tp_okL 33 q.1 q.2) = true := by decide +kernel
set_option maxRecDepth 100000 in
theorem tp_okp34 : (tp_prg 34).all (fun q => tp_okL 34 q.1 q.2) = true := by decide +kernel
set_option maxRecDepth 100000 in
theorem tp_okp35 : (tp_prg 35).all (fun q => tp_okL 35 q.1 q.2) = true := by decide +kernel
set_option maxRecDepth 100000 in
theorem tp_okp36 : (tp_prg 36).all (fun q => tp_okL 36 q.1 q.2) = true := by decide +kernel
set_option maxRecDepth 100000 in
theorem tp_okp37 : (tp_prg 37).all (fun q => tp_okL 37 q.1 q.2) = true := by decide +kernel
set_option maxRecDepth 100000 in
theorem tp_okp38 : (tp_prg 38).all (fun q => tp_okL 38 q.1 q.2) = true := by decide +kernel
set_option maxRecDepth 100000 in
theorem tp_okp39 : (tp_prg 39).all (fun q => tp_okL 39 q.1 q.2) = true := by decide +kernel
set_option maxRecDepth 100000 in
theorem tp_okp40 : (tp_prg 40).all (fun q => tp_okL 40 q.1 q.2) = true := by decide +kernel
set_option maxRecDepth 100000 in
theorem tp_okp41 : (tp_prg 41).all (fun q => tp_okL 41 q.1 q.2) = true := by decide +kernel
set_option maxRecDepth 100000 in
theorem tp_okp42 : (tp_prg 42).all (fun q => tp_okL 42 q.1 q.2) = true := by decide +kernel
set_option maxRecDepth 100000 in
theorem tp_okq0 : ((tp_prg 43)[0]?).all (fun q => tp_okL 43 q.1 q.2) = true := by decide +kernel
set_option maxRecDepth 100000 in
theorem tp_okq1 : ((tp_prg 43)[1]?).all (fun q => tp_okL 43 q.1 q.2) = true := by decide +kernel
set_option maxRecDepth 100000 in
theorem tp_okq2 : ((tp_prg 43)[2]?).all (fun q => tp_okL 43 q.1 q.2) = true := by decide +kernel
set_option maxRecDepth 100000 in
theorem tp_okq3 : ((tp_prg 43)[3]?).all (fun q => tp_okL 43 q.1 q.2) = true := by decide +kernel
set_option maxRecDepth 100000 in
theorem tp_okq4 : ((tp_prg 43)[4]?).all (fun q => tp_okL 43 q.1 q.2) = true := by decide +kernel
set_option maxRecDepth 100000 in
theorem tp_okq5 : ((tp_prg 43)[5]?).all (fun q => tp_okL 43 q.1 q.2) = true := by decide +kernel
set_option maxRecDepth 100000 in
theorem tp_okq6 : ((tp_prg 43)[6]?).all (fun q => tp_okL 43 q.1 q.2) = true := by decide +kernel
set_option maxRecDepth 100000 in
theorem tp_okq7 : ((tp_prg 43)[7]?).all (fun q => tp_okL 43 q.1 q.2) = true := by decide +kernel
set_option maxRecDepth 100000 in
theorem tp_okq8 : ((tp_prg 43)[8]?).all (fun q => tp_okL 43 q.1 q.2) = true := by decide +kernel
set_option maxRecDepth 100000 in
theorem tp_okq9 : ((tp_prg 43)[9]?).all (fun q => tp_okL 43 q.1 q.2) = true := by decide +kernel
set_option maxRecDepth 100000 in
theorem tp_okq10 : ((tp_prg 43)[10]?).all (fun q => tp_okL 43 q.1 q.2) = true := by decide +kernel
set_option maxRecDepth 100000 in
theorem tp_okq11 : ((tp_prg 43)[11]?).all (fun q => tp_okL 43 q.1 q.2) = true := by decide +kernel
set_option maxRecDepth 100000 in
theorem tp_okq12 : ((tp_prg 43)[12]?).all (fun q => tp_okL 43 q.1 q.2) = true := by decide +kernel
set_option maxRecDepth 100000 in
theorem tp_okq13 : ((tp_prg 43)[13]?).all (fun q => tp_okL 43 q.1 q.2) = true := by decide +kernel
set_option maxRecDepth 100000 in
theorem tp_okq14 : ((tp_prg 43)[14]?).all (fun q => tp_okL 43 q.1 q.2) = true := by decide +kernel
set_option maxRecDepth 100000 in
theorem tp_okq15 : ((tp_prg 43)[15]?).all (fun q => tp_okL 43 q.1 q.2) = true := by decide +kernel
set_option maxRecDepth 100000 in
theorem tp_okq16 : ((tp_prg 43)[16]?).all (fun q => tp_okL 43 q.1 q.2) = true := by decide +kernel
set_option maxRecDepth 100000 in
theorem tp_okq17 : ((tp_prg 43)[17]?).all (fun q => tp_okL 43 q.1 q.2) = true := by decide +kernel
set_option maxRecDepth 100000 in
theorem tp_okq18 : ((tp_prg 43)[18]?).all (fun q => tp_okL 43 q.1 q.2) = true := by decide +kernel
set_option maxRecDepth 100000 in
theorem tp_okq19 : ((tp_prg 43)[19]?).all (fun q => tp_okL 43 q.1 q.2) = true := by decide +kernel
set_option maxRecDepth 100000 in
theorem tp_okq20 : ((tp_prg 43)[20]?).all (fun q => tp_okL 43 q.1 q.2) = true := by decide +kernel
set_option maxRecDepth 100000 in
theorem tp_okq21 : ((tp_prg 43)[21]?).all (fun q => tp_okL 43 q.1 q.2) = true := by decide +kernel
set_option maxRecDepth 100000 in
theorem tp_okq22 : ((tp_prg 43)[22]?).all (fun q => tp_okL 43 q.1 q.2) = true := by decide +kernel
set_option maxRecDepth 100000 in
theorem tp_okq23 : ((tp_prg 43)[23]?).all (fun q => tp_okL 43 q.1 q.2) = true := by decide +kernel
set_option maxRecDepth 100000 in
theorem tp_okq24 : ((tp_prg 43)[24]?).all (fun q => tp_okL 43 q.1 q.2) = true := by decide +kernel
set_option maxRecDepth 100000 in
theorem tp_okq25 : ((tp_prg 43)[25]?).all (fun q => tp_okL 43 q.1 q.2) = true := by decide +kernel
set_option maxRecDepth 100000 in
theorem tp_okq26 : ((tp_prg 43)[26]?).all (fun q => tp_okL 43 q.1 q.2) = true := by decide +kernel
set_option maxRecDepth 100000 in
theorem tp_okq27 : ((tp_prg 43)[27]?).all (fun q => tp_okL 43 q.1 q.2) = true := by decide +kernel
set_option maxRecDepth 100000 in
theorem tp_okq28 : ((tp_prg 43)[28]?).all (fun q => tp_okL 43 q.1 q.2) = true := by decide +kernel
set_option maxRecDepth 100000 in
theorem tp_okq29 : ((tp_prg 43)[29]?).all (fun q => tp_okL 43 q.1 q.2) = true := by decide +kernel
set_option maxRecDepth 100000 in
theorem tp_okq30 : ((tp_prg 43)[30]?).all (fun q => tp_okL 43 q.1 q.2) = true := by decide +kernel
set_option maxRecDepth 100000 in
theorem tp_okq31 : ((tp_prg 43)[31]?).all (fun q => tp_okL 43 q.1 q.2) = true := by decide +kernel
set_option maxRecDepth 100000 in
theorem tp_okq32 : ((tp_prg 43)[32]?).all (fun q => tp_okL 43 q.1 q.2) = true := by decide +kernel
set_option maxRecDepth 100000 in
theorem tp_okq33 : ((tp_prg 43)[33]?).all (fun q => tp_okL 43 q.1 q.2) = true := by decide +kernel
set_option maxRecDepth 100000 in
theorem tp_okq34 : ((tp_prg 43)[34]?).all (fun q => tp_okL 43 q.1 q.2) = true := by decide +kernel
set_option maxRecDepth 100000 in
theorem tp_okq35 : ((tp_prg 43)[35]?).all (fun q => tp_okL 43 q.1 q.2) = true := by decide +kernel
set_option maxRecDepth 100000 in
theorem tp_okq36 : ((tp_prg 43)[36]?).all (fun q => tp_okL 43 q.1 q.2) = true := by decide +kernel
set_option maxRecDepth 100000 in
theorem tp_okq37 : ((tp_prg 43)[37]?).all (fun q => tp_okL 43 q.1 q.2) = true := by decide +kernel
set_option maxRecDepth 100000 in
theorem tp_okq38 : ((tp_prg 43)[38]?).all (fun q => tp_okL 43 q.1 q.2) = true := by decide +kernel
set_option maxRecDepth 100000 in
theorem tp_okq39 : ((tp_prg 43)[39]?).all (fun q => tp_okL 43 q.1 q.2) = true := by decide +kernel
set_option maxRecDepth 100000 in
theorem tp_okq40 : ((tp_prg 43)[40]?).all (fun q => tp_okL 43 q.1 q.2) = true := by decide +kernel
set_option maxRecDepth 100000 in
theorem tp_okq41 : ((tp_prg 43)[41]?).all (fun q => tp_okL 43 q.1 q.2) = true := by decide +kernel
set_option maxRecDepth 100000 in
theorem tp_okq42 : ((tp_prg 43)[42]?).all (fun q => tp_okL 43 q.1 q.2) = true := by decide +kernel
set_option maxRecDepth 100000 in
theorem tp_okq43 : ((tp_prg 43)[43]?).all (fun q => tp_okL 43 q.1 q.2) = true := by decide +kernel
set_option maxRecDepth 100000 in
theorem tp_okq44 : ((tp_prg 43)[44]?).all (fun q => tp_okL 43 q.1 q.2) = true := by decide +kernel
set_option maxRecDepth 100000 in
theorem tp_okq45 : ((tp_prg 43)[45]?).all (fun q => tp_okL 43 q.1 q.2) = true := by decide +kernel
set_option maxRecDepth 100000 in
theorem tp_okq46 : ((tp_prg 43)[46]?).all (fun q => tp_okL 43 q.1 q.2) = true := by decide +kernel
set_option maxRecDepth 100000 in
theorem tp_okq47 : ((tp_prg 43)[47]?).all (fun q => tp_okL 43 q.1 q.2) = true := by decide +kernel
set_option maxRecDepth 100000 in
theorem tp_okq48 : ((tp_prg 43)[48]?).all (fun q => tp_okL 43 q.1 q.2) = true := by decide +kernel
set_option maxRecDepth 100000 in
theorem tp_okq49 : ((tp_prg 43)[49]?).all (fun q => tp_okL 43 q.1 q.2) = true := by decide +kernel
set_option maxRecDepth 100000 in
theorem tp_okq50 : ((tp_prg 43)[50]?).all (fun q => tp_okL 43 q.1 q.2) = true := by decide +kernel
set_option maxRecDepth 100000 in
theorem tp_okq51 : ((tp_prg 43)[51]?).all (fun q => tp_okL 43 q.1 q.2) = true := by decide +kernel
set_option maxRecDepth 100000 in
theorem tp_okq52 : ((tp_prg 43)[52]?).all (fun q => tp_okL 43 q.1 q.2) = true := by decide +kernel
set_option maxRecDepth 100000 in
theorem tp_okq53 : ((tp_prg 43)[53]?).all (fun q => tp_okL 43 q.1 q.2) = true := by decide +kernel
set_option maxRecDepth 100000 in
theorem tp_okq54 : ((tp_prg 43)[54]?).all (fun q => tp_okL 43 q.1 q.2) = true := by decide +kernel
set_option maxRecDepth 100000 in
theorem tp_okq55 : ((tp_prg 43)[55]?).all (fun q => tp_okL 43 q.1 q.2) = true := by decide +kernel
set_option maxRecDepth 100000 in
theorem tp_okq56 : ((tp_prg 43)[56]?).all (fun q => tp_okL 43 q.1 q.2) = true := by decide +kernel
set_option maxRecDepth 100000 in
theorem tp_okq57 : ((tp_prg 43)[57]?).all (fun q => tp_okL 43 q.1 q.2) = true := by decide +kernel
set_option maxRecDepth 100000 in
theorem tp_okq58 : ((tp_prg 43)[58]?).all (fun q => tp_okL 43 q.1 q.2) = true := by decide +kernel
set_option maxRecDepth 100000 in
theorem tp_okq59 : ((tp_prg 43)[59]?).all (fun q => tp_okL 43 q.1 q.2) = true := by decide +kernel
set_option maxRecDepth 100000 in
theorem tp_okq60 : ((tp_prg 43)[60]?).all (fun q => tp_okL 43 q.1 q.2) = true := by decide +kernel
set_option maxRecDepth 100000 in
theorem tp_okq61 : ((tp_prg 43)[61]?).all (fun q => tp_okL 43 q.1 q.2) = true := by decide +kernel
set_option maxRecDepth 100000 in
theorem tp_okq62 : ((tp_prg 43)[62]?).all (fun q => tp_okL 43 q.1 q.2) = true := by decide +kernel
set_option maxRecDepth 100000 in
theorem tp_okq63 : ((tp_prg 43)[63]?).all (fun q => tp_okL 43 q.1 q.2) = true := by decide +kernel
set_option maxRecDepth 100000 in
theorem tp_okq64 : ((tp_prg 43)[64]?).all (fun q => tp_okL 43 q.1 q.2) = true := by decide +kernel
set_option maxRecDepth 100000 in
theorem tp_okq65 : ((tp_prg 43)[65]?).all (fun q => tp_okL 43 q.1 q.2) = true := by decide +kernel
set_option maxRecDepth 100000 in
theorem tp_okq66 : ((tp_prg 43)[66]?).all (fun q => tp_okL 43 q.1 q.2) = true := by decide +kernel
set_option maxRecDepth 100000 in
theorem tp_okq67 : ((tp_prg 43)[67]?).all (fun q => tp_okL 43 q.1 q.2) = true := by decide +kernel
set_option maxRecDepth 100000 in
theorem tp_okq68 : ((tp_prg 43)[68]?).all (fun q => tp_okL 43 q.1 q.2) = true := by decide +kernel
set_option maxRecDepth 100000 in
theorem tp_okq69 : ((tp_prg 43)[69]?).all (fun q => tp_okL 43 q.1 q.2) = true := by decide +kernel
set_option maxRecDepth 100000 in
theorem tp_okq70 : ((tp_prg 43)[70]?).all (fun q => tp_okL 43 q.1 q.2) = true := by decide +kernel
set_option maxRecDepth 100000 in
theorem tp_okq71 : ((tp_prg 43)[71]?).all (fun q => tp_okL 43 q.1 q.2) = true := by decide +kernel
set_option maxRecDepth 100000 in
theorem tp_okq72 : ((tp_prg 43)[72]?).all (fun q => tp_okL 43 q.1 q.2) = true := by decide +kernel
set_option maxRecDepth 100000 in
theorem tp_okq73 : ((tp_prg 43)[73]?).all (fun q => tp_okL 43 q.1 q.2) = true := by decide +kernel
set_option maxRecDepth 100000 in
theorem tp_okq74 : ((tp_prg 43)[74]?).all (fun q => tp_okL 43 q.1 q.2) = true := by decide +kernel
set_option maxRecDepth 100000 in
theorem tp_okq75 : ((tp_prg 43)[75]?).all (fun q => tp_okL 43 q.1 q.2) = true := by decide +kernel
theorem tp_cw0 : lw_tbl[(tp_mpl.getD 0 (0, 0, 0, 0)).1]? = some (.code (tp_y 0) (tp_cc 0) (tp_n 0) (tp_ret 0)) := by decide +kernel
theorem tp_cw1 : lw_tbl[(tp_mpl.getD 1 (0, 0, 0, 0)).1]? = some (.code (tp_y 1) (tp_cc 1) (tp_n 1) (tp_ret 1)) := by decide +kernel
theorem tp_cw2 : lw_tbl[(tp_mpl.getD 2 (0, 0, 0, 0)).1]? = some (.code (tp_y 2) (tp_cc 2) (tp_n 2) (tp_ret 2)) := by decide +kernel
theorem tp_cw3 : lw_tbl[(tp_mpl.getD 3 (0, 0, 0, 0)).1]? = some (.code (tp_y 3) (tp_cc 3) (tp_n 3) (tp_ret 3)) := by decide +kernel
theorem tp_cw4 : lw_tbl[(tp_mpl.getD 4 (0, 0, 0, 0)).1]? = some (.code (tp_y 4) (tp_cc 4) (tp_n 4) (tp_ret 4)) := by decide +kernel
theorem tp_cw5 : lw_tbl[(tp_mpl.getD 5 (0, 0, 0, 0)).1]? = some (.code (tp_y 5) (tp_cc 5) (tp_n 5) (tp_ret 5)) := by decide +kernel
theorem tp_cw6 : lw_tbl[(tp_mpl.getD 6 (0, 0, 0, 0)).1]? = some (.code (tp_y 6) (tp_cc 6) (tp_n 6) (tp_ret 6)) := by decide +kernel
theorem tp_cw7 : lw_tbl[(tp_mpl.getD 7 (0, 0, 0, 0)).1]? = some (.code (tp_y 7) (tp_cc 7) (tp_n 7) (tp_ret 7)) := by decide +kernel
theorem tp_cw8 : lw_tbl[(tp_mpl.getD 8 (0, 0, 0, 0)).1]? = some (.code (tp_y 8) (tp_cc 8) (tp_n 8) (tp_ret 8)) := by decide +kernel
theorem tp_cw9 : lw_tbl[(tp_mpl.getD 9 (0, 0, 0, 0)).1]? = some (.code (tp_y 9) (tp_cc 9) (tp_n 9) (tp_ret 9)) := by decide +kernel
theorem tp_cw10 : lw_tbl[(tp_mpl.getD 10 (0, 0, 0, 0)).1]? = some (.code (tp_y 10) (tp_cc 10) (tp_n 10) (tp_ret 10)) := by decide +kernel
theorem tp_cw11 : lw_tbl[(tp_mpl.getD 11 (0, 0, 0, 0)).1]? = some (.code (tp_y 11) (tp_cc 11) (tp_n 11) (tp_ret 11)) := by decide +kernel
theorem tp_cw12 : lw_tbl[(tp_mpl.getD 12 (0, 0, 0, 0)).1]? = some (.code (tp_y 12) (tp_cc 12) (tp_n 12) (tp_ret 12)) := by decide +kernel
theorem tp_cw13 : lw_tbl[(tp_mpl.getD 13 (0, 0, 0, 0)).1]? = some (.code (tp_y 13) (tp_cc 13) (tp_n 13) (tp_ret 13)) := by decide +kernel
theorem tp_cw14 : lw_tbl[(tp_mpl.getD 14 (0, 0, 0, 0)).1]? = some (.code (tp_y 14) (tp_cc 14) (tp_n 14) (tp_ret 14)) := by decide +kernel
theorem tp_cw15 : lw_tbl[(tp_mpl.getD 15 (0, 0, 0, 0)).1]? = some (.code (tp_y 15) (tp_cc 15) (tp_n 15) (tp_ret 15)) := by decide +kernel
theorem tp_cw16 : lw_tbl[(tp_mpl.getD 16 (0, 0, 0, 0)).1]? = some (.code (tp_y 16) (tp_cc 16) (tp_n 16) (tp_ret 16)) := by decide +kernel
theorem tp_cw17 : lw_tbl[(tp_mpl.getD 17 (0, 0, 0, 0)).1]? = some (.code (tp_y 17) (tp_cc 17) (tp_n 17) (tp_ret 17)) := by decide +kernel
theorem tp_cw18 : lw_tbl[(tp_mpl.getD 18 (0, 0, 0, 0)).1]? = some (.code (tp_y 18) (tp_cc 18) (tp_n 18) (tp_ret 18)) := by decide +kernel
theorem tp_cw19 : lw_tbl[(tp_mpl.getD 19 (0, 0, 0, 0)).1]? = some (.code (tp_y 19) (tp_cc 19) (tp_n 19) (tp_ret 19)) := by decide +kernel
theorem tp_cw20 : lw_tbl[(tp_mpl.getD 20 (0, 0, 0, 0)).1]? = some (.code (tp_y 20) (tp_cc 20) (tp_n 20) (tp_ret 20)) := by decide +kernel
theorem tp_cw21 : lw_tbl[(tp_mpl.getD 21 (0, 0, 0, 0)).1]? = some (.code (tp_y 21) (tp_cc 21) (tp_n 21) (tp_ret 21)) := by decide +kernel
theorem tp_cw22 : lw_tbl[(tp_mpl.getD 22 (0, 0, 0, 0)).1]? = some (.code (tp_y 22) (tp_cc 22) (tp_n 22) (tp_ret 22)) := by decide +kernel
theorem tp_cw23 : lw_tbl[(tp_mpl.getD 23 (0, 0, 0, 0)).1]? = some (.code (tp_y 23) (tp_cc 23) (tp_n 23) (tp_ret 23)) := by decide +kernel
theorem tp_cw24 : lw_tbl[(tp_mpl.getD 24 (0, 0, 0, 0)).1]? = some (.code (tp_y 24) (tp_cc 24) (tp_n 24) (tp_ret 24)) := by decide +kernel
theorem tp_cw25 : lw_tbl[(tp_mpl.getD 25 (0, 0, 0, 0)).1]? = some (.code (tp_y 25) (tp_cc 25) (tp_n 25) (tp_ret 25)) := by decide +kernel
theorem tp_cw26 : lw_tbl[(tp_mpl.getD 26 (0, 0, 0, 0)).1]? = some (.code (tp_y 26) (tp_cc 26) (tp_n 26) (tp_ret 26)) := by decide +kernel
theorem tp_cw27 : lw_tbl[(tp_mpl.getD 27 (0, 0, 0, 0)).1]? = some (.code (tp_y 27) (tp_cc 27) (tp_n 27) (tp_ret 27)) := by decide +kernel
theorem tp_cw28 : lw_tbl[(tp_mpl.getD 28 (0, 0, 0, 0)).1]? = some (.code (tp_y 28) (tp_cc 28) (tp_n 28) (tp_ret 28)) := by decide +kernel
theorem tp_cw29 : lw_tbl[(tp_mpl.getD 29 (0, 0, 0, 0)).1]? = some (.code (tp_y 29) (tp_cc 29) (tp_n 29) (tp_ret 29)) := by decide +kernel
theorem tp_cw30 : lw_tbl[(tp_mpl.getD 30 (0, 0, 0, 0)).1]? = some (.code (tp_y 30) (tp_cc 30) (tp_n 30) (tp_ret 30)) := by decide +kernel
theorem tp_cw31 : lw_tbl[(tp_mpl.getD 31 (0, 0, 0, 0)).1]? = some (.code (tp_y 31) (tp_cc 31) (tp_n 31) (tp_ret 31)) := by decide +kernel
theorem tp_cw32 : lw_tbl[(tp_mpl.getD 32 (0, 0, 0, 0)).1]? = some (.code (tp_y 32) (tp_cc 32) (tp_n 32) (tp_ret 32)) := by decide +kernel
theorem tp_cw33 : lw_tbl[(tp_mpl.getD 33 (0, 0, 0, 0)).1]? = some (.code (tp_y 33) (tp_cc 33) (tp_n 33) (tp_ret 33)) := by decide +kernel
theorem tp_cw34 : lw_tbl[(tp_mpl.getD 34 (0, 0, 0, 0)).1]? = some (.code (tp_y 34) (tp_cc 34) (tp_n 34) (tp_ret 34)) := by decide +kernel
theorem tp_cw35 : lw_tbl[(tp_mpl.getD 35 (0, 0, 0, 0)).1]? = some (.code (tp_y 35) (tp_cc 35) (tp_n 35) (tp_ret 35)) := by decide +kernel
theorem tp_cw36 : lw_tbl[(tp_mpl.getD 36 (0, 0, 0, 0)).1]? = some (.code (tp_y 36) (tp_cc 36) (tp_n 36) (tp_ret 36)) := by decide +kernel
theorem tp_cw37 : lw_tbl[(tp_mpl.getD 37 (0, 0, 0, 0)).1]? = some (.code (tp_y 37) (tp_cc 37) (tp_n 37) (tp_ret 37)) := by decide +kernel
theorem tp_cw38 : lw_tbl[(tp_mpl.getD 38 (0, 0, 0, 0)).1]? = some (.code (tp_y 38) (tp_cc 38) (tp_n 38) (tp_ret 38)) := by decide +kernel
theorem tp_cw39 : lw_tbl[(tp_mpl.getD 39 (0, 0, 0, 0)).1]? = some (.code (tp_y 39) (tp_cc 39) (tp_n 39) (tp_ret 39)) := by decide +kernel
theorem tp_cw40 : lw_tbl[(tp_mpl.getD 40 (0, 0, 0, 0)).1]? = some (.code (tp_y 40) (tp_cc 40) (tp_n 40) (tp_ret 40)) := by decide +kernel
theorem tp_cw41 : lw_tbl[(tp_mpl.getD 41 (0, 0, 0, 0)).1]? = some (.code (tp_y 41) (tp_cc 41) (tp_n 41) (tp_ret 41)) := by decide +kernel
theorem tp_cw42 : lw_tbl[(tp_mpl.getD 42 (0, 0, 0, 0)).1]? = some (.code (tp_y 42) (tp_cc 42) (tp_n 42) (tp_ret 42)) := by decide +kernel
theorem tp_okMs : (List.range 43).all tp_okM = true := by decide +kernel
end
section
theorem tp_cl0 : ∀ w ∈ wsX00, w ∈ tp_gt := by decide +kernel
theorem tp_cl1 : ∀ w ∈ wsX10, w ∈ tp_gt := by decide +kernel
theorem tp_cl2 : ∀ w ∈ wsX20, w ∈ tp_gt := by decide +kernel
theorem tp_cl3 : ∀ w ∈ wsX30, w ∈ tp_gt := by decide +kernel
theorem tp_cl4 : ∀ w ∈ wsX40, w ∈ tp_gt := by decide +kernel
theorem tp_cl5 : ∀ w ∈ wsX50, w ∈ tp_gt := by decide +kernel
theorem tp_cl6 : ∀ w ∈ wsX60, w ∈ tp_gt := by decide +kernel
theorem tp_cl7 : ∀ w ∈ wsX70, w ∈ tp_gt := by decide +kernel
theorem tp_cl8 : ∀ w ∈ wsX80, w ∈ tp_gt := by decide +kernel
theorem tp_cl9 : ∀ w ∈ wsX90, w ∈ tp_gt := by decide +kernel
end
section
/-! THE MINI MACHINE: what a stretch of bytecode does, as a proposition over symbolic locals, stack and store -/
def tp_chk (b : Bool) (P : Prop) : Prop := match b with
  | true => P
  | false => False
def tp_i1 (st : List Value) (f : Int32 → List Value → Prop) : Prop := match st with
  | .int x :: r => f x r
  | _ => False
def tp_i2 (st : List Value) (f : Int32 → Int32 → List Value → Prop) : Prop := match st with
  | .int y :: .int x :: r => f x y r
  | _ => False
def tp_l1 (st : List Value) (f : Int64 → List Value → Prop) : Prop := match st with
  | .long x :: r => f x r
  | _ => False
def tp_l2 (st : List Value) (f : Int64 → Int64 → List Value → Prop) : Prop := match st with
  | .long y :: .long x :: r => f x y r
  | _ => False
def tp_il (st : List Value) (f : Int64 → Int32 → List Value → Prop) : Prop := match st with
  | .int y :: .long x :: r => f x y r
  | _ => False
def tp_r1 (st : List Value) (f : Nat → List Value → Prop) : Prop := match st with
  | .ref o :: r => f o r
  | _ => False
def tp_ri (st : List Value) (f : Nat → Int32 → List Value → Prop) : Prop := match st with
  | .int j :: .ref o :: r => f o j r
  | _ => False
def tp_rii (st : List Value) (f : Nat → Int32 → Int32 → List Value → Prop) : Prop := match st with
  | .int v :: .int j :: .ref o :: r => f o j v r
  | _ => False
def tp_r2 (st : List Value) (f : Nat → Nat → List Value → Prop) : Prop := match st with
  | .ref v :: .ref o :: r => f o v r
  | _ => False
def tp_a1 (st : List Value) (f : Value → List Value → Prop) : Prop := match st with
  | v :: r => tp_chk (v.category == 1) (f v r)
  | _ => False
def tp_a2 (st : List Value) (f : Value → Value → List Value → Prop) : Prop := match st with
  | v :: u :: r => tp_chk (v.category == 1 && u.category == 1) (f v u r)
  | _ => False
def tp_a3 (st : List Value) (f : Value → Value → Value → List Value → Prop) : Prop := match st with
  | v :: u :: w :: r => tp_chk (v.category == 1 && u.category == 1 && w.category == 1) (f v u w r)
  | _ => False
def tp_gi (L : List Value) (k : Nat) (f : Int32 → Prop) : Prop := match L[k]? with
  | some (.int x) => f x
  | _ => False
def tp_gl (L : List Value) (k : Nat) (f : Int64 → Prop) : Prop := match L[k]? with
  | some (.long x) => f x
  | _ => False
def tp_gr (L : List Value) (k : Nat) (f : Nat → Prop) : Prop := match L[k]? with
  | some (.ref x) => f x
  | _ => False
def tp_ok1 (L : List Value) (k : Nat) : Bool := decide (k < L.length) && (k == 0 || !((L.getD (k - 1) .null).category == 2))
/-- the store, but v at place k of object o -/
def tp_up (f : Nat → Nat → Int32) (o k : Nat) (v : Int32) : Nat → Nat → Int32 := fun o' k' => if o' = o then (if k' = k then v else f o' k') else f o' k'
def tp_set (σ : tp_St) (o k : Nat) (v : Int32) : tp_St := (tp_up σ.1 o k v, σ.2)
def tp_len (σ : tp_St) (o : Nat) : Nat := if tp_kd o = 26 then (σ.1 89 0).toNatClampNeg else tp_ln o
/-- an array that is there: the class's own, one that the law has made, or the script -/
def tp_on (σ : tp_St) (o : Nat) : Prop := o < 58 ∨ o < σ.2.1 ∨ o = 90
def tp_bt (k : Nat) : FieldType := if k = 21 then .byte else .boolean
def tp_ent1 : List Value → List Value
  | [] => []
  | v :: r => if v.category = 2 then v :: .null :: tp_ent1 r else v :: tp_ent1 r
/-- a method's locals at its begin -/
def tp_ent (i : Nat) (av : List Value) : List Value := tp_ent1 av ++ List.replicate (tp_n i - (tp_ent1 av).length) .null
def tp_push (i : Nat) (r : Int32) (st : List Value) : List Value := match tp_ret i with
  | none => st
  | some _ => .int r :: st
def tp_rcv (v : Option Value) (k : Nat) : Bool := match v with
  | some (.ref o) => tp_kd o == k
  | _ => false
def tp_tl (K : Nat → Prop) (pc : Nat) (x : Int32) : Int → List Int → Prop
  | _, [] => True
  | lo, o :: os => (x.toInt = lo → K ((pc : Int) + o).toNat) ∧ tp_tl K pc x (lo + 1) os
def tp_lk (K : Nat → Prop) (pc : Nat) (x : Int32) (d : Int) : List (Int × Int) → Prop
  | [] => K ((pc : Int) + d).toNat
  | q :: qs => (x.toInt = q.1 → K ((pc : Int) + q.2).toNat) ∧ (¬ x.toInt = q.1 → tp_lk K pc x d qs)
abbrev tp_KT : Type := Nat → List Value → List Value → tp_St → Prop
abbrev tp_CT : Type := Nat → List Value → tp_St → (Int32 → tp_St → Prop) → Prop
def tp_four (j : Int32) (f : Nat → Prop) : Prop := (j = 0 → f 20) ∧ (j = 1 → f 21) ∧ (j = 2 → f 22) ∧ (j = 3 → f 23)
/-- fewer locals known -/
def tp_wk : List Value → List Value → Prop
  | [], [] => True
  | v :: r, w :: s => (v = .null ∨ v = w) ∧ tp_wk r s
  | _, _ => False
theorem tp_wk_rf : ∀ L : List Value, tp_wk L L
  | [] => trivial
  | _ :: r => ⟨Or.inr rfl, tp_wk_rf r⟩
def tp_is (a : Nat) (f g h : Prop) : Prop := match a with
  | 900 => f
  | 901 => g
  | _ => h
theorem tp_is_e {a : Nat} {f g h : Prop} (q : tp_is a f g h) (h1 : a ≠ 900) (h2 : a ≠ 901) : h := by
  unfold tp_is at q
  split at q
  · exact absurd rfl h1
  · exact absurd rfl h2
  · exact q
def tp_br (P : Prop) (K nx : Prop) : Prop := (P → K) ∧ (¬ P → nx)
/-- one instruction -/
def tp_I (mid : Nat) (K : tp_KT) (C : tp_CT) (post : Int32 → tp_St → Prop) (nx : List Value → List Value → tp_St → Prop) (x : tp_Ins) (pc : Nat) (L st : List Value) (σ : tp_St) : Prop :=
  match x.1 with
  | .iload_n k => tp_gi L k.val (fun v => nx L (.int v :: st) σ)
  | .iload k => tp_gi L k (fun v => nx L (.int v :: st) σ)
  | .lload_n k => tp_gl L k.val (fun v => nx L (.long v :: st) σ)
  | .lload k => tp_gl L k (fun v => nx L (.long v :: st) σ)
  | .aload_n k => tp_gr L k.val (fun v => nx L (.ref v :: st) σ)
  | .aload k => tp_gr L k (fun v => nx L (.ref v :: st) σ)
  | .iconst _ => nx L (.int x.2.2.1 :: st) σ
  | .bipush _ => nx L (.int x.2.2.1 :: st) σ
  | .sipush _ => nx L (.int x.2.2.1 :: st) σ
  | .ldc _ => nx L (.int x.2.2.1 :: st) σ
  | .lconst d => nx L (.long (Int64.ofNat d.val) :: st) σ
  | .ldc2_w _ => nx L (.long (Int64.ofNat x.2.2.2.1) :: st) σ
  | .istore_n k => tp_i1 st (fun v r => tp_chk (tp_ok1 L k.val) (nx (L.set k.val (.int v)) r σ))
  | .istore k => tp_i1 st (fun v r => tp_chk (tp_ok1 L k) (nx (L.set k (.int v)) r σ))
  | .astore_n k => tp_r1 st (fun v r => tp_chk (tp_ok1 L k.val) (nx (L.set k.val (.ref v)) r σ))
  | .astore k => tp_r1 st (fun v r => tp_chk (tp_ok1 L k) (nx (L.set k (.ref v)) r σ))
  | .lstore k => tp_l1 st (fun v r => tp_chk (tp_ok1 L k && decide (k + 1 < L.length)) (nx ((L.set k (.long v)).set (k + 1) .null) r σ))
  | .iinc k _ => tp_gi L k (fun v => tp_chk (tp_ok1 L k) (nx (L.set k (.int (v + x.2.2.1))) st σ))
  | .iadd => tp_i2 st (fun u v r => nx L (.int (u + v) :: r) σ)
  | .isub => tp_i2 st (fun u v r => nx L (.int (u - v) :: r) σ)
  | .imul => tp_i2 st (fun u v r => nx L (.int (u * v) :: r) σ)
  | .idiv => tp_i2 st (fun u v r => (¬ v = 0) ∧ nx L (.int (u / v) :: r) σ)
  | .irem => tp_i2 st (fun u v r => (¬ v = 0) ∧ nx L (.int (u - u / v * v) :: r) σ)
  | .ixor => tp_i2 st (fun u v r => nx L (.int (u ^^^ v) :: r) σ)
  | .newarray _ => tp_i1 st (fun v r => tp_chk (mid == tp_law && (r.isEmpty && decide (pc < 1000000))) (v = Int32.ofNat (tp_ln σ.2.1) ∧ tp_wk (tp_exL pc) L ∧ post (Int32.ofNat pc) σ))
  | .iand => tp_i2 st (fun u v r => nx L (.int (u &&& v) :: r) σ)
  | .ior => tp_i2 st (fun u v r => nx L (.int (u ||| v) :: r) σ)
  | .ishl => tp_i2 st (fun u v r => nx L (.int (u <<< (v &&& 31)) :: r) σ)
  | .ishr => tp_i2 st (fun u v r => nx L (.int (u >>> (v &&& 31)) :: r) σ)
  | .i2l => tp_i1 st (fun v r => nx L (.long v.toInt64 :: r) σ)
  | .i2b => tp_i1 st (fun v r => nx L (.int v.toInt8.toInt32 :: r) σ)
  | .i2s => tp_i1 st (fun v r => nx L (.int v.toInt16.toInt32 :: r) σ)
  | .i2c => tp_i1 st (fun v r => nx L (.int (v.toUInt32 % 65536).toInt32 :: r) σ)
  | .l2i => tp_l1 st (fun v r => nx L (.int v.toInt32 :: r) σ)
  | .ladd => tp_l2 st (fun u v r => nx L (.long (u + v) :: r) σ)
  | .land => tp_l2 st (fun u v r => nx L (.long (u &&& v) :: r) σ)
  | .lor => tp_l2 st (fun u v r => nx L (.long (u ||| v) :: r) σ)
  | .lcmp => tp_l2 st (fun u v r => nx L (.int (lg_cmp u v) :: r) σ)
  | .lshl => tp_il st (fun u v r => nx L (.long (u <<< (v.toInt64 &&& 63)) :: r) σ)
  | .lshr => tp_il st (fun u v r => nx L (.long (u >>> (v.toInt64 &&& 63)) :: r) σ)
  | .lushr => tp_il st (fun u v r => nx L (.long (u.toUInt64 >>> (v.toInt64.toUInt64 &&& Int64.toUInt64 63)).toInt64 :: r) σ)
  | .dup => tp_a1 st (fun v r => nx L (v :: v :: r) σ)
  | .pop => tp_a1 st (fun _ r => nx L r σ)
  | .dup_x1 => tp_a2 st (fun v u r => nx L (v :: u :: v :: r) σ)
  | .dup_x2 => tp_a3 st (fun v u w r => nx L (v :: u :: w :: v :: r) σ)
  | .dup2 => tp_a2 st (fun v u r => nx L (v :: u :: v :: u :: r) σ)
  | .ifCond cd _ => match cd with
    | .eq => tp_i1 st (fun v r => tp_br (v = 0) (K x.2.2.2.1 L r σ) (nx L r σ))
    | .ne => tp_i1 st (fun v r => tp_br (v = 0) (nx L r σ) (K x.2.2.2.1 L r σ))
    | .lt => tp_i1 st (fun v r => tp_br (v < 0) (K x.2.2.2.1 L r σ) (nx L r σ))
    | .ge => tp_i1 st (fun v r => tp_br (0 ≤ v) (K x.2.2.2.1 L r σ) (nx L r σ))
    | .gt => tp_i1 st (fun v r => tp_br (0 < v) (K x.2.2.2.1 L r σ) (nx L r σ))
    | .le => tp_i1 st (fun v r => tp_br (v ≤ 0) (K x.2.2.2.1 L r σ) (nx L r σ))
  | .if_icmp cd _ => match cd with
    | .eq => tp_i2 st (fun u v r => tp_br (u = v) (K x.2.2.2.1 L r σ) (nx L r σ))
    | .ne => tp_i2 st (fun u v r => tp_br (u = v) (nx L r σ) (K x.2.2.2.1 L r σ))
    | .lt => tp_i2 st (fun u v r => tp_br (u < v) (K x.2.2.2.1 L r σ) (nx L r σ))
    | .ge => tp_i2 st (fun u v r => tp_br (v ≤ u) (K x.2.2.2.1 L r σ) (nx L r σ))
    | .gt => tp_i2 st (fun u v r => tp_br (v < u) (K x.2.2.2.1 L r σ) (nx L r σ))
    | .le => tp_i2 st (fun u v r => tp_br (u ≤ v) (K x.2.2.2.1 L r σ) (nx L r σ))
  | .goto _ => K x.2.2.2.1 L st σ
  | .tableswitch d lo hi os => tp_i1 st (fun v r => ((v.toInt < lo ∨ hi < v.toInt) → K ((pc : Int) + d).toNat L r σ) ∧ tp_tl (fun t => K t L r σ) pc v lo os.toList)
  | .lookupswitch d ps => tp_i1 st (fun v r => tp_lk (fun t => K t L r σ) pc v d ps.toList)
  | .getfield _ => tp_r1 st (fun o r => tp_chk (tp_kd o == x.2.2.2.1 && decide (x.2.2.2.1 < 20)) (match tp_isR x.2.2.2.1 x.2.2.2.2.1 with
      | false => nx L (.int (σ.1 o x.2.2.2.2.1) :: r) σ
      | true => nx L (.ref (tp_rr σ o x.2.2.2.2.1) :: r) σ))
  | .putfield _ => match tp_isR x.2.2.2.1 x.2.2.2.2.1 with
    | false => tp_ri st (fun o v r => tp_chk (tp_kd o == x.2.2.2.1) (nx L r (tp_set σ o x.2.2.2.2.1 v)))
    | true => False
  | .iaload => tp_ri st (fun o j r => tp_chk (tp_kd o == 20 || tp_kd o == 26) (tp_on σ o ∧ vp_in j (tp_len σ o) ∧ nx L (.int (σ.1 o j.toNatClampNeg) :: r) σ))
  | .baload => tp_ri st (fun o j r => tp_chk (tp_kd o == 21 || tp_kd o == 22) (vp_in j (tp_ln o) ∧ nx L (.int (σ.1 o j.toNatClampNeg) :: r) σ))
  | .aaload => tp_ri st (fun o j r => match tp_kd o with
    | 23 => vp_in j 4 ∧ tp_four j (fun t => nx L (.ref t :: r) σ)
    | _ => tp_chk (tp_kd o == 24) (vp_in j (tp_ln o) ∧ nx L (.ref (tp_rr σ o j.toNatClampNeg) :: r) σ))
  | .iastore => tp_rii st (fun o j v r => tp_chk (tp_kd o == 20) (tp_on σ o ∧ vp_in j (tp_ln o) ∧ nx L r (tp_set σ o j.toNatClampNeg v)))
  | .bastore => tp_rii st (fun o j v r => tp_chk (tp_kd o == 21 || tp_kd o == 22) (vp_in j (tp_ln o) ∧ nx L r (tp_set σ o j.toNatClampNeg (vp_nar (tp_bt (tp_kd o)) v))))
  | .arraylength => tp_r1 st (fun o r => tp_chk (tp_kd o == 26) (nx L (.int (Int32.ofNat (tp_len σ o)) :: r) σ))
  | .invokevirtual _ => tp_chk (decide (tp_na x.2.2.2.1 = x.2.2.2.2.1 ∧ x.2.2.2.2.1 ≤ st.length ∧ ((st.drop x.2.2.2.2.1).map fun v => v.category).sum ≤ 8 ∧ (tp_ent1 (st.take x.2.2.2.2.1).reverse).length ≤ tp_n x.2.2.2.1) && tp_rcv (st[x.2.2.2.2.1 - 1]?) (tp_rk x.2.2.2.1)) (C x.2.2.2.1 (st.take x.2.2.2.2.1).reverse σ (fun r σ' => nx L (tp_push x.2.2.2.1 r (st.drop x.2.2.2.2.1)) σ'))
  | .invokestatic _ => tp_is x.2.2.2.1 (tp_i2 st (fun u v r => tp_chk (decide ((r.map fun v => v.category).sum ≤ 8)) (nx L (.int (if u < v then v else u) :: r) σ))) (tp_i2 st (fun u v r => tp_chk (decide ((r.map fun v => v.category).sum ≤ 8)) (nx L (.int (if v < u then v else u) :: r) σ)))
    (tp_chk (decide (tp_na x.2.2.2.1 = x.2.2.2.2.1 ∧ x.2.2.2.2.1 ≤ st.length ∧ ((st.drop x.2.2.2.2.1).map fun v => v.category).sum ≤ 8 ∧ (tp_ent1 (st.take x.2.2.2.2.1).reverse).length ≤ tp_n x.2.2.2.1)) (C x.2.2.2.1 (st.take x.2.2.2.2.1).reverse σ (fun r σ' => nx L (tp_push x.2.2.2.1 r (st.drop x.2.2.2.2.1)) σ')))
  | .ireturn => match tp_ret mid with
    | none => False
    | some t => tp_i1 st (fun v r => tp_chk r.isEmpty (narrow t (.int v) = .int v ∧ post v σ))
  | .return_ => match tp_ret mid with
    | none => tp_chk st.isEmpty (post 0 σ)
    | some _ => False
  | _ => False
/-- a stretch -/
def tp_B (mid : Nat) (K : tp_KT) (C : tp_CT) (post : Int32 → tp_St → Prop) : List tp_Ins → Nat → List Value → List Value → tp_St → Prop
  | [], pc, L, st, σ => K pc L st σ
  | x :: is, pc, L, st, σ => tp_I mid K C post (fun L st σ => tp_B mid K C post is (pc + x.2.1) L st σ) x pc L st σ
abbrev tp_XT : Type := Nat → Nat → List Value → List Value → tp_St → (Int32 → tp_St → Prop) → Prop
def tp_Mono (X : tp_XT) : Prop := ∀ i pc L st σ p p', (∀ r σ, p r σ → p' r σ) → X i pc L st σ p → X i pc L st σ p'
def tp_Cl (X : tp_XT) : Prop := ∀ i pc L st σ post, tp_B i (fun t L st σ => ∃ L', tp_wk L' L ∧ X i t L' st σ post) (fun a av σ p => X a 0 (tp_ent a av) [] σ p) post (tp_blk i pc) pc L st σ → X i pc L st σ post
/-- from here the method ends, with 'post' -/
def tp_E : tp_XT := fun i pc L st σ post => ∀ X : tp_XT, tp_Mono X → tp_Cl X → X i pc L st σ post
section TPM
variable {st L : List Value} {k : Nat}
theorem tp_chk_m {b : Bool} {P P' : Prop} (h : P → P') : tp_chk b P → tp_chk b P' := by cases b <;> first | exact id | exact h
theorem tp_i1_m {f g : Int32 → List Value → Prop} (h : ∀ x r, f x r → g x r) : tp_i1 st f → tp_i1 st g := by unfold tp_i1; split <;> first | exact h _ _ | exact id
theorem tp_i2_m {f g : Int32 → Int32 → List Value → Prop} (h : ∀ x y r, f x y r → g x y r) : tp_i2 st f → tp_i2 st g := by unfold tp_i2; split <;> first | exact h _ _ _ | exact id
theorem tp_l1_m {f g : Int64 → List Value → Prop} (h : ∀ x r, f x r → g x r) : tp_l1 st f → tp_l1 st g := by unfold tp_l1; split <;> first | exact h _ _ | exact id
theorem tp_l2_m {f g : Int64 → Int64 → List Value → Prop} (h : ∀ x y r, f x y r → g x y r) : tp_l2 st f → tp_l2 st g := by unfold tp_l2; split <;> first | exact h _ _ _ | exact id
theorem tp_il_m {f g : Int64 → Int32 → List Value → Prop} (h : ∀ x y r, f x y r → g x y r) : tp_il st f → tp_il st g := by unfold tp_il; split <;> first | exact h _ _ _ | exact id
theorem tp_r1_m {f g : Nat → List Value → Prop} (h : ∀ x r, f x r → g x r) : tp_r1 st f → tp_r1 st g := by unfold tp_r1; split <;> first | exact h _ _ | exact id
theorem tp_ri_m {f g : Nat → Int32 → List Value → Prop} (h : ∀ x y r, f x y r → g x y r) : tp_ri st f → tp_ri st g := by unfold tp_ri; split <;> first | exact h _ _ _ | exact id
theorem tp_rii_m {f g : Nat → Int32 → Int32 → List Value → Prop} (h : ∀ x y z r, f x y z r → g x y z r) : tp_rii st f → tp_rii st g := by unfold tp_rii; split <;> first | exact h _ _ _ _ | exact id
theorem tp_r2_m {f g : Nat → Nat → List Value → Prop} (h : ∀ x y r, f x y r → g x y r) : tp_r2 st f → tp_r2 st g := by unfold tp_r2; split <;> first | exact h _ _ _ | exact id
theorem tp_a1_m {f g : Value → List Value → Prop} (h : ∀ x r, f x r → g x r) : tp_a1 st f → tp_a1 st g := by unfold tp_a1; split <;> first | exact tp_chk_m (h _ _) | exact id
theorem tp_a2_m {f g : Value → Value → List Value → Prop} (h : ∀ x y r, f x y r → g x y r) : tp_a2 st f → tp_a2 st g := by unfold tp_a2; split <;> first | exact tp_chk_m (h _ _ _) | exact id
theorem tp_a3_m {f g : Value → Value → Value → List Value → Prop} (h : ∀ x y z r, f x y z r → g x y z r) : tp_a3 st f → tp_a3 st g := by unfold tp_a3; split <;> first | exact tp_chk_m (h _ _ _ _) | exact id
theorem tp_gi_m {f g : Int32 → Prop} (h : ∀ x, f x → g x) : tp_gi L k f → tp_gi L k g := by unfold tp_gi; split <;> first | exact h _ | exact id
theorem tp_gl_m {f g : Int64 → Prop} (h : ∀ x, f x → g x) : tp_gl L k f → tp_gl L k g := by unfold tp_gl; split <;> first | exact h _ | exact id
theorem tp_gr_m {f g : Nat → Prop} (h : ∀ x, f x → g x) : tp_gr L k f → tp_gr L k g := by unfold tp_gr; split <;> first | exact h _ | exact id
theorem tp_br_m {P A B A' B' : Prop} (h : A → A') (h2 : B → B') : tp_br P A B → tp_br P A' B' := fun q => ⟨fun z => h (q.1 z), fun z => h2 (q.2 z)⟩
theorem tp_is_m {b : Nat} {f g h f' g' h' : Prop} (h1 : f → f') (h2 : g → g') (h3 : h → h') : tp_is b f g h → tp_is b f' g' h' := by unfold tp_is; split <;> first | exact h1 | exact h2 | exact h3
theorem tp_four_m {t : Int32} {f g : Nat → Prop} (h : ∀ x, f x → g x) : tp_four t f → tp_four t g := fun q => ⟨fun z => h _ (q.1 z), fun z => h _ (q.2.1 z), fun z => h _ (q.2.2.1 z), fun z => h _ (q.2.2.2 z)⟩
theorem tp_tl_m {K K' : Nat → Prop} (h : ∀ t, K t → K' t) {pc : Nat} {x : Int32} : ∀ (os : List Int) (lo : Int), tp_tl K pc x lo os → tp_tl K' pc x lo os
  | [], _ => id
  | _ :: os, _ => fun q => ⟨fun z => h _ (q.1 z), tp_tl_m h os _ q.2⟩
theorem tp_lk_m {K K' : Nat → Prop} (h : ∀ t, K t → K' t) {pc : Nat} {x : Int32} {d : Int} : ∀ (os : List (Int × Int)), tp_lk K pc x d os → tp_lk K' pc x d os
  | [] => h _
  | _ :: os => fun q => ⟨fun z => h _ (q.1 z), fun z => tp_lk_m h os (q.2 z)⟩
end TPM
set_option maxHeartbeats 4000000 in
theorem tp_I_m {mid : Nat} {K K' : tp_KT} {C C' : tp_CT} {post post' : Int32 → tp_St → Prop} {nx nx' : List Value → List Value → tp_St → Prop} (hK : ∀ t L st σ, K t L st σ → K' t L st σ) (hC : ∀ a av σ p p', (∀ r σ, p r σ → p' r σ) → C a av σ p → C' a av σ p')
    (hp : ∀ r σ, post r σ → post' r σ) (hn : ∀ L st σ, nx L st σ → nx' L st σ) (x : tp_Ins) (pc : Nat) (L st : List Value) (σ : tp_St) : tp_I mid K C post nx x pc L st σ → tp_I mid K' C' post' nx' x pc L st σ := by
  obtain ⟨i, n, v, a, b, w⟩ := x
  cases i <;> first
    | exact False.elim
    | exact hn _ _ _
    | exact hK _ _ _ _
    | exact tp_gi_m fun _ => hn _ _ _
    | exact tp_gl_m fun _ => hn _ _ _
    | exact tp_gr_m fun _ => hn _ _ _
    | exact tp_gi_m fun _ => tp_chk_m (hn _ _ _)
    | exact tp_i1_m fun _ _ => hn _ _ _
    | exact tp_i1_m fun _ _ => tp_chk_m (hn _ _ _)
    | exact tp_l1_m fun _ _ => hn _ _ _
    | exact tp_l1_m fun _ _ => tp_chk_m (hn _ _ _)
    | exact tp_i2_m fun _ _ _ => hn _ _ _
    | exact tp_i2_m fun _ _ _ => And.imp_right (hn _ _ _)
    | exact tp_l2_m fun _ _ _ => hn _ _ _
    | exact tp_il_m fun _ _ _ => hn _ _ _
    | exact tp_a1_m fun _ _ => hn _ _ _
    | exact tp_a2_m fun _ _ _ => hn _ _ _
    | exact tp_a3_m fun _ _ _ _ => hn _ _ _
    | exact tp_r1_m fun _ _ => tp_chk_m (hn _ _ _)
    | exact tp_ri_m fun _ _ _ => tp_chk_m (And.imp_right (hn _ _ _))
    | exact tp_rii_m fun _ _ _ _ => tp_chk_m (And.imp_right (hn _ _ _))
    | exact tp_i1_m fun _ _ => And.imp (fun q z => hK _ _ _ _ (q z)) (tp_tl_m (fun _ => hK _ _ _ _) _ _)
    | exact tp_i1_m fun _ _ => tp_lk_m (fun _ => hK _ _ _ _) _
    | exact tp_chk_m (hC _ _ _ _ _ (fun _ _ => hn _ _ _))
    | exact tp_is_m (tp_i2_m fun _ _ _ => tp_chk_m (hn _ _ _)) (tp_i2_m fun _ _ _ => tp_chk_m (hn _ _ _)) (tp_chk_m (hC _ _ _ _ _ (fun _ _ => hn _ _ _)))
    | (rename_i cd _; cases cd <;> first
        | exact tp_i1_m fun _ _ => tp_br_m (hK _ _ _ _) (hn _ _ _)
        | exact tp_i1_m fun _ _ => tp_br_m (hn _ _ _) (hK _ _ _ _)
        | exact tp_i2_m fun _ _ _ => tp_br_m (hn _ _ _) (hK _ _ _ _)
        | exact tp_i2_m fun _ _ _ => tp_br_m (hK _ _ _ _) (hn _ _ _))
    | exact tp_ri_m fun _ _ _ => tp_chk_m (And.imp_right (And.imp_right (hn _ _ _)))
    | exact tp_rii_m fun _ _ _ _ => tp_chk_m (And.imp_right (And.imp_right (hn _ _ _)))
    | exact tp_i1_m fun _ _ => tp_chk_m (And.imp_right (And.imp_right (hp _ _)))
    | (simp only [tp_I]; split <;> first
        | exact False.elim
        | exact id
        | exact tp_ri_m fun _ _ _ => tp_chk_m (hn _ _ _)
        | exact tp_chk_m (hp _ _)
        | exact tp_i1_m fun _ _ => tp_chk_m (And.imp_right (hp _ _)))
    | (simp only [tp_I]; refine tp_ri_m fun _ _ _ => ?_; split <;> first
        | exact And.imp_right (tp_four_m fun _ => hn _ _ _)
        | exact tp_chk_m (And.imp_right (hn _ _ _)))
    | (simp only [tp_I]; refine tp_r1_m fun _ _ => tp_chk_m ?_; split <;> exact hn _ _ _)
theorem tp_B_m {mid : Nat} {K K' : tp_KT} {C C' : tp_CT} {post post' : Int32 → tp_St → Prop} (hK : ∀ t L st σ, K t L st σ → K' t L st σ) (hC : ∀ a av σ p p', (∀ r σ, p r σ → p' r σ) → C a av σ p → C' a av σ p')
    (hp : ∀ r σ, post r σ → post' r σ) : ∀ (is : List tp_Ins) (pc : Nat) (L st : List Value) (σ : tp_St), tp_B mid K C post is pc L st σ → tp_B mid K' C' post' is pc L st σ
  | [], _, _, _, _ => hK _ _ _ _
  | x :: is, pc, L, st, σ => tp_I_m hK hC hp (fun _ _ _ => tp_B_m hK hC hp is _ _ _ _) x pc L st σ
theorem tp_E_mono : tp_Mono tp_E := fun i pc L st σ p p' hp h X hm hc => hm i pc L st σ p p' hp (h X hm hc)
theorem tp_E_step {i pc : Nat} {L st : List Value} {σ : tp_St} {post : Int32 → tp_St → Prop} (h : tp_B i (fun t L st σ => ∃ L', tp_wk L' L ∧ tp_E i t L' st σ post) (fun a av σ p => tp_E a 0 (tp_ent a av) [] σ p) post (tp_blk i pc) pc L st σ) : tp_E i pc L st σ post := fun X hm hc =>
  hc i pc L st σ post (tp_B_m (fun t L st σ ⟨L', q1, q⟩ => ⟨L', q1, q X hm hc⟩) (fun a av σ p p' hp q => hm _ _ _ _ _ _ _ hp (q X hm hc)) (fun _ _ q => q) _ _ _ _ _ h)
end
section
/-! THE WORLD of the mini machine in the heap; the check of the printed instructions -/
def tp_v (ad : Nat → Nat) : Value → Value
  | .ref o => .ref (ad o)
  | v => v
theorem tp_v_cat {ad : Nat → Nat} {v : Value} : (tp_v ad v).category = v.category := by cases v <;> rfl
theorem tp_v_cats {ad : Nat → Nat} {st : List Value} : ((st.map (tp_v ad)).map fun v => v.category).sum = (st.map fun v => v.category).sum := by
  rw [List.map_map]
  congr 1
  exact List.map_congr_left fun v _ => tp_v_cat
def tp_nn : Value → Bool
  | .null => false
  | _ => true
def tp_al (ad : Nat → Nat) (L : List Value) : List (Nat × Value) := (List.range L.length).filterMap (fun i => (L[i]?).bind (fun v => if tp_nn v = true then some (i, tp_v ad v) else none))
theorem tp_al_mem {ad : Nat → Nat} {L : List Value} {q : Nat × Value} : q ∈ tp_al ad L ↔ ∃ v, L[q.1]? = some v ∧ tp_nn v = true ∧ q.2 = tp_v ad v := by
  unfold tp_al
  rw [List.mem_filterMap]
  constructor
  · rintro ⟨i, -, h⟩
    cases hi : L[i]? with
    | none => rw [hi] at h; cases h
    | some v =>
      rw [hi, Option.bind_some] at h
      by_cases hv : tp_nn v = true
      · rw [if_pos hv] at h
        cases h
        exact ⟨v, hi, hv, rfl⟩
      · rw [if_neg hv] at h
        cases h
  · rintro ⟨v, h1, h2, h3⟩
    refine ⟨q.1, List.mem_range.mpr (List.getElem?_eq_some_iff.mp h1).1, ?_⟩
    rw [h1, Option.bind_some, if_pos h2, ← h3]
def tp_lv (ad : Nat → Nat) (ls : Array Slot) (n : Nat) (L : List Value) : Prop := lv_has ls n (tp_al ad L) ∧ L.length = n
theorem tp_lv_get {ad : Nat → Nat} {ls : Array Slot} {n k : Nat} {L : List Value} {v : Value} (h : tp_lv ad ls n L) (hk : L[k]? = some v) (hv : tp_nn v = true) : ls[k]? = some (.val (tp_v ad v)) := h.1.2.2 (k, _) (tp_al_mem.mpr ⟨v, hk, hv, rfl⟩)
theorem tp_ok1_lt {L : List Value} {k : Nat} (h : tp_ok1 L k = true) : k < L.length := by
  simp only [tp_ok1, Bool.and_eq_true, decide_eq_true_eq] at h
  exact h.1
theorem tp_ok1_cat {L : List Value} {k j : Nat} {w : Value} (h : tp_ok1 L k = true) (hj : j + 1 = k) (hw : L[j]? = some w) : ¬ w.category = 2 := by
  subst hj
  simp only [tp_ok1, Bool.and_eq_true, decide_eq_true_eq, Bool.or_eq_true, beq_iff_eq, Bool.not_eq_true', Nat.add_sub_cancel] at h
  have h2 := h.2.resolve_left (by omega)
  rw [List.getD_eq_getElem?_getD, hw, Option.getD_some] at h2
  simpa using h2
theorem tp_lv_set1 {ad : Nat → Nat} {ls ls' : Array Slot} {n k : Nat} {L : List Value} {v : Value} (h : tp_lv ad ls n L) (hok : tp_ok1 L k = true)
    (hl : lv_has ls' n ((k, tp_v ad v) :: (tp_al ad L).filter (fun q => !(q.1 == k) && !(q.1 + 1 == k && q.2.category == 2)))) : tp_lv ad ls' n (L.set k v) := by
  refine ⟨⟨hl.1, hl.2.1, fun q hq => ?_⟩, by rw [List.length_set]; exact h.2⟩
  obtain ⟨w, h1, h2, h3⟩ := tp_al_mem.mp hq
  by_cases e : q.1 = k
  · rw [e, List.getElem?_set_self (tp_ok1_lt hok)] at h1
    cases h1
    have := hl.2.2 (k, tp_v ad v) List.mem_cons_self
    rw [e, h3]
    exact this
  · rw [List.getElem?_set_ne (Ne.symm e)] at h1
    refine hl.2.2 q (List.mem_cons_of_mem _ (List.mem_filter.mpr ⟨tp_al_mem.mpr ⟨w, h1, h2, h3⟩, ?_⟩))
    simp only [Bool.and_eq_true, Bool.not_eq_true', beq_eq_false_iff_ne, ne_eq, Bool.and_eq_false_iff]
    refine ⟨e, ?_⟩
    by_cases e2 : q.1 + 1 = k
    · right
      rw [h3, tp_v_cat]
      exact tp_ok1_cat hok e2 h1
    · exact Or.inl e2
theorem tp_lv_set2 {ad : Nat → Nat} {ls ls' : Array Slot} {n k : Nat} {L : List Value} {x : Int64} (h : tp_lv ad ls n L) (hok : tp_ok1 L k = true)
    (hl : lv_has ls' n ((k, .long x) :: (tp_al ad L).filter (fun q => !(q.1 == k) && (!(q.1 == k + 1) && !(q.1 + 1 == k && q.2.category == 2))))) : tp_lv ad ls' n ((L.set k (.long x)).set (k + 1) .null) := by
  refine ⟨⟨hl.1, hl.2.1, fun q hq => ?_⟩, by rw [List.length_set, List.length_set]; exact h.2⟩
  obtain ⟨w, h1, h2, h3⟩ := tp_al_mem.mp hq
  by_cases e : q.1 = k
  · rw [e, List.getElem?_set_ne (by omega), List.getElem?_set_self (tp_ok1_lt hok)] at h1
    cases h1
    have := hl.2.2 (k, .long x) List.mem_cons_self
    rw [e, h3]
    exact this
  · by_cases e1 : q.1 = k + 1
    · by_cases hlt : k + 1 < L.length
      · rw [e1, List.getElem?_set_self (by rw [List.length_set]; exact hlt)] at h1
        cases h1
        cases h2
      · rw [e1, List.getElem?_eq_none (by rw [List.length_set, List.length_set]; omega)] at h1
        cases h1
    · rw [List.getElem?_set_ne (Ne.symm e1), List.getElem?_set_ne (Ne.symm e)] at h1
      refine hl.2.2 q (List.mem_cons_of_mem _ (List.mem_filter.mpr ⟨tp_al_mem.mpr ⟨w, h1, h2, h3⟩, ?_⟩))
      simp only [Bool.and_eq_true, Bool.not_eq_true', beq_eq_false_iff_ne, ne_eq, Bool.and_eq_false_iff]
      refine ⟨e, e1, ?_⟩
      by_cases e2 : q.1 + 1 = k
      · right
        rw [h3, tp_v_cat]
        exact tp_ok1_cat hok e2 h1
      · exact Or.inl e2
/-! the cells -/
abbrev tp_CS : Type := ClassId × ClassId × ClassId × ClassId × ClassId
def tp_nf (c : Nat) : Nat := ((vwCl[c]?).map (fun q => q.2.2)).getD 0
def tp_fv (ad : Nat → Nat) (σ : tp_St) (o k : Nat) : Value := match tp_isR (tp_kd o) k with
  | true => .ref (ad (tp_rr σ o k))
  | false => .int (σ.1 o k)
def tp_fs (ad : Nat → Nat) (σ : tp_St) (o : Nat) : List Value := (List.range (tp_nf (tp_kd o))).map (tp_fv ad σ o)
def tp_cell (cs : tp_CS) (ad : Nat → Nat) (σ : tp_St) (o : Nat) : va_E :=
  if tp_kd o < 20 then .inr (tp_kd o, tp_fs ad σ o)
  else if tp_kd o = 20 then .inl (cs.1, tp_ln o, .inl (σ.1 o))
  else if tp_kd o = 21 then .inl (cs.2.1, tp_ln o, .inl (σ.1 o))
  else if tp_kd o = 22 then .inl (cs.2.2.1, tp_ln o, .inl (σ.1 o))
  else if tp_kd o = 23 then .inl (cs.2.2.2.1, tp_ln o, .inr (.inr (.inr (.inr (fun j => some (ad (tp_rr σ o j)))))))
  else .inl (cs.2.2.2.2, tp_ln o, .inr (.inr (.inr (.inr (fun j => some (ad (tp_rr σ o j)))))))
def tp_ws (cs : tp_CS) (ad : Nat → Nat) (σ : tp_St) : va_W := (List.range σ.2.1).map (fun o => (ad o, tp_cell cs ad σ o))
def tp_tys (cs : tp_CS) : List (ClassId × FieldType) := [(cs.1, .int), (cs.2.1, .byte), (cs.2.2.1, .boolean), (cs.2.2.2.1, .object RX5), (cs.2.2.2.2, .array .int)]
theorem tp_ws_at {cs : tp_CS} {ad : Nat → Nat} {σ : tp_St} {o : Nat} (h : o < σ.2.1) : (tp_ws cs ad σ)[o]? = some (ad o, tp_cell cs ad σ o) := by
  unfold tp_ws
  rw [List.getElem?_map, List.getElem?_range h]
  rfl
theorem tp_ws_len {cs : tp_CS} {ad : Nat → Nat} {σ : tp_St} : (tp_ws cs ad σ).length = σ.2.1 := by simp [tp_ws]
theorem tp_ws_set {cs : tp_CS} {ad : Nat → Nat} {σ σ' : tp_St} {o : Nat} {e : va_E} (ho : o < σ.2.1) (he : σ'.2 = σ.2) (h : e = tp_cell cs ad σ' o) (hh : ∀ o', o' ≠ o → tp_cell cs ad σ' o' = tp_cell cs ad σ o') : (tp_ws cs ad σ).set o (ad o, e) = tp_ws cs ad σ' := by
  have hN : σ'.2.1 = σ.2.1 := by rw [he]
  apply List.ext_getElem?
  intro k
  by_cases hk : k = o
  · subst hk
    rw [List.getElem?_set_self (by rw [tp_ws_len]; exact ho), tp_ws_at (by rw [hN]; exact ho), h]
  · rw [List.getElem?_set_ne (Ne.symm hk)]
    by_cases hl : k < σ.2.1
    · rw [tp_ws_at hl, tp_ws_at (by rw [hN]; exact hl), hh k hk]
    · rw [List.getElem?_eq_none (by rw [tp_ws_len]; omega), List.getElem?_eq_none (by rw [tp_ws_len, hN]; omega)]
theorem tp_kd_all : ∀ o, o < 101 → tp_kd o < 25 → o < 82 := by decide +kernel
theorem tp_kd_lt {o : Nat} (h : tp_kd o < 25) : o < 82 := by
  by_cases ho : o < 101
  · exact tp_kd_all o ho h
  · have h2 : tp_kd o = 99 := by
      unfold tp_kd
      rw [List.getD_eq_getElem?_getD, List.getElem?_eq_none (by show 101 ≤ o; omega)]
      rfl
    omega
theorem tp_kd_58a : ∀ o, o < 101 → tp_kd o < 25 → ¬ tp_kd o = 20 → o < 58 := by decide +kernel
theorem tp_kd_58 {o : Nat} (h : tp_kd o < 25) (h2 : ¬ tp_kd o = 20) : o < 58 := tp_kd_58a o (Nat.lt_of_lt_of_le (tp_kd_lt h) (by decide)) h h2
theorem tp_kd_11a : ∀ o, o < 101 → tp_kd o < 20 → tp_kd o < 11 := by decide +kernel
theorem tp_kd_11 {o : Nat} (h : tp_kd o < 20) : tp_kd o < 11 := tp_kd_11a o (Nat.lt_of_lt_of_le (tp_kd_lt (Nat.lt_of_lt_of_le h (by decide))) (by decide)) h
/-- so many objects there are, apart and in A -/
def tp_ap (ad : Nat → Nat) (A : Nat → Prop) (N : Nat) : Prop := (58 ≤ N ∧ N ≤ 82) ∧ (∀ i j, i < N → j < N → ad i = ad j → i = j) ∧ ∀ i, i < N → A (ad i)
theorem tp_ws_q {cs : tp_CS} {ad : Nat → Nat} {σ : tp_St} {k : Nat} {q : Nat × va_E} (h : (tp_ws cs ad σ)[k]? = some q) : k < σ.2.1 ∧ q = (ad k, tp_cell cs ad σ k) := by
  have hl : k < σ.2.1 := by have := (List.getElem?_eq_some_iff.mp h).1; rwa [tp_ws_len] at this
  rw [tp_ws_at hl] at h
  exact ⟨hl, (Option.some.inj h).symm⟩
theorem tp_ap_D {cs : tp_CS} {ad : Nat → Nat} {σ : tp_St} {A : Nat → Prop} (h : tp_ap ad A σ.2.1) : va_D A (tp_ws cs ad σ) := by
  refine ⟨fun i j x y hi hj hxy => ?_, fun k q hk => ?_⟩
  · obtain ⟨hi2, rfl⟩ := tp_ws_q hi
    obtain ⟨hj2, rfl⟩ := tp_ws_q hj
    exact h.2.1 i j hi2 hj2 hxy
  · obtain ⟨hk2, rfl⟩ := tp_ws_q hk
    exact h.2.2 k hk2
theorem tp_A_iff {cs : tp_CS} {ad : Nat → Nat} {σ : tp_St} {sz q : Nat} : va_A (tp_ws cs ad σ) sz q ↔ (∃ i, i < σ.2.1 ∧ q = ad i) ∨ sz ≤ q := by
  unfold va_A
  constructor
  · rintro (⟨k, e, h⟩ | h)
    · obtain ⟨hk, he⟩ := tp_ws_q h
      exact Or.inl ⟨k, hk, congrArg Prod.fst he⟩
    · exact Or.inr h
  · rintro (⟨i, hi, rfl⟩ | h)
    · exact Or.inl ⟨i, _, tp_ws_at hi⟩
    · exact Or.inr h
/-! writing an int -/
theorem tp_up_self {f : Nat → Nat → Int32} {o k : Nat} {v : Int32} : tp_up f o k v o = upd (f o) k v := by
  funext j
  simp [tp_up, upd]
theorem tp_up_ne {f : Nat → Nat → Int32} {o o' k : Nat} {v : Int32} (h : o' ≠ o) : tp_up f o k v o' = f o' := by
  funext j
  simp [tp_up, h]
theorem tp_rr_set {σ : tp_St} {o k o' k' : Nat} {v : Int32} : tp_rr (tp_set σ o k v) o' k' = tp_rr σ o' k' := rfl
theorem tp_cell_ne {cs : tp_CS} {ad : Nat → Nat} {σ : tp_St} {o o' k : Nat} {v : Int32} (h : o' ≠ o) : tp_cell cs ad (tp_set σ o k v) o' = tp_cell cs ad σ o' := by
  have e : (tp_set σ o k v).1 o' = σ.1 o' := tp_up_ne h
  have e2 : tp_fs ad (tp_set σ o k v) o' = tp_fs ad σ o' := by
    unfold tp_fs tp_fv
    rw [e]
    rfl
  unfold tp_cell
  rw [e, e2]
  rfl
theorem tp_fs_set {ad : Nat → Nat} {σ : tp_St} {o k : Nat} {v : Int32} (hr : tp_isR (tp_kd o) k = false) : (tp_fs ad σ o).set k (.int v) = tp_fs ad (tp_set σ o k v) o := by
  apply List.ext_getElem?
  intro j
  unfold tp_fs
  by_cases hj : j = k
  · subst hj
    by_cases hl : j < tp_nf (tp_kd o)
    · rw [List.getElem?_set_self (by simpa using hl), List.getElem?_map, List.getElem?_range hl]
      simp [tp_fv, hr, tp_set, tp_up]
    · rw [List.getElem?_eq_none (by simp; omega), List.getElem?_eq_none (by simp; omega)]
  · rw [List.getElem?_set_ne (Ne.symm hj), List.getElem?_map, List.getElem?_map]
    by_cases hl : j < tp_nf (tp_kd o)
    · rw [List.getElem?_range hl]
      simp only [Option.map_some, tp_fv, tp_rr_set]
      rw [show (tp_set σ o k v).1 o j = σ.1 o j by simp [tp_set, tp_up, hj]]
    · rw [List.getElem?_eq_none (by simp; omega)]
      rfl
theorem tp_set_big {σ : tp_St} {q k o : Nat} {v : Int32} (hq : q < 82) (ho : 82 ≤ o) : (tp_set σ q k v).1 o = σ.1 o := tp_up_ne (by omega)
theorem tp_vwcl : vwCl.length = 10 := by decide +kernel
theorem tp_mathmax : (tp_wd (.static Lib.Math.max.name) tp_pmax.1 && (tp_wd (.initialized "java/lang/Math") tp_pmax.2.1 && tp_wd (.code Lib.Math.max.name Lib.Math.max.code 2 (some .int)) tp_pmax.2.2)) = true := by decide +kernel
theorem tp_mathmin : (tp_wd (.static Lib.Math.min.name) tp_pmin.1 && (tp_wd (.initialized "java/lang/Math") tp_pmin.2.1 && tp_wd (.code Lib.Math.min.name Lib.Math.min.code 2 (some .int)) tp_pmin.2.2)) = true := by decide +kernel
end
section
theorem tp_i1_e {st : List Value} {f : Int32 → List Value → Prop} (h : tp_i1 st f) : ∃ x r, st = .int x :: r ∧ f x r := by
  unfold tp_i1 at h
  split at h <;> first | exact ⟨_, _, rfl, h⟩ | exact h.elim
theorem tp_i2_e {st : List Value} {f : Int32 → Int32 → List Value → Prop} (h : tp_i2 st f) : ∃ x y r, st = .int y :: .int x :: r ∧ f x y r := by
  unfold tp_i2 at h
  split at h <;> first | exact ⟨_, _, _, rfl, h⟩ | exact h.elim
theorem tp_l1_e {st : List Value} {f : Int64 → List Value → Prop} (h : tp_l1 st f) : ∃ x r, st = .long x :: r ∧ f x r := by
  unfold tp_l1 at h
  split at h <;> first | exact ⟨_, _, rfl, h⟩ | exact h.elim
theorem tp_l2_e {st : List Value} {f : Int64 → Int64 → List Value → Prop} (h : tp_l2 st f) : ∃ x y r, st = .long y :: .long x :: r ∧ f x y r := by
  unfold tp_l2 at h
  split at h <;> first | exact ⟨_, _, _, rfl, h⟩ | exact h.elim
theorem tp_il_e {st : List Value} {f : Int64 → Int32 → List Value → Prop} (h : tp_il st f) : ∃ x y r, st = .int y :: .long x :: r ∧ f x y r := by
  unfold tp_il at h
  split at h <;> first | exact ⟨_, _, _, rfl, h⟩ | exact h.elim
theorem tp_r1_e {st : List Value} {f : Nat → List Value → Prop} (h : tp_r1 st f) : ∃ x r, st = .ref x :: r ∧ f x r := by
  unfold tp_r1 at h
  split at h <;> first | exact ⟨_, _, rfl, h⟩ | exact h.elim
theorem tp_ri_e {st : List Value} {f : Nat → Int32 → List Value → Prop} (h : tp_ri st f) : ∃ x y r, st = .int y :: .ref x :: r ∧ f x y r := by
  unfold tp_ri at h
  split at h <;> first | exact ⟨_, _, _, rfl, h⟩ | exact h.elim
theorem tp_rii_e {st : List Value} {f : Nat → Int32 → Int32 → List Value → Prop} (h : tp_rii st f) : ∃ x y z r, st = .int z :: .int y :: .ref x :: r ∧ f x y z r := by
  unfold tp_rii at h
  split at h <;> first | exact ⟨_, _, _, _, rfl, h⟩ | exact h.elim
theorem tp_r2_e {st : List Value} {f : Nat → Nat → List Value → Prop} (h : tp_r2 st f) : ∃ x y r, st = .ref y :: .ref x :: r ∧ f x y r := by
  unfold tp_r2 at h
  split at h <;> first | exact ⟨_, _, _, rfl, h⟩ | exact h.elim
theorem tp_chk_e {b : Bool} {P : Prop} (h : tp_chk b P) : b = true ∧ P := by cases b <;> first | exact h.elim | exact ⟨rfl, h⟩
theorem tp_a1_e {st : List Value} {f : Value → List Value → Prop} (h : tp_a1 st f) : ∃ x r, st = x :: r ∧ x.category = 1 ∧ f x r := by
  unfold tp_a1 at h
  split at h
  · obtain ⟨h1, h2⟩ := tp_chk_e h
    simp only [Bool.and_eq_true, beq_iff_eq] at h1
    exact ⟨_, _, rfl, h1, h2⟩
  · exact h.elim
theorem tp_a2_e {st : List Value} {f : Value → Value → List Value → Prop} (h : tp_a2 st f) : ∃ x y r, st = x :: y :: r ∧ x.category = 1 ∧ y.category = 1 ∧ f x y r := by
  unfold tp_a2 at h
  split at h
  · obtain ⟨h1, h2⟩ := tp_chk_e h
    simp only [Bool.and_eq_true, beq_iff_eq] at h1
    exact ⟨_, _, _, rfl, h1.1, h1.2, h2⟩
  · exact h.elim
theorem tp_a3_e {st : List Value} {f : Value → Value → Value → List Value → Prop} (h : tp_a3 st f) : ∃ x y z r, st = x :: y :: z :: r ∧ x.category = 1 ∧ y.category = 1 ∧ z.category = 1 ∧ f x y z r := by
  unfold tp_a3 at h
  split at h
  · obtain ⟨h1, h2⟩ := tp_chk_e h
    simp only [Bool.and_eq_true, beq_iff_eq] at h1
    exact ⟨_, _, _, _, rfl, h1.1.1, h1.1.2, h1.2, h2⟩
  · exact h.elim
theorem tp_gi_e {L : List Value} {k : Nat} {f : Int32 → Prop} (h : tp_gi L k f) : ∃ x, L[k]? = some (.int x) ∧ f x := by
  unfold tp_gi at h
  split at h
  · rename_i x hx
    exact ⟨x, hx, h⟩
  · exact h.elim
theorem tp_gl_e {L : List Value} {k : Nat} {f : Int64 → Prop} (h : tp_gl L k f) : ∃ x, L[k]? = some (.long x) ∧ f x := by
  unfold tp_gl at h
  split at h
  · rename_i x hx
    exact ⟨x, hx, h⟩
  · exact h.elim
theorem tp_gr_e {L : List Value} {k : Nat} {f : Nat → Prop} (h : tp_gr L k f) : ∃ x, L[k]? = some (.ref x) ∧ f x := by
  unfold tp_gr at h
  split at h
  · rename_i x hx
    exact ⟨x, hx, h⟩
  · exact h.elim
/-- what is only read is the same, and how many objects there are -/
def tp_eq (σ σ0 : tp_St) : Prop := (∀ o, 82 ≤ o → σ.1 o = σ0.1 o) ∧ σ.2 = σ0.2
theorem tp_eq.tr {a b c : tp_St} (h : tp_eq a b) (h2 : tp_eq b c) : tp_eq a c := ⟨fun o ho => (h.1 o ho).trans (h2.1 o ho), h.2.trans h2.2⟩
theorem tp_eq.set {σ σ0 : tp_St} {q k : Nat} {v : Int32} (hq : q < 82) (h : tp_eq σ σ0) : tp_eq (tp_set σ q k v) σ0 := ⟨fun o ho => (tp_set_big hq ho).trans (h.1 o ho), h.2⟩
def tp_Wd (D : va_G) (cs : tp_CS) (ad : Nat → Nat) (A : Nat → Prop) (s : State) (σ0 σ : tp_St) (H : Heap) (locs : List Loc) : Prop := va_P D vwCl (tp_ws cs ad σ) H ∧ tp_eq σ σ0 ∧ va_S A s.heap H locs
def tp_G (p : Program) (l : Launch) (e : Env) (R : Room) (s : State) (m : MethodId) (args : Array Value) (below : List Frame) (meth : Method) (c : Code) (cells slots : Nat) (Q : State → Prop) (D : va_G) (cs : tp_CS) (ad : Nat → Nat) (A : Nat → Prop) (σ0 : tp_St) (n pc : Nat) (L st : List Value) (σ : tp_St) : Prop :=
  ∀ H locs ls, tp_Wd D cs ad A s σ0 σ H locs → tp_lv ad ls n L → W p l e R s m args below meth c H locs cells slots Q (F0 m pc ls (st.map (tp_v ad)))
def tp_Cx (p : Program) (R : Room) (s : State) (m : MethodId) (args : Array Value) (c : Code) (cells slots : Nat) (D : va_G) (cs : tp_CS) (ad : Nat → Nat) (A : Nat → Prop) (σ0 : tp_St) (mid : Nat) : Prop :=
  p.tables.exec = Jvm.exec ∧ c.code = tp_cc mid ∧ c.maxLocals = tp_n mid ∧ s.vm.findClass (tp_cls mid) = some m.cls ∧ (∀ w ∈ tp_gt, w.before args s = true) ∧ va_K D vwCl (tp_tys cs) s ∧ tp_ap ad A σ0.2.1 ∧ (∀ q, s.heap.size ≤ q → A q) ∧ tp_ro ad A s s.heap σ0 ∧ tp_rf mid ≤ R.frames ∧ tp_rl mid ≤ R.locals ∧ cells ≤ R.cells ∧ slots ≤ R.slots
def tp_Pre (D : va_G) (cs : tp_CS) (ad : Nat → Nat) (σ : tp_St) (sz : Nat) (U : State) : Prop := U.heap.size = sz ∧ va_P D vwCl (tp_ws cs ad σ) U.heap ∧ va_K D vwCl (tp_tys cs) U ∧ ((58 ≤ σ.2.1 ∧ σ.2.1 ≤ 82) ∧ ∀ i j, i < σ.2.1 → j < σ.2.1 → ad i = ad j → i = j) ∧ tp_ro ad (va_A (tp_ws cs ad σ) sz) U U.heap σ
def tp_Bq (D : va_G) (cs : tp_CS) (ad : Nat → Nat) (σ : tp_St) (σ' : tp_St) (t : State) : Prop := va_P D vwCl (tp_ws cs ad σ') t.heap ∧ tp_eq σ' σ
def tp_Qc (D : va_G) (cs : tp_CS) (ad : Nat → Nat) (σ : tp_St) (sz : Nat) (rt : Option FieldType) (post : Int32 → tp_St → Prop) : Array Value → State → Outcome → State → Prop := match rt with
  | none => va_Qv (fun σ' => post 0 σ') (tp_Bq D cs ad σ) (va_A (tp_ws cs ad σ) sz)
  | some _ => va_Qi post (tp_Bq D cs ad σ) (va_A (tp_ws cs ad σ) sz)
def tp_MO (l : Launch) (D : va_G) (cs : tp_CS) (ad : Nat → Nat) (a : Nat) (av : List Value) (σ : tp_St) (post : Int32 → tp_St → Prop) : Prop :=
  ∀ sz, Met l (tp_y a) (tp_wl a) (tp_rm a) (va_Pc (av.map (tp_v ad)) (tp_Pre D cs ad σ sz)) (tp_Qc D cs ad σ sz (tp_ret a) post) 0 0 (va_A (tp_ws cs ad σ) sz)
theorem tp_ro.go {ad : Nat → Nat} {A B : Nat → Prop} {u U : State} {H H1 : Heap} {σ σ' : tp_St} (h : tp_ro ad A u H σ) (hvm : u.vm.Alike U.vm)
    (hk : ∀ a : Nat, a < H.size → ¬ A a → H1[a]? = H[a]?) (hAB : ∀ q, B q → A q) (hσ : tp_eq σ' σ) : tp_ro ad B U H1 σ' := by
  unfold tp_ro
  rw [hσ.1 89 (by decide), hσ.1 90 (by decide)]
  exact ((va_T.moved hvm h).kept hk).narrow hAB
theorem tp_blind {D : va_G} {cs : tp_CS} {ad : Nat → Nat} {σ : tp_St} {sz : Nat} {av : List Value} : FrameBlind (va_Pc av (tp_Pre D cs ad σ sz)) := fun a U g mk q => by
  obtain ⟨q0, q1, qP, qK, qD, qR⟩ := q
  exact ⟨q0, q1, qP, va_K.moved (u := U) (U := U.calling g mk a) (Vm.Alike.refl U.vm) qK, qD, qR.go (u := U) (U := U.calling g mk a) (Vm.Alike.refl U.vm) (fun _ _ _ => rfl) (fun _ z => z) ⟨fun _ _ => rfl, rfl⟩⟩

theorem tp_clf : ∀ (a : Nat) (C : String) (T : u_T) (N : Nat), vwCl[a]? = some (C, T, N) → (∀ w ∈ u_ws C T N, w ∈ tp_gt) ∧ (∃ ty0 : Nat → FieldType, ∀ k, k < N → parseFieldDescriptor (T k).2.2.1 = some (ty0 k)) ∧ (∀ a, a < N → ∀ b, b < N → a ≠ b → (T a).2.1 ≠ (T b).2.1) ∧ N = tp_nf a
  | 0, C, T, N, h => by
    cases h
    exact ⟨fun w hw => tp_cl0 w hw, ⟨tyX0, tyX0_ok⟩, nmX0, rfl⟩
  | 1, C, T, N, h => by
    cases h
    exact ⟨fun w hw => tp_cl1 w hw, ⟨tyX1, tyX1_ok⟩, nmX1, rfl⟩
  | 2, C, T, N, h => by
    cases h
    exact ⟨fun w hw => tp_cl2 w hw, ⟨tyX2, tyX2_ok⟩, nmX2, rfl⟩
  | 3, C, T, N, h => by
    cases h
    exact ⟨fun w hw => tp_cl3 w hw, ⟨tyX3, tyX3_ok⟩, nmX3, rfl⟩
  | 4, C, T, N, h => by
    cases h
    exact ⟨fun w hw => tp_cl4 w hw, ⟨tyX4, tyX4_ok⟩, nmX4, rfl⟩
  | 5, C, T, N, h => by
    cases h
    exact ⟨fun w hw => tp_cl5 w hw, ⟨tyX5, tyX5_ok⟩, nmX5, rfl⟩
  | 6, C, T, N, h => by
    cases h
    exact ⟨fun w hw => tp_cl6 w hw, ⟨tyX6, tyX6_ok⟩, nmX6, rfl⟩
  | 7, C, T, N, h => by
    cases h
    exact ⟨fun w hw => tp_cl7 w hw, ⟨tyX7, tyX7_ok⟩, nmX7, rfl⟩
  | 8, C, T, N, h => by
    cases h
    exact ⟨fun w hw => tp_cl8 w hw, ⟨tyX8, tyX8_ok⟩, nmX8, rfl⟩
  | 9, C, T, N, h => by
    cases h
    exact ⟨fun w hw => tp_cl9 w hw, ⟨tyX9, tyX9_ok⟩, nmX9, rfl⟩
  | k + 10, C, T, N, h => by
    rw [List.getElem?_eq_none (by rw [tp_vwcl]; omega)] at h
    cases h
theorem tp_lens {v : Option Value} {k : Nat} (h : tp_rcv v k = true) : ∃ o, v = some (.ref o) ∧ tp_kd o = k := by
  unfold tp_rcv at h
  split at h
  · rename_i o
    exact ⟨o, rfl, by simpa using h⟩
  · cases h
theorem tp_cell_cls {cs : tp_CS} {ad : Nat → Nat} {σ : tp_St} {o : Nat} (h : tp_kd o < 20) : tp_cell cs ad σ o = .inr (tp_kd o, tp_fs ad σ o) := if_pos h
theorem tp_cell_20 {cs : tp_CS} {ad : Nat → Nat} {σ : tp_St} {o : Nat} (h : tp_kd o = 20) : tp_cell cs ad σ o = .inl (cs.1, tp_ln o, .inl (σ.1 o)) := by simp [tp_cell, h]
theorem tp_cell_21 {cs : tp_CS} {ad : Nat → Nat} {σ : tp_St} {o : Nat} (h : tp_kd o = 21) : tp_cell cs ad σ o = .inl (cs.2.1, tp_ln o, .inl (σ.1 o)) := by simp [tp_cell, h]
theorem tp_cell_22 {cs : tp_CS} {ad : Nat → Nat} {σ : tp_St} {o : Nat} (h : tp_kd o = 22) : tp_cell cs ad σ o = .inl (cs.2.2.1, tp_ln o, .inl (σ.1 o)) := by simp [tp_cell, h]
theorem tp_cell_23 {cs : tp_CS} {ad : Nat → Nat} {σ : tp_St} {o : Nat} (h : tp_kd o = 23) : tp_cell cs ad σ o = .inl (cs.2.2.2.1, tp_ln o, .inr (.inr (.inr (.inr (fun j => some (ad (tp_rr σ o j))))))) := by simp [tp_cell, h]
theorem tp_cell_24 {cs : tp_CS} {ad : Nat → Nat} {σ : tp_St} {o : Nat} (h : tp_kd o = 24) : tp_cell cs ad σ o = .inl (cs.2.2.2.2, tp_ln o, .inr (.inr (.inr (.inr (fun j => some (ad (tp_rr σ o j))))))) := by simp [tp_cell, h]
theorem tp_fs_at {ad : Nat → Nat} {σ : tp_St} {o k : Nat} (h : k < tp_nf (tp_kd o)) : (tp_fs ad σ o)[k]? = some (tp_fv ad σ o k) := by
  unfold tp_fs
  rw [List.getElem?_map, List.getElem?_range h]
  rfl
theorem tp_fs_len {ad : Nat → Nat} {σ : tp_St} {o : Nat} : (tp_fs ad σ o).length = tp_nf (tp_kd o) := by simp [tp_fs]
section VRB
variable {p : Program} {l : Launch} {e : Env} {R : Room} {s : State} {m : MethodId} {args : Array Value} {below : List Frame} {meth : Method} {c : Code} {H : Heap} {locs : List Loc} {cells slots : Nat} {Q : State → Prop}
variable {cc : ByteArray} {pc : Nat} {ls : Array Slot} {rest : List Value} {D : va_G} {cl : List vw_C} {A : Nat → Prop} {a : Nat} {tys : List (ClassId × FieldType)} {ws : va_W} {H0 : Heap}
theorem tp_alda (hexec : p.tables.exec = Jvm.exec) (hb : c.code = cc) (hK : va_K D cl tys s) (hP : va_P D cl ws H) (q0 t0 : Nat) {cA : ClassId} {ty : FieldType} {n : Nat} {f : Nat → Option Nat} (ha : ws[q0]? = some (a, .inl (cA, n, .inr (.inr (.inr (.inr f)))))) (ht : tys[t0]? = some (cA, ty)) (hty : ty.isReference = true) {i : Int32} (hin : vp_in i n) (hdg : decode cc pc = .ok (.aaload, 1))
    (kk : W p l e R s m args below meth c H locs cells slots Q (F0 m (pc + 1) ls (va_rf (f i.toNatClampNeg) :: rest))) : W p l e R s m args below meth c H locs cells slots Q (F0 m pc ls (.int i :: .ref a :: rest)) := by
  have hlt : i.toNatClampNeg < n := Nat.not_le.mp fun q => hin (Or.inr q)
  exact W.aald (v := va_rf (f i.toNatClampNeg)) (ty := ty) hexec hb (hP q0 _ ha) ((hK.2 t0 _ ht).1 n (fun j => va_rf (f j))) hty (fun q => by cases q) (by show ¬ (i < 0 ∨ (arrV _ _ _).slots.size ≤ _); rw [arrV_size]; exact hin) (by show (arrV _ _ _).slots[_]? = _; rw [arrV_read _ _ hlt]) rfl rfl hdg kk
end VRB
theorem tp_cwA : ∀ a, a < tp_law → Cond.code (tp_y a) (tp_cc a) (tp_n a) (tp_ret a) ∈ tp_gt
  | 0, _ => List.mem_filter.mpr ⟨List.mem_of_getElem? tp_cw0, rfl⟩
  | 1, _ => List.mem_filter.mpr ⟨List.mem_of_getElem? tp_cw1, rfl⟩
  | 2, _ => List.mem_filter.mpr ⟨List.mem_of_getElem? tp_cw2, rfl⟩
  | 3, _ => List.mem_filter.mpr ⟨List.mem_of_getElem? tp_cw3, rfl⟩
  | 4, _ => List.mem_filter.mpr ⟨List.mem_of_getElem? tp_cw4, rfl⟩
  | 5, _ => List.mem_filter.mpr ⟨List.mem_of_getElem? tp_cw5, rfl⟩
  | 6, _ => List.mem_filter.mpr ⟨List.mem_of_getElem? tp_cw6, rfl⟩
  | 7, _ => List.mem_filter.mpr ⟨List.mem_of_getElem? tp_cw7, rfl⟩
  | 8, _ => List.mem_filter.mpr ⟨List.mem_of_getElem? tp_cw8, rfl⟩
  | 9, _ => List.mem_filter.mpr ⟨List.mem_of_getElem? tp_cw9, rfl⟩
  | 10, _ => List.mem_filter.mpr ⟨List.mem_of_getElem? tp_cw10, rfl⟩
  | 11, _ => List.mem_filter.mpr ⟨List.mem_of_getElem? tp_cw11, rfl⟩
  | 12, _ => List.mem_filter.mpr ⟨List.mem_of_getElem? tp_cw12, rfl⟩
  | 13, _ => List.mem_filter.mpr ⟨List.mem_of_getElem? tp_cw13, rfl⟩
  | 14, _ => List.mem_filter.mpr ⟨List.mem_of_getElem? tp_cw14, rfl⟩
  | 15, _ => List.mem_filter.mpr ⟨List.mem_of_getElem? tp_cw15, rfl⟩
  | 16, _ => List.mem_filter.mpr ⟨List.mem_of_getElem? tp_cw16, rfl⟩
  | 17, _ => List.mem_filter.mpr ⟨List.mem_of_getElem? tp_cw17, rfl⟩
  | 18, _ => List.mem_filter.mpr ⟨List.mem_of_getElem? tp_cw18, rfl⟩
  | 19, _ => List.mem_filter.mpr ⟨List.mem_of_getElem? tp_cw19, rfl⟩
  | 20, _ => List.mem_filter.mpr ⟨List.mem_of_getElem? tp_cw20, rfl⟩
  | 21, _ => List.mem_filter.mpr ⟨List.mem_of_getElem? tp_cw21, rfl⟩
  | 22, _ => List.mem_filter.mpr ⟨List.mem_of_getElem? tp_cw22, rfl⟩
  | 23, _ => List.mem_filter.mpr ⟨List.mem_of_getElem? tp_cw23, rfl⟩
  | 24, _ => List.mem_filter.mpr ⟨List.mem_of_getElem? tp_cw24, rfl⟩
  | 25, _ => List.mem_filter.mpr ⟨List.mem_of_getElem? tp_cw25, rfl⟩
  | 26, _ => List.mem_filter.mpr ⟨List.mem_of_getElem? tp_cw26, rfl⟩
  | 27, _ => List.mem_filter.mpr ⟨List.mem_of_getElem? tp_cw27, rfl⟩
  | 28, _ => List.mem_filter.mpr ⟨List.mem_of_getElem? tp_cw28, rfl⟩
  | 29, _ => List.mem_filter.mpr ⟨List.mem_of_getElem? tp_cw29, rfl⟩
  | 30, _ => List.mem_filter.mpr ⟨List.mem_of_getElem? tp_cw30, rfl⟩
  | 31, _ => List.mem_filter.mpr ⟨List.mem_of_getElem? tp_cw31, rfl⟩
  | 32, _ => List.mem_filter.mpr ⟨List.mem_of_getElem? tp_cw32, rfl⟩
  | 33, _ => List.mem_filter.mpr ⟨List.mem_of_getElem? tp_cw33, rfl⟩
  | 34, _ => List.mem_filter.mpr ⟨List.mem_of_getElem? tp_cw34, rfl⟩
  | 35, _ => List.mem_filter.mpr ⟨List.mem_of_getElem? tp_cw35, rfl⟩
  | 36, _ => List.mem_filter.mpr ⟨List.mem_of_getElem? tp_cw36, rfl⟩
  | 37, _ => List.mem_filter.mpr ⟨List.mem_of_getElem? tp_cw37, rfl⟩
  | 38, _ => List.mem_filter.mpr ⟨List.mem_of_getElem? tp_cw38, rfl⟩
  | 39, _ => List.mem_filter.mpr ⟨List.mem_of_getElem? tp_cw39, rfl⟩
  | 40, _ => List.mem_filter.mpr ⟨List.mem_of_getElem? tp_cw40, rfl⟩
  | 41, _ => List.mem_filter.mpr ⟨List.mem_of_getElem? tp_cw41, rfl⟩
  | 42, _ => List.mem_filter.mpr ⟨List.mem_of_getElem? tp_cw42, rfl⟩
  | k + 43, h => absurd h (by show ¬ k + 43 < 43; omega)
end
section
section TPI
variable {p : Program} {l : Launch} {e : Env} {R : Room} {s : State} {m : MethodId} {args : Array Value} {below : List Frame} {meth : Method} {c : Code} {cells slots : Nat} {Q : State → Prop}
variable {D : va_G} {cs : tp_CS} {ad : Nat → Nat} {A : Nat → Prop} {σ0 : tp_St} {mid : Nat}
theorem tp_wk_len : ∀ {L L' : List Value}, tp_wk L' L → L'.length = L.length
  | [], [], _ => rfl
  | _ :: L, _ :: L', h => by rw [List.length_cons, List.length_cons, tp_wk_len h.2]
  | [], _ :: _, h => h.elim
  | _ :: _, [], h => h.elim
theorem tp_wk_at : ∀ {L L' : List Value} {k : Nat} {v : Value}, tp_wk L' L → L'[k]? = some v → tp_nn v = true → L[k]? = some v
  | [], [], _, _, _, h, _ => h
  | _ :: L, _ :: L', 0, v, h, hv, hn => by
    cases hv
    rcases h.1 with rfl | rfl
    · cases hn
    · rfl
  | _ :: L, _ :: L', k + 1, v, h, hv, hn => tp_wk_at (k := k) h.2 hv hn
  | [], _ :: _, _, _, h, _, _ => h.elim
  | _ :: _, [], _, _, h, _, _ => h.elim
theorem tp_lv_wk {ls : Array Slot} {n : Nat} {L L' : List Value} (hw : tp_wk L' L) (h : tp_lv ad ls n L) : tp_lv ad ls n L' := by
  refine ⟨⟨h.1.1, h.1.2.1, fun q hq => ?_⟩, (tp_wk_len hw).trans h.2⟩
  obtain ⟨v, h1, h2, h3⟩ := tp_al_mem.mp hq
  exact h.1.2.2 q (tp_al_mem.mpr ⟨v, tp_wk_at hw h1 h2, h2, h3⟩)
theorem tp_tl_in {K : Nat → Prop} {pc : Nat} {x : Int32} : ∀ (os : List Int) (lo : Int), tp_tl K pc x lo os → ¬ x.toInt < lo → x.toInt < lo + os.length → ∃ off, os[(x.toInt - lo).toNat]? = some off ∧ K ((pc : Int) + off).toNat
  | [], lo, _, h1, h2 => by simp at h2; omega
  | o :: os, lo, h, h1, h2 => by
    by_cases hx : x.toInt = lo
    · exact ⟨o, by rw [hx, Int.sub_self]; rfl, h.1 hx⟩
    · obtain ⟨off, g1, g2⟩ := tp_tl_in os (lo + 1) h.2 (by omega) (by simp at h2; omega)
      refine ⟨off, ?_, g2⟩
      rw [show (x.toInt - lo).toNat = (x.toInt - (lo + 1)).toNat + 1 by omega, List.getElem?_cons_succ]
      exact g1
theorem tp_lk_in {K : Nat → Prop} {pc : Nat} {x : Int32} {d : Int} : ∀ (ps : List (Int × Int)), tp_lk K pc x d ps → ∃ off, Op.lookupswitch.offset ps d x.toInt = off ∧ (off = d ∨ ∃ q ∈ ps, off = q.2) ∧ K ((pc : Int) + off).toNat
  | [], h => ⟨d, rfl, Or.inl rfl, h⟩
  | q :: ps, h => by
    by_cases hx : x.toInt = q.1
    · refine ⟨q.2, ?_, Or.inr ⟨q, List.mem_cons_self, rfl⟩, h.1 hx⟩
      obtain ⟨q1, q2⟩ := q
      rw [Op.lookupswitch.offset_cons, if_pos]
      exact hx.symm
    · obtain ⟨off, g1, g2, g3⟩ := tp_lk_in ps (h.2 hx)
      refine ⟨off, ?_, ?_, g3⟩
      · obtain ⟨q1, q2⟩ := q
        rw [Op.lookupswitch.offset_cons, if_neg]
        · exact g1
        · exact fun z => hx z.symm
      · rcases g2 with g2 | ⟨q', g2, g4⟩
        · exact Or.inl g2
        · exact Or.inr ⟨q', List.mem_cons_of_mem _ g2, g4⟩
theorem tp_kd_big {q k : Nat} (h : tp_kd q = k) (hk : k < 99) : q < 101 := by
  by_cases hq : q < 101
  · exact hq
  · have h2 : tp_kd q = 99 := by
      unfold tp_kd
      rw [List.getD_eq_getElem?_getD, List.getElem?_eq_none (by show 101 ≤ q; omega)]
      rfl
    omega
theorem tp_kd_26 {q : Nat} (h : tp_kd q = 26) : q = 90 := (by decide +kernel : ∀ q, q < 101 → tp_kd q = 26 → q = 90) q (tp_kd_big h (by decide)) h
theorem tp_good {w : Cond} (h : w ∈ tp_gt) : w ∈ tp_gt ∧ ((w.onTables && w.keeps) = true ∨ ∃ ty, w = .arrayClass ty) := ⟨h, good_of_word (List.mem_filter.mp h).2⟩
theorem tp_goodW {a : Nat} (ha : a < tp_law) : GoodIn tp_gt (tp_wl a) := fun w hw => by
  rcases List.mem_cons.mp hw with rfl | hw
  · exact tp_good (tp_cwA a ha)
  · exact tp_good hw
theorem tp_goodV {a : Nat} {own : String} {k : Nat} (ha : a < tp_law) (h1 : Cond.instanceMethod (tp_y a) ∈ tp_gt) (h2 : Cond.selects (tp_y a).cls (tp_y a) (tp_y a) ∈ tp_gt) (h3 : Cond.initialized (tp_y a).cls ∈ tp_gt) (h4 : Cond.methodLink own k (tp_y a) ∈ tp_gt) : GoodIn tp_gt (wsV own k (tp_y a).cls (tp_y a) (tp_wl a)) := fun w hw => by
  rcases List.mem_append.mp hw with hw | hw
  · simp only [List.mem_cons, List.not_mem_nil, or_false] at hw
    rcases hw with rfl | rfl | rfl | rfl
    · exact tp_good h4
    · exact tp_good h1
    · exact tp_good h2
    · exact tp_good h3
  · exact tp_goodW ha w hw
theorem tp_goodS {a : Nat} {own : String} {k : Nat} (ha : a < tp_law) (h1 : Cond.static (tp_y a) ∈ tp_gt) (h3 : Cond.initialized (tp_y a).cls ∈ tp_gt) (h4 : Cond.methodLink own k (tp_y a) ∈ tp_gt) : GoodIn tp_gt (va_wsS own k (tp_y a) (tp_wl a)) := fun w hw => by
  rcases List.mem_append.mp hw with hw | hw
  · simp only [List.mem_cons, List.not_mem_nil, or_false] at hw
    rcases hw with rfl | rfl | rfl
    · exact tp_good h4
    · exact tp_good h1
    · exact tp_good h3
  · exact tp_goodW ha w hw
theorem tp_okM_at {a : Nat} (ha : a < tp_law) : tp_okM a = true := List.all_eq_true.mp tp_okMs a (List.mem_range.mpr ha)
theorem tp_okM_v {a : Nat} (ha : a < tp_law) (hk : tp_rk a < 11) : Cond.instanceMethod (tp_y a) ∈ tp_gt ∧ Cond.selects (tp_y a).cls (tp_y a) (tp_y a) ∈ tp_gt ∧ (parseMethodDescriptor (tp_y a).desc).map (fun d => d.parameters.length) = some (tp_na a - 1) ∧ 0 < tp_na a ∧ Cond.initialized (tp_y a).cls ∈ tp_gt ∧ ((tp_y a).cls ≠ "java/lang/invoke/MethodHandle" ∧ (tp_y a).cls ≠ "java/lang/invoke/VarHandle") ∧ (tp_y a).cls = tp_cls a ∧ plainName (tp_y a).cls = true ∧ (tp_rk a < 11 → (vwCl[tp_rk a]?).map (fun q => q.1) = some (tp_y a).cls) := by
  have h := tp_okM_at ha
  unfold tp_okM at h
  simp only [Bool.and_eq_true, decide_eq_true_eq] at h
  obtain ⟨h1, h2, h3, h4, h5, h6⟩ := h
  split at h1
  · rename_i hr
    omega
  · simp only [Bool.and_eq_true, decide_eq_true_eq] at h1
    refine ⟨tp_gt_in h1.1, tp_gt_in h1.2.1, h1.2.2.1, h1.2.2.2, tp_gt_in h2, h3, h4, h5, fun hr => ?_⟩
    rw [if_pos hr] at h6
    simpa using h6
theorem tp_okM_s {a : Nat} (ha : a < tp_law) (hk : tp_rk a = 50) : Cond.static (tp_y a) ∈ tp_gt ∧ (parseMethodDescriptor (tp_y a).desc).map (fun d => d.parameters.length) = some (tp_na a) ∧ Cond.initialized (tp_y a).cls ∈ tp_gt ∧ ((tp_y a).cls ≠ "java/lang/invoke/MethodHandle" ∧ (tp_y a).cls ≠ "java/lang/invoke/VarHandle") := by
  have h := tp_okM_at ha
  unfold tp_okM at h
  simp only [Bool.and_eq_true, decide_eq_true_eq] at h
  obtain ⟨h1, h2, h3, h4, h5, h6⟩ := h
  split at h1
  · simp only [Bool.and_eq_true, decide_eq_true_eq] at h1
    exact ⟨tp_gt_in h1.1, h1.2, tp_gt_in h2, h3⟩
  · rename_i hr
    exact absurd hk hr
theorem tp_recv {a q : Nat} {σ : tp_St} {H : Heap} {locs : List Loc} (cx : tp_Cx p R s m args c cells slots D cs ad A σ0 mid) (hW : tp_Wd D cs ad A s σ0 σ H locs) (ha : a < tp_law) (hk : tp_rk a < 11) (hq : tp_kd q = tp_rk a) : ∃ cell : Cell, H[ad q]? = some cell ∧ cell.vm.isStatics = false ∧ s.vm.findClass (tp_y a).cls = some cell.cls := by
  obtain ⟨hx, hb, hml, hown, hts, hK0, hap, hA, hro, hrf, hrl, hcl, hsl⟩ := cx
  obtain ⟨hP, hσ, hS⟩ := hW
  rw [← hσ.2] at hap
  obtain ⟨m1, m2, m3, m4, m5, m6, m7, m8, m9⟩ := tp_okM_v ha hk
  cases hc : vwCl[tp_rk a]? with
  | none =>
    have h9 := m9 hk
    rw [hc] at h9
    cases h9
  | some t =>
    have h9 := m9 hk
    rw [hc] at h9
    have h10 : t.1 = (tp_y a).cls := Option.some.inj h9
    rw [← h10]
    have hq58 : q < 58 := tp_kd_58 (by omega) (by omega)
    exact va_recv hK0 hP (ci := tp_rk a) (q0 := q) hc (by rw [tp_ws_at (Nat.lt_of_lt_of_le hq58 hap.1.1), tp_cell_cls (by omega), hq])
theorem tp_pre {σ : tp_St} {H : Heap} {locs : List Loc} {U : State} (cx : tp_Cx p R s m args c cells slots D cs ad A σ0 mid) (hW : tp_Wd D cs ad A s σ0 σ H locs) (hU : U.heap = H) (hWm : s.WarmedH U.vm) : tp_Pre D cs ad σ H.size U := by
  obtain ⟨hx, hb, hml, hown, hts, hK0, hap, hA, hro, hrf, hrl, hcl, hsl⟩ := cx
  obtain ⟨hP, hσ, hS⟩ := hW
  rw [← hσ.2] at hap
  refine ⟨by rw [hU], by rw [hU]; exact hP, va_K.moved hWm.alike hK0, ⟨hap.1, hap.2.1⟩, ?_⟩
  refine hro.go hWm.alike (fun q h1 h2 => by rw [hU]; exact hS.2.1 q h1 h2) (fun q hq => ?_) hσ
  rcases tp_A_iff.mp hq with ⟨i, hi, rfl⟩ | hq
  · exact hap.2.2 i hi
  · exact hA q (Nat.le_trans hS.1 hq)
theorem tp_after {a pc : Nat} {av : Array Value} {σ : tp_St} {H : Heap} {locs : List Loc} {ls : Array Slot} {st0 rest L : List Value} {post : Int32 → tp_St → Prop}
    (hr : va_Run p l e R s m args below meth c H locs cells slots 0 0 (F0 m pc ls st0) (rest.map (tp_v ad)) (tp_Qc D cs ad σ H.size (tp_ret a) post av) (va_A (tp_ws cs ad σ) H.size)) (hap : tp_ap ad A σ0.2.1) (hA : ∀ q, s.heap.size ≤ q → A q)
    (hW : tp_Wd D cs ad A s σ0 σ H locs) (hl : tp_lv ad ls (tp_n mid) L) (kk : ∀ r σ', post r σ' → tp_G p l e R s m args below meth c cells slots Q D cs ad A σ0 (tp_n mid) (pc + 3) L (tp_push a r rest) σ') :
    W p l e R s m args below meth c H locs cells slots Q (F0 m pc ls st0) := by
  obtain ⟨hP, hσ, hS⟩ := hW
  rw [← hσ.2] at hap
  have hAA : ∀ q, va_A (tp_ws cs ad σ) H.size q → A q := fun q hq => by
    rcases tp_A_iff.mp hq with ⟨i, hi, rfl⟩ | hq
    · exact hap.2.2 i hi
    · exact hA q (Nat.le_trans hS.1 hq)
  unfold tp_Qc at hr
  unfold tp_push at kk
  cases hret : tp_ret a with
  | none =>
    rw [hret] at hr kk
    exact va_callv hr hS (fun q _ h => hAA q h) hAA (fun u t H1 locs1 ht hvm hw hB hz1 hk1 hS1 => kk 0 u hw H1 locs1 ls ⟨by rw [← ht]; exact hB.1, hB.2.tr hσ, hS1⟩ hl)
  | some t0 =>
    rw [hret] at hr kk
    exact va_calli hr hS (fun q _ h => hAA q h) hAA (fun r u t H1 locs1 ht hvm hw hB hz1 hk1 hS1 => kk r u hw H1 locs1 ls ⟨by rw [← ht]; exact hB.1, hB.2.tr hσ, hS1⟩ hl)
set_option maxHeartbeats 4000000 in
theorem tp_snI {K : tp_KT} {C : tp_CT} {post : Int32 → tp_St → Prop} {nx : List Value → List Value → tp_St → Prop} {x : tp_Ins} {pc : Nat} {L st : List Value} {σ : tp_St}
    (cx : tp_Cx p R s m args c cells slots D cs ad A σ0 mid) (hok : tp_ok mid pc x = true) (h : tp_I mid K C post nx x pc L st σ)
    (hnx : ∀ L st σ, nx L st σ → tp_G p l e R s m args below meth c cells slots Q D cs ad A σ0 (tp_n mid) (pc + x.2.1) L st σ)
    (hK : ∀ t L st σ, K t L st σ → tp_G p l e R s m args below meth c cells slots Q D cs ad A σ0 (tp_n mid) t L st σ)
    (hC : ∀ a av σ p', a < tp_law → (tp_ent1 av).length ≤ tp_n a → C a av σ p' → tp_MO l D cs ad a av σ p')
    (hRi : ∀ pc v t σ' H locs ls, tp_ret mid = some t → decode (tp_cc mid) pc = .ok (.ireturn, 1) → narrow t (.int v) = .int v → post v σ' → tp_Wd D cs ad A s σ0 σ' H locs → W p l e R s m args below meth c H locs cells slots Q (F0 m pc ls [.int v]))
    (hRv : ∀ pc σ' H locs ls, tp_ret mid = none → decode (tp_cc mid) pc = .ok (.return_, 1) → post 0 σ' → tp_Wd D cs ad A s σ0 σ' H locs → W p l e R s m args below meth c H locs cells slots Q (F0 m pc ls []))
    (hRx : ∀ pc σ' H locs ls, mid = tp_law → pc < 1000000 → decode (tp_cc mid) pc = .ok (.newarray .int, 2) → post (Int32.ofNat pc) σ' → tp_Wd D cs ad A s σ0 σ' H locs → tp_lv ad ls (tp_n mid) (tp_exL pc) → W p l e R s m args below meth c H locs cells slots Q (F0 m pc ls [.int (Int32.ofNat (tp_ln σ'.2.1))])) :
    tp_G p l e R s m args below meth c cells slots Q D cs ad A σ0 (tp_n mid) pc L st σ := by
  obtain ⟨i, n, v, a, b, w⟩ := x
  obtain ⟨hx, hb, hml, hown, hts, hK0, hap, hA, hro, hrf, hrl, hcl, hsl⟩ := id cx
  simp only [tp_ok, Bool.and_eq_true, decide_eq_true_eq] at hok
  obtain ⟨hdg, hok⟩ := hok
  intro H locs ls hW hl
  obtain ⟨hP, hσ, hS⟩ := id hW
  have hap0 := hap
  rw [← hσ.2] at hap
  have hlt : ∀ q, tp_kd q < 25 → ¬ tp_kd q = 20 → q < σ.2.1 := fun q h1 h2 => Nat.lt_of_lt_of_le (tp_kd_58 h1 h2) hap.1.1
  have hon : ∀ q, tp_kd q = 20 → tp_on σ q → q < σ.2.1 := fun q h1 h2 => by
    rcases h2 with h2 | h2 | h2
    · exact Nat.lt_of_lt_of_le h2 hap.1.1
    · exact h2
    · subst h2
      exact absurd h1 (by decide +kernel)
  cases i
  all_goals try exact False.elim h
  case iload_n k =>
    have hn : n = 1 := by simpa [tp_ok2] using hok
    subst hn
    obtain ⟨z, hz, h⟩ := tp_gi_e (L := L) (k := k.val) h
    exact lv_iload_n hx hb hdg rfl (tp_lv_get hl hz rfl) (hnx _ _ _ h H locs ls hW hl)
  case iload k =>
    have hn : n = 2 := by simpa [tp_ok2] using hok
    subst hn
    obtain ⟨z, hz, h⟩ := tp_gi_e (L := L) (k := k) h
    exact lv_iload hx hb hdg (tp_lv_get hl hz rfl) (hnx _ _ _ h H locs ls hW hl)
  case lload_n k =>
    have hn : n = 1 := by simpa [tp_ok2] using hok
    subst hn
    obtain ⟨z, hz, h⟩ := tp_gl_e (L := L) (k := k.val) h
    exact lv_lload_n hx hb hdg rfl (tp_lv_get hl hz rfl) (hnx _ _ _ h H locs ls hW hl)
  case lload k =>
    have hn : n = 2 := by simpa [tp_ok2] using hok
    subst hn
    obtain ⟨z, hz, h⟩ := tp_gl_e (L := L) (k := k) h
    exact lv_lload hx hb hdg (tp_lv_get hl hz rfl) (hnx _ _ _ h H locs ls hW hl)
  case aload_n k =>
    have hn : n = 1 := by simpa [tp_ok2] using hok
    subst hn
    obtain ⟨z, hz, h⟩ := tp_gr_e (L := L) (k := k.val) h
    exact lv_aload_n hx hb hdg rfl (tp_lv_get hl hz rfl) (hnx _ _ _ h H locs ls hW hl)
  case aload k =>
    have hn : n = 2 := by simpa [tp_ok2] using hok
    subst hn
    obtain ⟨z, hz, h⟩ := tp_gr_e (L := L) (k := k) h
    exact lv_aload hx hb hdg (tp_lv_get hl hz rfl) (hnx _ _ _ h H locs ls hW hl)
  case iconst k =>
    simp only [tp_ok2, Bool.and_eq_true, beq_iff_eq, decide_eq_true_eq] at hok
    obtain ⟨hn, hok⟩ := hok
    subst hn
    exact lv_iconst hx hb hdg hok (hnx _ _ _ h H locs ls hW hl)
  case bipush k =>
    simp only [tp_ok2, Bool.and_eq_true, beq_iff_eq, decide_eq_true_eq] at hok
    obtain ⟨hn, hok⟩ := hok
    subst hn
    exact lv_bipush hx hb hdg hok (hnx _ _ _ h H locs ls hW hl)
  case sipush k =>
    simp only [tp_ok2, Bool.and_eq_true, beq_iff_eq, decide_eq_true_eq] at hok
    obtain ⟨hn, hok⟩ := hok
    subst hn
    exact lv_sipush hx hb hdg hok (hnx _ _ _ h H locs ls hW hl)
  case lconst k =>
    have hn : n = 1 := by simpa [tp_ok2] using hok
    subst hn
    exact lv_lconst hx hb hdg rfl (hnx _ _ _ h H locs ls hW hl)
  case ldc2_w k =>
    simp only [tp_ok2, Bool.and_eq_true, beq_iff_eq, decide_eq_true_eq] at hok
    obtain ⟨hn, hok⟩ := hok
    subst hn
    exact lv_ldc2 hx hb hown (hts _ (tp_gt_in hok)) hdg (hnx _ _ _ h H locs ls hW hl)
  case ldc k =>
    simp only [tp_ok2, Bool.and_eq_true, beq_iff_eq] at hok
    obtain ⟨hn, hok⟩ := hok
    subst hn
    exact lv_ldc hx hb hown (hts _ (tp_gt_in hok)) hdg (hnx _ _ _ h H locs ls hW hl)
  case istore_n k =>
    have hn : n = 1 := by simpa [tp_ok2] using hok
    subst hn
    obtain ⟨z, r, rfl, h⟩ := tp_i1_e (st := st) h
    obtain ⟨h1, h⟩ := tp_chk_e h
    exact lv_istore_n hx hb hdg rfl hl.1 (by have := tp_ok1_lt h1; have := hl.2; omega) rfl (fun ls' hl' => hnx _ _ _ h H locs ls' hW (tp_lv_set1 (v := .int z) hl h1 hl'))
  case istore k =>
    have hn : n = 2 := by simpa [tp_ok2] using hok
    subst hn
    obtain ⟨z, r, rfl, h⟩ := tp_i1_e (st := st) h
    obtain ⟨h1, h⟩ := tp_chk_e h
    exact lv_istore hx hb hdg hl.1 (by have := tp_ok1_lt h1; have := hl.2; omega) rfl (fun ls' hl' => hnx _ _ _ h H locs ls' hW (tp_lv_set1 (v := .int z) hl h1 hl'))
  case astore_n k =>
    have hn : n = 1 := by simpa [tp_ok2] using hok
    subst hn
    obtain ⟨z, r, rfl, h⟩ := tp_r1_e (st := st) h
    obtain ⟨h1, h⟩ := tp_chk_e h
    exact lv_astore_n hx hb hdg rfl hl.1 (by have := tp_ok1_lt h1; have := hl.2; omega) rfl (fun ls' hl' => hnx _ _ _ h H locs ls' hW (tp_lv_set1 (v := .ref z) hl h1 hl'))
  case astore k =>
    have hn : n = 2 := by simpa [tp_ok2] using hok
    subst hn
    obtain ⟨z, r, rfl, h⟩ := tp_r1_e (st := st) h
    obtain ⟨h1, h⟩ := tp_chk_e h
    exact lv_astore hx hb hdg hl.1 (by have := tp_ok1_lt h1; have := hl.2; omega) rfl (fun ls' hl' => hnx _ _ _ h H locs ls' hW (tp_lv_set1 (v := .ref z) hl h1 hl'))
  case lstore k =>
    have hn : n = 2 := by simpa [tp_ok2] using hok
    subst hn
    obtain ⟨z, r, rfl, h⟩ := tp_l1_e (st := st) h
    obtain ⟨h1, h⟩ := tp_chk_e h
    simp only [Bool.and_eq_true, decide_eq_true_eq] at h1
    exact lv_lstore hx hb hdg hl.1 (by have := h1.2; have := hl.2; omega) rfl (fun ls' hl' => hnx _ _ _ h H locs ls' hW (tp_lv_set2 hl h1.1 hl'))
  case iinc k q =>
    simp only [tp_ok2, Bool.and_eq_true, beq_iff_eq, decide_eq_true_eq] at hok
    obtain ⟨hn, hok⟩ := hok
    subst hn
    obtain ⟨z, hz, h⟩ := tp_gi_e (L := L) (k := k) h
    obtain ⟨h1, h⟩ := tp_chk_e h
    have hmem : (k, Value.int z) ∈ tp_al ad L := tp_al_mem.mpr ⟨.int z, hz, rfl, rfl⟩
    obtain ⟨j, hj⟩ := List.getElem?_of_mem hmem
    refine lv_iinc (v := z + v) hx hb hdg hl.1 hj (by rw [hok]) (by have := tp_ok1_lt h1; have := hl.2; omega) rfl (fun ls' hl' => hnx _ _ _ h H locs ls' hW (tp_lv_set1 (v := .int (z + v)) hl h1 hl'))
  case iadd =>
    have hn : n = 1 := by simpa [tp_ok2] using hok
    subst hn
    obtain ⟨z1, z2, r, rfl, h⟩ := tp_i2_e (st := st) h
    exact lv_iadd hx hb hdg (hnx _ _ _ h H locs ls hW hl)
  case isub =>
    have hn : n = 1 := by simpa [tp_ok2] using hok
    subst hn
    obtain ⟨z1, z2, r, rfl, h⟩ := tp_i2_e (st := st) h
    exact lv_isub hx hb hdg (hnx _ _ _ h H locs ls hW hl)
  case imul =>
    have hn : n = 1 := by simpa [tp_ok2] using hok
    subst hn
    obtain ⟨z1, z2, r, rfl, h⟩ := tp_i2_e (st := st) h
    exact lv_imul hx hb hdg (hnx _ _ _ h H locs ls hW hl)
  case iand =>
    have hn : n = 1 := by simpa [tp_ok2] using hok
    subst hn
    obtain ⟨z1, z2, r, rfl, h⟩ := tp_i2_e (st := st) h
    exact lv_iand hx hb hdg (hnx _ _ _ h H locs ls hW hl)
  case ior =>
    have hn : n = 1 := by simpa [tp_ok2] using hok
    subst hn
    obtain ⟨z1, z2, r, rfl, h⟩ := tp_i2_e (st := st) h
    exact lv_ior hx hb hdg (hnx _ _ _ h H locs ls hW hl)
  case ixor =>
    have hn : n = 1 := by simpa [tp_ok2] using hok
    subst hn
    obtain ⟨z1, z2, r, rfl, h⟩ := tp_i2_e (st := st) h
    exact lv_ixor hx hb hdg (hnx _ _ _ h H locs ls hW hl)
  case ishl =>
    have hn : n = 1 := by simpa [tp_ok2] using hok
    subst hn
    obtain ⟨z1, z2, r, rfl, h⟩ := tp_i2_e (st := st) h
    exact lv_ishl hx hb hdg (hnx _ _ _ h H locs ls hW hl)
  case ishr =>
    have hn : n = 1 := by simpa [tp_ok2] using hok
    subst hn
    obtain ⟨z1, z2, r, rfl, h⟩ := tp_i2_e (st := st) h
    exact lv_ishr hx hb hdg (hnx _ _ _ h H locs ls hW hl)
  case idiv =>
    have hn : n = 1 := by simpa [tp_ok2] using hok
    subst hn
    obtain ⟨z1, z2, r, rfl, h1, h⟩ := tp_i2_e (st := st) h
    exact lv_idiv hx hb hdg h1 (hnx _ _ _ h H locs ls hW hl)
  case irem =>
    have hn : n = 1 := by simpa [tp_ok2] using hok
    subst hn
    obtain ⟨z1, z2, r, rfl, h1, h⟩ := tp_i2_e (st := st) h
    exact lv_irem hx hb hdg h1 (hnx _ _ _ h H locs ls hW hl)
  case i2l =>
    have hn : n = 1 := by simpa [tp_ok2] using hok
    subst hn
    obtain ⟨z1, r, rfl, h⟩ := tp_i1_e (st := st) h
    exact lv_i2l hx hb hdg rfl (hnx _ _ _ h H locs ls hW hl)
  case i2b =>
    have hn : n = 1 := by simpa [tp_ok2] using hok
    subst hn
    obtain ⟨z1, r, rfl, h⟩ := tp_i1_e (st := st) h
    exact lv_i2b hx hb hdg rfl (hnx _ _ _ h H locs ls hW hl)
  case i2s =>
    have hn : n = 1 := by simpa [tp_ok2] using hok
    subst hn
    obtain ⟨z1, r, rfl, h⟩ := tp_i1_e (st := st) h
    exact lv_i2s hx hb hdg rfl (hnx _ _ _ h H locs ls hW hl)
  case i2c =>
    have hn : n = 1 := by simpa [tp_ok2] using hok
    subst hn
    obtain ⟨z1, r, rfl, h⟩ := tp_i1_e (st := st) h
    exact lv_i2c hx hb hdg rfl (hnx _ _ _ h H locs ls hW hl)
  case l2i =>
    have hn : n = 1 := by simpa [tp_ok2] using hok
    subst hn
    obtain ⟨z1, r, rfl, h⟩ := tp_l1_e (st := st) h
    exact lv_l2i hx hb hdg rfl (hnx _ _ _ h H locs ls hW hl)
  case ladd =>
    have hn : n = 1 := by simpa [tp_ok2] using hok
    subst hn
    obtain ⟨z1, z2, r, rfl, h⟩ := tp_l2_e (st := st) h
    exact lv_ladd hx hb hdg (hnx _ _ _ h H locs ls hW hl)
  case land =>
    have hn : n = 1 := by simpa [tp_ok2] using hok
    subst hn
    obtain ⟨z1, z2, r, rfl, h⟩ := tp_l2_e (st := st) h
    exact lv_land hx hb hdg (hnx _ _ _ h H locs ls hW hl)
  case lor =>
    have hn : n = 1 := by simpa [tp_ok2] using hok
    subst hn
    obtain ⟨z1, z2, r, rfl, h⟩ := tp_l2_e (st := st) h
    exact lv_lor hx hb hdg (hnx _ _ _ h H locs ls hW hl)
  case lcmp =>
    have hn : n = 1 := by simpa [tp_ok2] using hok
    subst hn
    obtain ⟨z1, z2, r, rfl, h⟩ := tp_l2_e (st := st) h
    exact W.lcmp hx hb hdg (hnx _ _ _ h H locs ls hW hl)
  case lshl =>
    have hn : n = 1 := by simpa [tp_ok2] using hok
    subst hn
    obtain ⟨z1, z2, r, rfl, h⟩ := tp_il_e (st := st) h
    exact lv_lshl hx hb hdg rfl (hnx _ _ _ h H locs ls hW hl)
  case lshr =>
    have hn : n = 1 := by simpa [tp_ok2] using hok
    subst hn
    obtain ⟨z1, z2, r, rfl, h⟩ := tp_il_e (st := st) h
    exact lv_lshr hx hb hdg rfl (hnx _ _ _ h H locs ls hW hl)
  case lushr =>
    have hn : n = 1 := by simpa [tp_ok2] using hok
    subst hn
    obtain ⟨z1, z2, r, rfl, h⟩ := tp_il_e (st := st) h
    exact lv_lushr hx hb hdg rfl (hnx _ _ _ h H locs ls hW hl)
  case dup =>
    have hn : n = 1 := by simpa [tp_ok2] using hok
    subst hn
    obtain ⟨z1, r, rfl, h1, h⟩ := tp_a1_e (st := st) h
    exact lv_dup hx hb hdg (tp_v_cat.trans h1) (hnx _ _ _ h H locs ls hW hl)
  case pop =>
    have hn : n = 1 := by simpa [tp_ok2] using hok
    subst hn
    obtain ⟨z1, r, rfl, h1, h⟩ := tp_a1_e (st := st) h
    exact lv_pop hx hb hdg (tp_v_cat.trans h1) (hnx _ _ _ h H locs ls hW hl)
  case dup_x1 =>
    have hn : n = 1 := by simpa [tp_ok2] using hok
    subst hn
    obtain ⟨z1, z2, r, rfl, h1, h2, h⟩ := tp_a2_e (st := st) h
    exact lv_dup_x1 hx hb hdg (tp_v_cat.trans h1) (tp_v_cat.trans h2) (hnx _ _ _ h H locs ls hW hl)
  case dup2 =>
    have hn : n = 1 := by simpa [tp_ok2] using hok
    subst hn
    obtain ⟨z1, z2, r, rfl, h1, h2, h⟩ := tp_a2_e (st := st) h
    exact lv_dup2_11 hx hb hdg (tp_v_cat.trans h1) (tp_v_cat.trans h2) (hnx _ _ _ h H locs ls hW hl)
  case dup_x2 =>
    have hn : n = 1 := by simpa [tp_ok2] using hok
    subst hn
    obtain ⟨z1, z2, z3, r, rfl, h1, h2, h3, h⟩ := tp_a3_e (st := st) h
    exact lv_dup_x2 hx hb hdg (tp_v_cat.trans h1) (tp_v_cat.trans h2) (tp_v_cat.trans h3) (hnx _ _ _ h H locs ls hW hl)
  case ifCond cd off =>
    simp only [tp_ok2, Bool.and_eq_true, beq_iff_eq, decide_eq_true_eq] at hok
    obtain ⟨hn, hok⟩ := hok
    subst hn
    cases cd
    case eq =>
      obtain ⟨z1, r, rfl, h1, h2⟩ := tp_i1_e (st := st) h
      exact lv_if_eq hx hb hdg hok (fun q => hK _ _ _ _ (h1 q) H locs ls hW hl) (fun q => hnx _ _ _ (h2 q) H locs ls hW hl)
    case ne =>
      obtain ⟨z1, r, rfl, h1, h2⟩ := tp_i1_e (st := st) h
      exact lv_if_ne hx hb hdg hok (fun q => hK _ _ _ _ (h2 q) H locs ls hW hl) (fun q => hnx _ _ _ (h1 q) H locs ls hW hl)
    case lt =>
      obtain ⟨z1, r, rfl, h1, h2⟩ := tp_i1_e (st := st) h
      exact lv_if_lt hx hb hdg hok (fun q => hK _ _ _ _ (h1 q) H locs ls hW hl) (fun q => hnx _ _ _ (h2 q) H locs ls hW hl)
    case ge =>
      obtain ⟨z1, r, rfl, h1, h2⟩ := tp_i1_e (st := st) h
      exact lv_if_ge hx hb hdg hok (fun q => hK _ _ _ _ (h1 q) H locs ls hW hl) (fun q => hnx _ _ _ (h2 q) H locs ls hW hl)
    case gt =>
      obtain ⟨z1, r, rfl, h1, h2⟩ := tp_i1_e (st := st) h
      exact lv_if_gt hx hb hdg hok (fun q => hK _ _ _ _ (h1 q) H locs ls hW hl) (fun q => hnx _ _ _ (h2 q) H locs ls hW hl)
    case le =>
      obtain ⟨z1, r, rfl, h1, h2⟩ := tp_i1_e (st := st) h
      exact lv_if_le hx hb hdg hok (fun q => hK _ _ _ _ (h1 q) H locs ls hW hl) (fun q => hnx _ _ _ (h2 q) H locs ls hW hl)
  case if_icmp cd off =>
    simp only [tp_ok2, Bool.and_eq_true, beq_iff_eq, decide_eq_true_eq] at hok
    obtain ⟨hn, hok⟩ := hok
    subst hn
    cases cd
    case eq =>
      obtain ⟨z1, z2, r, rfl, h1, h2⟩ := tp_i2_e (st := st) h
      exact lv_icmp_eq hx hb hdg hok (fun q => hK _ _ _ _ (h1 q) H locs ls hW hl) (fun q => hnx _ _ _ (h2 q) H locs ls hW hl)
    case ne =>
      obtain ⟨z1, z2, r, rfl, h1, h2⟩ := tp_i2_e (st := st) h
      exact lv_icmp_ne hx hb hdg hok (fun q => hK _ _ _ _ (h2 q) H locs ls hW hl) (fun q => hnx _ _ _ (h1 q) H locs ls hW hl)
    case lt =>
      obtain ⟨z1, z2, r, rfl, h1, h2⟩ := tp_i2_e (st := st) h
      exact lv_icmp_lt hx hb hdg hok (fun q => hK _ _ _ _ (h1 q) H locs ls hW hl) (fun q => hnx _ _ _ (h2 q) H locs ls hW hl)
    case ge =>
      obtain ⟨z1, z2, r, rfl, h1, h2⟩ := tp_i2_e (st := st) h
      exact lv_icmp_ge hx hb hdg hok (fun q => hK _ _ _ _ (h1 q) H locs ls hW hl) (fun q => hnx _ _ _ (h2 q) H locs ls hW hl)
    case gt =>
      obtain ⟨z1, z2, r, rfl, h1, h2⟩ := tp_i2_e (st := st) h
      exact lv_icmp_gt hx hb hdg hok (fun q => hK _ _ _ _ (h1 q) H locs ls hW hl) (fun q => hnx _ _ _ (h2 q) H locs ls hW hl)
    case le =>
      obtain ⟨z1, z2, r, rfl, h1, h2⟩ := tp_i2_e (st := st) h
      exact lv_icmp_le hx hb hdg hok (fun q => hK _ _ _ _ (h1 q) H locs ls hW hl) (fun q => hnx _ _ _ (h2 q) H locs ls hW hl)
  case goto off =>
    simp only [tp_ok2, Bool.and_eq_true, beq_iff_eq, decide_eq_true_eq] at hok
    obtain ⟨hn, hok⟩ := hok
    subst hn
    exact lv_goto hx hb hdg hok (hK _ _ _ _ h H locs ls hW hl)
  case tableswitch d lo hi os =>
    simp only [tp_ok2, Bool.and_eq_true, List.all_eq_true, decide_eq_true_eq] at hok
    obtain ⟨h0, h1, h2, h3⟩ := hok
    obtain ⟨z, r, rfl, h4, h5⟩ := tp_i1_e (st := st) h
    by_cases hz : z.toInt < lo ∨ hi < z.toInt
    · exact lv_tableOut hx hb hdg hz (tgt := ((pc : Int) + d).toNat) (by omega) (hK _ _ _ _ (h4 hz) H locs ls hW hl)
    · obtain ⟨off, g1, g2⟩ := tp_tl_in os.toList lo h5 (fun q => hz (Or.inl q)) (by rw [Array.length_toList]; omega)
      have g3 := h1 off (List.mem_of_getElem? g1)
      exact lv_tableIn hx hb hdg (fun q => hz (Or.inl q)) (fun q => hz (Or.inr q)) (off := off) (tgt := ((pc : Int) + off).toNat) (by rw [← Array.getElem?_toList]; exact g1) (by omega) (hK _ _ _ _ g2 H locs ls hW hl)
  case lookupswitch d ps =>
    simp only [tp_ok2, Bool.and_eq_true, List.all_eq_true (l := ps.toList), decide_eq_true_eq] at hok
    obtain ⟨h0, h1, h2⟩ := hok
    obtain ⟨z, r, rfl, h4⟩ := tp_i1_e (st := st) h
    obtain ⟨off, g1, g2, g3⟩ := tp_lk_in ps.toList h4
    have g4 : 0 ≤ (pc : Int) + off := by
      rcases g2 with g2 | ⟨q, g2, g5⟩
      · rw [g2]; exact h0
      · rw [g5]; exact h1 q g2
    exact lv_lookup hx hb hdg h2 g1 (tgt := ((pc : Int) + off).toNat) (by omega) (hK _ _ _ _ g3 H locs ls hW hl)
  case getfield k =>
    simp only [tp_ok2, Bool.and_eq_true, beq_iff_eq] at hok
    obtain ⟨hn, hok⟩ := hok
    subst hn
    obtain ⟨q, r, rfl, h⟩ := tp_r1_e (st := st) h
    obtain ⟨h1, h⟩ := tp_chk_e h
    simp only [Bool.and_eq_true, beq_iff_eq, decide_eq_true_eq] at h1
    obtain ⟨h1, ha20⟩ := h1
    have h1 : tp_kd q = a := h1
    have h : (match tp_isR a b with
          | false => nx L (.int (σ.1 q b) :: r) σ
          | true => nx L (.ref (tp_rr σ q b) :: r) σ) := h
    cases hc : vwCl[a]? with
    | none => rw [hc] at hok; cases hok
    | some t =>
      obtain ⟨Cn, T, N⟩ := t
      rw [hc] at hok
      simp only [Bool.and_eq_true, decide_eq_true_eq] at hok
      obtain ⟨f1, ⟨ty0, f2⟩, f3, f4⟩ := tp_clf a Cn T N hc
      have ha11 : a < 20 := by have := (List.getElem?_eq_some_iff.mp hc).1; rw [tp_vwcl] at this; omega
      have hcell := tp_cell_cls (cs := cs) (ad := ad) (σ := σ) (o := q) (by omega)
      rw [h1] at hcell
      refine va_get hx hb hts f1 hown hK0 hP q (by rw [tp_ws_at (hlt q (by omega) (by omega)), hcell]) hc b hok.1 (hts _ (tp_gt_in hok.2)) (fun _ z => z) (v := tp_fv ad σ q b) (tp_fs_at (by rw [h1, ← f4]; exact hok.1)) hdg ?_
      unfold tp_fv
      rw [h1]
      cases hr : tp_isR a b with
      | false =>
        rw [hr] at h
        exact hnx _ _ _ h H locs ls hW hl
      | true =>
        rw [hr] at h
        exact hnx _ _ _ h H locs ls hW hl
  case putfield k =>
    simp only [tp_ok2, Bool.and_eq_true, beq_iff_eq] at hok
    obtain ⟨hn, hok⟩ := hok
    subst hn
    cases hc : vwCl[a]? with
    | none => rw [hc] at hok; cases hok
    | some t =>
      obtain ⟨Cn, T, N⟩ := t
      rw [hc] at hok
      simp only [Bool.and_eq_true, decide_eq_true_eq] at hok
      obtain ⟨k1, k2, k3, k4⟩ := hok
      obtain ⟨f1, ⟨ty0, f2⟩, f3, f4⟩ := tp_clf a Cn T N hc
      have ha11 : a < 20 := by have := (List.getElem?_eq_some_iff.mp hc).1; rw [tp_vwcl] at this; omega
      cases hr : tp_isR a b with
      | false =>
        rw [hr] at k4
        simp only [tp_I, hr] at h
        obtain ⟨q, z, r, rfl, h⟩ := tp_ri_e (st := st) h
        obtain ⟨h1, h⟩ := tp_chk_e h
        have h1 : tp_kd q = a := by simpa using h1
        have hq82 : q < 82 := tp_kd_lt (by omega)
        have hqN : q < σ.2.1 := hlt q (by omega) (by omega)
        have hcell := tp_cell_cls (cs := cs) (ad := ad) (σ := σ) (o := q) (by omega)
        rw [h1] at hcell
        refine va_put (D := D) (v := .int z) (ty := .int) hx hb hts f1 ty0 f2 f3 hown hK0 hP (tp_ap_D hap) hS q (by rw [tp_ws_at hqN, hcell]) hc b k1 (hts _ (tp_gt_in k2)) (fun _ z => z) k3 k4 rfl rfl (by rw [tp_fs_len, h1, ← f4]; exact k1) hdg (fun H1 locs1 hP1 hD1 hS1 => ?_)
        refine hnx _ _ _ h H1 locs1 ls ⟨?_, hσ.set hq82, hS1⟩ hl
        rw [tp_ws_set (σ' := tp_set σ q b z) hqN rfl ?_ (fun o' ho' => tp_cell_ne ho')] at hP1
        · exact hP1
        · rw [tp_cell_cls (by omega), h1, tp_fs_set (by rw [h1]; exact hr)]
      | true =>
        simp only [tp_I, hr] at h
  case iaload =>
    have hn : n = 1 := by simpa [tp_ok2] using hok
    subst hn
    obtain ⟨q, j, r, rfl, h⟩ := tp_ri_e (st := st) h
    obtain ⟨h1, hqo, h2, h⟩ := tp_chk_e h
    simp only [Bool.or_eq_true, beq_iff_eq] at h1
    rcases h1 with h1 | h1
    · have h2 : vp_in j (tp_ln q) := by simpa [tp_len, h1] using h2
      exact va_iald hx hb hK0 hP q 0 (by rw [tp_ws_at (hon q h1 hqo), tp_cell_20 h1]) rfl h2 hdg (hnx _ _ _ h H locs ls hW hl)
    · have hq := tp_kd_26 h1
      subst hq
      have h2 : vp_in j (σ0.1 89 0).toNatClampNeg := by
        rw [← hσ.1 89 (by decide)]
        simpa [tp_len, h1] using h2
      refine va_ti hx hb hro hS h2 (v := .int (σ.1 90 j.toNatClampNeg)) (by rw [hσ.1 90 (by decide)]) hdg (hnx _ _ _ h H locs ls hW hl)
  case newarray t =>
    simp only [tp_ok2, Bool.and_eq_true, beq_iff_eq] at hok
    obtain ⟨hn, hok⟩ := hok
    subst hn
    obtain ⟨z, r, rfl, h⟩ := tp_i1_e (st := st) h
    obtain ⟨h1, h2, h3, h4⟩ := tp_chk_e h
    simp only [Bool.and_eq_true, beq_iff_eq, decide_eq_true_eq] at h1
    cases r with
    | cons y r => exact absurd h1.2.1 (by simp)
    | nil =>
      subst h2
      cases t <;> first
        | exact hRx pc σ H locs ls h1.1 h1.2.2 hdg h4 hW (tp_lv_wk h3 hl)
        | exact absurd hok (by decide)
  case baload =>
    have hn : n = 1 := by simpa [tp_ok2] using hok
    subst hn
    obtain ⟨q, j, r, rfl, h⟩ := tp_ri_e (st := st) h
    obtain ⟨h1, h2, h⟩ := tp_chk_e h
    simp only [Bool.or_eq_true, beq_iff_eq] at h1
    rcases h1 with h1 | h1
    · exact va_bald hx hb hK0 hP q 1 (by rw [tp_ws_at (hlt q (by omega) (by omega)), tp_cell_21 h1]) rfl h2 hdg (hnx _ _ _ h H locs ls hW hl)
    · exact va_zald hx hb hK0 hP q 2 (by rw [tp_ws_at (hlt q (by omega) (by omega)), tp_cell_22 h1]) rfl h2 hdg (hnx _ _ _ h H locs ls hW hl)
  case aaload =>
    have hn : n = 1 := by simpa [tp_ok2] using hok
    subst hn
    obtain ⟨q, j, r, rfl, h⟩ := tp_ri_e (st := st) h
    have h : (match tp_kd q with
      | 23 => vp_in j 4 ∧ tp_four j (fun t => nx L (.ref t :: r) σ)
      | _ => tp_chk (tp_kd q == 24) (vp_in j (tp_ln q) ∧ nx L (.ref (tp_rr σ q j.toNatClampNeg) :: r) σ)) := h
    by_cases h1 : tp_kd q = 23
    · rw [h1] at h
      obtain ⟨h2, h3⟩ : vp_in j 4 ∧ tp_four j (fun t => nx L (.ref t :: r) σ) := h
      have hq : q = 5 := (by decide +kernel : ∀ q, q < 82 → tp_kd q = 23 → q = 5) q (tp_kd_lt (by omega)) h1
      subst hq
      refine tp_alda hx hb hK0 hP 5 3 (by rw [tp_ws_at (hlt 5 (by rw [h1]; decide) (by rw [h1]; decide)), tp_cell_23 h1]; rfl) rfl rfl h2 hdg ?_
      obtain ⟨i, hi, rfl⟩ := vp_in_of h2 (by decide)
      rcases (show i = 0 ∨ i = 1 ∨ i = 2 ∨ i = 3 by omega) with rfl | rfl | rfl | rfl
      · exact hnx _ _ _ (h3.1 rfl) H locs ls hW hl
      · exact hnx _ _ _ (h3.2.1 rfl) H locs ls hW hl
      · exact hnx _ _ _ (h3.2.2.1 rfl) H locs ls hW hl
      · exact hnx _ _ _ (h3.2.2.2 rfl) H locs ls hW hl
    · have h : tp_chk (tp_kd q == 24) (vp_in j (tp_ln q) ∧ nx L (.ref (tp_rr σ q j.toNatClampNeg) :: r) σ) := by
        revert h
        split
        · exact absurd ‹_› h1
        · exact id
      obtain ⟨h1, h2, h⟩ := tp_chk_e h
      have h1 : tp_kd q = 24 := by simpa using h1
      exact tp_alda (f := fun j => some (ad (tp_rr σ q j))) hx hb hK0 hP q 4 (by rw [tp_ws_at (hlt q (by omega) (by omega)), tp_cell_24 h1]) rfl rfl h2 hdg (hnx _ _ _ h H locs ls hW hl)
  case iastore =>
    have hn : n = 1 := by simpa [tp_ok2] using hok
    subst hn
    obtain ⟨q, j, z, r, rfl, h⟩ := tp_rii_e (st := st) h
    obtain ⟨h1, hqo, h2, h⟩ := tp_chk_e h
    have h1 : tp_kd q = 20 := by simpa using h1
    have hq82 : q < 82 := tp_kd_lt (by omega)
    have hqN := hon q h1 hqo
    refine va_iast hx hb hK0 hP (tp_ap_D hap) hS q 0 (by rw [tp_ws_at hqN, tp_cell_20 h1]) rfl h2 hdg (fun H1 locs1 hP1 hD1 hS1 => ?_)
    refine hnx _ _ _ h H1 locs1 ls ⟨?_, hσ.set hq82, hS1⟩ hl
    rw [tp_ws_set (σ' := tp_set σ q j.toNatClampNeg z) hqN rfl ?_ (fun o' ho' => tp_cell_ne ho')] at hP1
    · exact hP1
    · rw [tp_cell_20 h1]
      show _ = Sum.inl (_, _, Sum.inl (tp_up _ _ _ _ _))
      rw [tp_up_self]
  case bastore =>
    have hn : n = 1 := by simpa [tp_ok2] using hok
    subst hn
    obtain ⟨q, j, z, r, rfl, h⟩ := tp_rii_e (st := st) h
    obtain ⟨h1, h2, h⟩ := tp_chk_e h
    simp only [Bool.or_eq_true, beq_iff_eq] at h1
    have hq82 : q < 82 := tp_kd_lt (by omega)
    have hqN : q < σ.2.1 := hlt q (by omega) (by omega)
    rcases h1 with h1 | h1
    · refine va_bast hx hb hK0 hP (tp_ap_D hap) hS q 1 (by rw [tp_ws_at hqN, tp_cell_21 h1]) rfl h2 hdg (fun H1 locs1 hP1 hD1 hS1 => ?_)
      refine hnx _ _ _ h H1 locs1 ls ⟨?_, hσ.set hq82, hS1⟩ hl
      rw [tp_ws_set (σ' := tp_set σ q j.toNatClampNeg (vp_nar (tp_bt (tp_kd q)) z)) hqN rfl ?_ (fun o' ho' => tp_cell_ne ho')] at hP1
      · exact hP1
      · rw [tp_cell_21 h1]
        show _ = Sum.inl (_, _, Sum.inl (tp_up _ _ _ _ _))
        rw [tp_up_self, h1]
        rfl
    · refine va_zast hx hb hK0 hP (tp_ap_D hap) hS q 2 (by rw [tp_ws_at hqN, tp_cell_22 h1]) rfl h2 hdg (fun H1 locs1 hP1 hD1 hS1 => ?_)
      refine hnx _ _ _ h H1 locs1 ls ⟨?_, hσ.set hq82, hS1⟩ hl
      rw [tp_ws_set (σ' := tp_set σ q j.toNatClampNeg (vp_nar (tp_bt (tp_kd q)) z)) hqN rfl ?_ (fun o' ho' => tp_cell_ne ho')] at hP1
      · exact hP1
      · rw [tp_cell_22 h1]
        show _ = Sum.inl (_, _, Sum.inl (tp_up _ _ _ _ _))
        rw [tp_up_self, h1]
        rfl
  case arraylength =>
    have hn : n = 1 := by simpa [tp_ok2] using hok
    subst hn
    obtain ⟨q, r, rfl, h⟩ := tp_r1_e (st := st) h
    obtain ⟨h1, h⟩ := tp_chk_e h
    simp only [beq_iff_eq] at h1
    have hq := tp_kd_26 h1
    subst hq
    refine va_tlen hx hb hro hS ?_ hdg (hnx _ _ _ h H locs ls hW hl)
    rw [← hσ.1 89 (by decide)]
    simp [tp_len, h1]
  case invokevirtual k =>
    simp only [tp_ok2, Bool.and_eq_true, beq_iff_eq, decide_eq_true_eq] at hok
    obtain ⟨hn, hok, hkind, hlink⟩ := hok
    subst hn
    simp only [tp_okc, Bool.and_eq_true, decide_eq_true_eq] at hok
    obtain ⟨haL, hroom1, hroom2⟩ := hok
    obtain ⟨h1, h⟩ := tp_chk_e h
    simp only [Bool.and_eq_true, decide_eq_true_eq] at h1
    obtain ⟨⟨hna, hlen, hsum, hent⟩, hrcv⟩ := h1
    have h : C a (st.take b).reverse σ (fun r σ' => nx L (tp_push a r (st.drop b)) σ') := h
    have hrcv : tp_rcv (st[b - 1]?) (tp_rk a) = true := hrcv
    obtain ⟨q, hq, hkq⟩ := tp_lens hrcv
    obtain ⟨m1, m2, m3, m4, m5, m6, m7, m8, m9⟩ := tp_okM_v haL hkind
    have hb1 : 0 < b := by rw [← hna]; exact m4
    have hst : st.take b = st.take (b - 1) ++ [.ref q] := by
      rw [show st.take b = st.take ((b - 1) + 1) by congr 1; omega, List.take_add_one, hq]
      rfl
    have hMO := hC a _ σ _ haL hent h H.size
    have hav : ((st.take b).reverse.map (tp_v ad)) = .ref (ad q) :: ((st.take (b - 1)).map (tp_v ad)).reverse := by
      rw [hst]
      simp [tp_v, List.map_reverse]
    rw [hav] at hMO
    have hrun := va_runV (e := e) (below := below) (meth := meth) (locs := locs) (cells := cells) (slots := slots) (rest := (st.drop b).map (tp_v ad)) (g := F0 m pc ls (st.map (tp_v ad))) (index := k) ⟨hx, hb, hml, hown, hts⟩ hMO
      (cwV (tp_na a - 1) hts (tp_goodV haL m1 m2 m5 (tp_gt_in hlink)) rfl rfl rfl ⟨rfl, m6.1, m6.2, m3⟩ ⟨Nat.le_trans hroom1 hrf, Nat.le_trans hroom2 hrl⟩)
      ⟨tp_blind, tp_recv cx hW haL hkind hkq, fun U hU hWm => ⟨rfl, tp_pre cx hW hU hWm⟩⟩
      rfl (by rw [List.length_reverse, List.length_map, List.length_take, hna]; omega) hl.1.1 (by
        show st.map (tp_v ad) = _
        rw [List.reverse_reverse]
        conv => lhs; rw [← List.take_append_drop b st, hst]
        simp [tp_v]) (lv_room (by rw [tp_v_cats]; exact hsum)) hdg ⟨hcl, hsl⟩
    exact tp_after hrun hap0 hA hW hl (fun r σ' hr => hnx _ _ _ hr)
  case invokestatic k =>
    simp only [tp_ok2, Bool.and_eq_true, beq_iff_eq] at hok
    obtain ⟨hn, hok⟩ := hok
    subst hn
    by_cases ha : a = 900
    · subst ha
      simp only [Bool.and_eq_true, decide_eq_true_eq] at hok
      obtain ⟨⟨r1, r2⟩, hlink⟩ := hok
      obtain ⟨z1, z2, r, rfl, h⟩ := tp_i2_e (st := st) h
      obtain ⟨h1, h⟩ := tp_chk_e h
      simp only [decide_eq_true_eq] at h1
      have mm := tp_mathmax
      simp only [Bool.and_eq_true] at mm
      exact va_mmax hx hb (hml.trans hl.1.1.symm) hown (hts _ (tp_gt_in hlink)) (hts _ (tp_gt_in mm.1)) (hts _ (tp_gt_in mm.2.1)) (hts _ (tp_gt_in mm.2.2)) (Nat.le_trans r1 hrf) (by
        have e : ((r.map (tp_v ad)).map fun v => v.category).sum = (r.map fun v => v.category).sum := tp_v_cats
        rw [e]
        omega) hcl hsl hdg (hnx _ _ _ h H locs ls hW hl)
    · by_cases ha2 : a = 901
      · subst ha2
        simp only [Bool.and_eq_true, decide_eq_true_eq] at hok
        obtain ⟨⟨r1, r2⟩, hlink⟩ := hok
        obtain ⟨z1, z2, r, rfl, h⟩ := tp_i2_e (st := st) h
        obtain ⟨h1, h⟩ := tp_chk_e h
        simp only [decide_eq_true_eq] at h1
        have mm := tp_mathmin
        simp only [Bool.and_eq_true] at mm
        exact va_mmin hx hb (hml.trans hl.1.1.symm) hown (hts _ (tp_gt_in hlink)) (hts _ (tp_gt_in mm.1)) (hts _ (tp_gt_in mm.2.1)) (hts _ (tp_gt_in mm.2.2)) (Nat.le_trans r1 hrf) (by
          have e : ((r.map (tp_v ad)).map fun v => v.category).sum = (r.map fun v => v.category).sum := tp_v_cats
          rw [e]
          omega) hcl hsl hdg (hnx _ _ _ h H locs ls hW hl)
      · have hok : (tp_okc mid a && (decide (tp_rk a = 50) && tp_wd (.methodLink (tp_cls mid) k (tp_y a)) w)) = true := by
          revert hok
          split
          · exact fun _ => absurd rfl ha
          · exact fun _ => absurd rfl ha2
          · exact id
        have h : tp_chk (decide (tp_na a = b ∧ b ≤ st.length ∧ ((st.drop b).map fun v => v.category).sum ≤ 8 ∧ (tp_ent1 (st.take b).reverse).length ≤ tp_n a)) (C a (st.take b).reverse σ (fun r σ' => nx L (tp_push a r (st.drop b)) σ')) := tp_is_e h ha ha2
        simp only [Bool.and_eq_true, decide_eq_true_eq, Bool.or_eq_true, tp_okc] at hok
        obtain ⟨⟨haL, hroom1, hroom2⟩, hkind, hlink⟩ := hok
        obtain ⟨h1, h⟩ := tp_chk_e h
        simp only [decide_eq_true_eq] at h1
        obtain ⟨hna, hlen, hsum, hent⟩ := h1
        obtain ⟨m1, m3, m5, m6⟩ := tp_okM_s haL hkind
        have hMO := hC a _ σ _ haL hent h H.size
        rw [List.map_reverse] at hMO
        have hn1 : ((st.take b).map (tp_v ad)).reverse.length = tp_na a := by rw [List.length_reverse, List.length_map, List.length_take, hna]; omega
        have hst : (F0 m pc ls (st.map (tp_v ad))).stack = ((st.take b).map (tp_v ad)).reverse.reverse ++ (st.drop b).map (tp_v ad) := by
          show st.map (tp_v ad) = _
          rw [List.reverse_reverse, ← List.map_append, List.take_append_drop]
        have hrun := va_runS (e := e) (below := below) (meth := meth) (locs := locs) (cells := cells) (slots := slots) (rest := (st.drop b).map (tp_v ad)) (g := F0 m pc ls (st.map (tp_v ad))) (index := k) ⟨hx, hb, hml, hown, hts⟩ hMO
            (va_cwS (tp_na a) hts (tp_goodS haL m1 m5 (tp_gt_in hlink)) rfl rfl rfl ⟨m6.1, m6.2, m3⟩ ⟨Nat.le_trans hroom1 hrf, Nat.le_trans hroom2 hrl⟩)
            ⟨tp_blind, fun U hU hWm => ⟨rfl, tp_pre cx hW hU hWm⟩⟩ rfl hn1 hl.1.1 hst (lv_room (by rw [tp_v_cats]; exact hsum)) hdg ⟨hcl, hsl⟩
        exact tp_after hrun hap0 hA hW hl (fun r σ' hr => hnx _ _ _ hr)
  case ireturn =>
    have hn : n = 1 := by simpa [tp_ok2] using hok
    subst hn
    simp only [tp_I] at h
    cases hret : tp_ret mid with
    | none => rw [hret] at h; exact h.elim
    | some t =>
      rw [hret] at h
      have h : tp_i1 st (fun v r => tp_chk r.isEmpty (narrow t (.int v) = .int v ∧ post v σ)) := h
      obtain ⟨z, r, rfl, hz⟩ := tp_i1_e h
      obtain ⟨h1, h2, h3⟩ := tp_chk_e hz
      cases r with
      | nil => exact hRi pc z t σ H locs ls hret hdg h2 h3 hW
      | cons y r => cases h1
  case return_ =>
    have hn : n = 1 := by simpa [tp_ok2] using hok
    subst hn
    simp only [tp_I] at h
    cases hret : tp_ret mid with
    | some t => rw [hret] at h; exact h.elim
    | none =>
      rw [hret] at h
      have h : tp_chk st.isEmpty (post 0 σ) := h
      obtain ⟨h1, h2⟩ := tp_chk_e h
      cases st with
      | nil => exact hRv pc σ H locs ls hret hdg h2 hW
      | cons y r => cases h1
end TPI
end
section
theorem tp_okLaw : ∀ k : Nat, ((tp_prg 43)[k]?).all (fun q => tp_okL 43 q.1 q.2) = true
  | 0 => tp_okq0
  | 1 => tp_okq1
  | 2 => tp_okq2
  | 3 => tp_okq3
  | 4 => tp_okq4
  | 5 => tp_okq5
  | 6 => tp_okq6
  | 7 => tp_okq7
  | 8 => tp_okq8
  | 9 => tp_okq9
  | 10 => tp_okq10
  | 11 => tp_okq11
  | 12 => tp_okq12
  | 13 => tp_okq13
  | 14 => tp_okq14
  | 15 => tp_okq15
  | 16 => tp_okq16
  | 17 => tp_okq17
  | 18 => tp_okq18
  | 19 => tp_okq19
  | 20 => tp_okq20
  | 21 => tp_okq21
  | 22 => tp_okq22
  | 23 => tp_okq23
  | 24 => tp_okq24
  | 25 => tp_okq25
  | 26 => tp_okq26
  | 27 => tp_okq27
  | 28 => tp_okq28
  | 29 => tp_okq29
  | 30 => tp_okq30
  | 31 => tp_okq31
  | 32 => tp_okq32
  | 33 => tp_okq33
  | 34 => tp_okq34
  | 35 => tp_okq35
  | 36 => tp_okq36
  | 37 => tp_okq37
  | 38 => tp_okq38
  | 39 => tp_okq39
  | 40 => tp_okq40
  | 41 => tp_okq41
  | 42 => tp_okq42
  | 43 => tp_okq43
  | 44 => tp_okq44
  | 45 => tp_okq45
  | 46 => tp_okq46
  | 47 => tp_okq47
  | 48 => tp_okq48
  | 49 => tp_okq49
  | 50 => tp_okq50
  | 51 => tp_okq51
  | 52 => tp_okq52
  | 53 => tp_okq53
  | 54 => tp_okq54
  | 55 => tp_okq55
  | 56 => tp_okq56
  | 57 => tp_okq57
  | 58 => tp_okq58
  | 59 => tp_okq59
  | 60 => tp_okq60
  | 61 => tp_okq61
  | 62 => tp_okq62
  | 63 => tp_okq63
  | 64 => tp_okq64
  | 65 => tp_okq65
  | 66 => tp_okq66
  | 67 => tp_okq67
  | 68 => tp_okq68
  | 69 => tp_okq69
  | 70 => tp_okq70
  | 71 => tp_okq71
  | 72 => tp_okq72
  | 73 => tp_okq73
  | 74 => tp_okq74
  | 75 => tp_okq75
  | k + 76 => by
    rw [List.getElem?_eq_none (by show 76 ≤ k + 76; omega)]
    rfl
theorem tp_all_of {α : Type} {f : α → Bool} {l : List α} (h : ∀ k : Nat, (l[k]?).all f = true) : l.all f = true := by
  rw [List.all_eq_true]
  intro x hx
  obtain ⟨k, hk⟩ := List.getElem?_of_mem hx
  have := h k
  rw [hk] at this
  exact this
theorem tp_okAll : ∀ mid : Nat, (tp_prg mid).all (fun q => tp_okL mid q.1 q.2) = true
  | 0 => tp_okp0
  | 1 => tp_okp1
  | 2 => tp_okp2
  | 3 => tp_okp3
  | 4 => tp_okp4
  | 5 => tp_okp5
  | 6 => tp_okp6
  | 7 => tp_okp7
  | 8 => tp_okp8
  | 9 => tp_okp9
  | 10 => tp_okp10
  | 11 => tp_okp11
  | 12 => tp_okp12
  | 13 => tp_okp13
  | 14 => tp_okp14
  | 15 => tp_okp15
  | 16 => tp_okp16
  | 17 => tp_okp17
  | 18 => tp_okp18
  | 19 => tp_okp19
  | 20 => tp_okp20
  | 21 => tp_okp21
  | 22 => tp_okp22
  | 23 => tp_okp23
  | 24 => tp_okp24
  | 25 => tp_okp25
  | 26 => tp_okp26
  | 27 => tp_okp27
  | 28 => tp_okp28
  | 29 => tp_okp29
  | 30 => tp_okp30
  | 31 => tp_okp31
  | 32 => tp_okp32
  | 33 => tp_okp33
  | 34 => tp_okp34
  | 35 => tp_okp35
  | 36 => tp_okp36
  | 37 => tp_okp37
  | 38 => tp_okp38
  | 39 => tp_okp39
  | 40 => tp_okp40
  | 41 => tp_okp41
  | 42 => tp_okp42
  | 43 => tp_all_of tp_okLaw
  | k + 44 => by
    rw [show tp_prg (k + 44) = [] by unfold tp_prg; rw [List.getD_eq_getElem?_getD, List.getElem?_eq_none (by show 44 ≤ k + 44; omega)]; rfl]
    rfl
theorem tp_lookup {β : Type} {k : Nat} {b : β} : ∀ {l : List (Nat × β)}, l.lookup k = some b → (k, b) ∈ l
  | [], h => by cases h
  | q :: l, h => by
    obtain ⟨a, c⟩ := q
    rw [List.lookup_cons] at h
    by_cases e : k == a
    · rw [e] at h
      cases h
      rw [beq_iff_eq] at e
      rw [e]
      exact List.mem_cons_self
    · rw [Bool.not_eq_true] at e
      rw [e] at h
      exact List.mem_cons_of_mem _ (tp_lookup h)
theorem tp_okB (mid pc : Nat) : tp_okL mid pc (tp_blk mid pc) = true := by
  unfold tp_blk
  cases h : (tp_prg mid).lookup pc with
  | none => rfl
  | some b => exact List.all_eq_true.mp (tp_okAll mid) _ (tp_lookup h)
section TPC
variable {p : Program} {l : Launch} {e : Env} {R : Room} {s : State} {m : MethodId} {args : Array Value} {below : List Frame} {meth : Method} {c : Code} {cells slots : Nat} {Q : State → Prop}
variable {D : va_G} {cs : tp_CS} {ad : Nat → Nat} {A : Nat → Prop} {σ0 : tp_St} {mid : Nat}
theorem tp_snB {K : tp_KT} {C : tp_CT} {post : Int32 → tp_St → Prop}
    (cx : tp_Cx p R s m args c cells slots D cs ad A σ0 mid)
    (hK : ∀ t L st σ, K t L st σ → tp_G p l e R s m args below meth c cells slots Q D cs ad A σ0 (tp_n mid) t L st σ)
    (hC : ∀ a av σ p', a < tp_law → (tp_ent1 av).length ≤ tp_n a → C a av σ p' → tp_MO l D cs ad a av σ p')
    (hRi : ∀ pc v t σ' H locs ls, tp_ret mid = some t → decode (tp_cc mid) pc = .ok (.ireturn, 1) → narrow t (.int v) = .int v → post v σ' → tp_Wd D cs ad A s σ0 σ' H locs → W p l e R s m args below meth c H locs cells slots Q (F0 m pc ls [.int v]))
    (hRv : ∀ pc σ' H locs ls, tp_ret mid = none → decode (tp_cc mid) pc = .ok (.return_, 1) → post 0 σ' → tp_Wd D cs ad A s σ0 σ' H locs → W p l e R s m args below meth c H locs cells slots Q (F0 m pc ls []))
    (hRx : ∀ pc σ' H locs ls, mid = tp_law → pc < 1000000 → decode (tp_cc mid) pc = .ok (.newarray .int, 2) → post (Int32.ofNat pc) σ' → tp_Wd D cs ad A s σ0 σ' H locs → tp_lv ad ls (tp_n mid) (tp_exL pc) → W p l e R s m args below meth c H locs cells slots Q (F0 m pc ls [.int (Int32.ofNat (tp_ln σ'.2.1))])) :
    ∀ (is : List tp_Ins) (pc : Nat) (L st : List Value) (σ : tp_St), tp_okL mid pc is = true → tp_B mid K C post is pc L st σ → tp_G p l e R s m args below meth c cells slots Q D cs ad A σ0 (tp_n mid) pc L st σ
  | [], _, _, _, _, _, h => hK _ _ _ _ h
  | x :: is, pc, L, st, σ, hok, h => by
    simp only [tp_okL, Bool.and_eq_true] at hok
    exact tp_snI cx hok.1 h (fun L st σ q => tp_snB cx hK hC hRi hRv hRx is _ L st σ hok.2 q) hK hC hRi hRv hRx
theorem tp_ent_len : ∀ av : List Value, (lg_sl (av.map (tp_v ad))).length = (tp_ent1 av).length
  | [] => rfl
  | v :: r => by
    have ih := tp_ent_len r
    rw [List.map_cons]
    unfold tp_ent1
    unfold lg_sl at ih ⊢
    rw [List.flatMap_cons, List.length_append, ih, tp_v_cat]
    by_cases h : v.category = 2
    · rw [if_pos h, if_pos h]
      simp
      omega
    · rw [if_neg h, if_neg h]
      simp
      omega
theorem tp_ent_mem : ∀ (av : List Value) (k i j : Nat) (v : Value), (tp_ent1 av ++ List.replicate k .null)[j]? = some v → tp_nn v = true → (i + j, tp_v ad v) ∈ lv_args i (av.map (tp_v ad))
  | [], k, i, j, v, h, hn => by
    have : v = .null := by
      have h2 := List.mem_of_getElem? h
      rw [show tp_ent1 [] ++ List.replicate k Value.null = List.replicate k Value.null from rfl] at h2
      exact List.eq_of_mem_replicate h2
    subst this
    cases hn
  | u :: r, k, i, j, v, h, hn => by
    have hd : tp_ent1 (u :: r) = if u.category = 2 then u :: .null :: tp_ent1 r else u :: tp_ent1 r := rfl
    have hd2 : lv_args i ((u :: r).map (tp_v ad)) = (i, tp_v ad u) :: lv_args (if u.category = 2 then i + 2 else i + 1) (r.map (tp_v ad)) := by
      show (i, tp_v ad u) :: lv_args (if (tp_v ad u).category = 2 then i + 2 else i + 1) (r.map (tp_v ad)) = _
      rw [tp_v_cat]
    rw [hd2]
    rw [hd] at h
    by_cases hc : u.category = 2
    · rw [if_pos hc] at h ⊢
      match j, h with
      | 0, h =>
        cases h
        exact List.mem_cons_self
      | 1, h =>
        cases h
        cases hn
      | j + 2, h =>
        have := tp_ent_mem r k (i + 2) j v h hn
        rw [show i + (j + 2) = i + 2 + j by omega]
        exact List.mem_cons_of_mem _ this
    · rw [if_neg hc] at h ⊢
      match j, h with
      | 0, h =>
        cases h
        exact List.mem_cons_self
      | j + 1, h =>
        have := tp_ent_mem r k (i + 1) j v h hn
        rw [show i + (j + 1) = i + 1 + j by omega]
        exact List.mem_cons_of_mem _ this
theorem tp_lv_entry {a : Nat} {av : List Value} (h : (tp_ent1 av).length ≤ tp_n a) : tp_lv ad ((lg_sl (av.map (tp_v ad)) ++ List.replicate (tp_n a - (lg_sl (av.map (tp_v ad))).length) Slot.unset).toArray) (tp_n a) (tp_ent a av) := by
  have h1 := lv_entry (av.map (tp_v ad)) (n := tp_n a) (by rw [tp_ent_len]; exact h)
  refine ⟨⟨h1.1, h1.2.1, fun q hq => ?_⟩, ?_⟩
  · obtain ⟨v, h2, h3, h4⟩ := tp_al_mem.mp hq
    have := tp_ent_mem (ad := ad) av _ 0 q.1 v h2 h3
    rw [Nat.zero_add, ← h4] at this
    exact h1.2.2 q this
  · unfold tp_ent
    rw [List.length_append, List.length_replicate]
    omega
end TPC
/-- what the machine does from here, for whoever called -/
def tp_X (l : Launch) (D : va_G) (cs : tp_CS) (ad : Nat → Nat) : tp_XT := fun mid pc L st σ post =>
  ∀ (p : Program) (e : Env) (R : Room) (s : State) (m : MethodId) (args : Array Value) (below : List Frame) (meth : Method) (c : Code) (cells slots : Nat) (Q : State → Prop) (A : Nat → Prop) (σ0 : tp_St),
    tp_Cx p R s m args c cells slots D cs ad A σ0 mid →
    (∀ pc v t σ' H locs ls, tp_ret mid = some t → decode (tp_cc mid) pc = .ok (.ireturn, 1) → narrow t (.int v) = .int v → post v σ' → tp_Wd D cs ad A s σ0 σ' H locs → W p l e R s m args below meth c H locs cells slots Q (F0 m pc ls [.int v])) →
    (∀ pc σ' H locs ls, tp_ret mid = none → decode (tp_cc mid) pc = .ok (.return_, 1) → post 0 σ' → tp_Wd D cs ad A s σ0 σ' H locs → W p l e R s m args below meth c H locs cells slots Q (F0 m pc ls [])) →
    (∀ pc σ' H locs ls, mid = tp_law → pc < 1000000 → decode (tp_cc mid) pc = .ok (.newarray .int, 2) → post (Int32.ofNat pc) σ' → tp_Wd D cs ad A s σ0 σ' H locs → tp_lv ad ls (tp_n mid) (tp_exL pc) → W p l e R s m args below meth c H locs cells slots Q (F0 m pc ls [.int (Int32.ofNat (tp_ln σ'.2.1))])) →
    tp_G p l e R s m args below meth c cells slots Q D cs ad A σ0 (tp_n mid) pc L st σ
theorem tp_X_mono {l : Launch} {D : va_G} {cs : tp_CS} {ad : Nat → Nat} : tp_Mono (tp_X l D cs ad) := fun _ _ _ _ _ _ _ hp h p e R s m args below meth c cells slots Q A σ0 cx h1 h2 h3 =>
  h p e R s m args below meth c cells slots Q A σ0 cx (fun pc v t σ' H locs ls q1 q2 q3 q4 => h1 pc v t σ' H locs ls q1 q2 q3 (hp _ _ q4)) (fun pc σ' H locs ls q1 q2 q4 => h2 pc σ' H locs ls q1 q2 (hp _ _ q4)) (fun pc σ' H locs ls q1 q5 q2 q4 => h3 pc σ' H locs ls q1 q5 q2 (hp _ _ q4))
theorem tp_clsA {a : Nat} (ha : a < tp_law) : (tp_y a).cls = tp_cls a ∧ plainName (tp_y a).cls = true := by
  have h := tp_okM_at ha
  unfold tp_okM at h
  simp only [Bool.and_eq_true, decide_eq_true_eq] at h
  obtain ⟨h1, h2, h3, h4, h5, h6⟩ := h
  exact ⟨h4, h5⟩
/-- A CONTRACT, out of the mini machine's -/
theorem tp_met {l : Launch} {D : va_G} {cs : tp_CS} {ad : Nat → Nat} {a : Nat} {av : List Value} {σ : tp_St} {post : Int32 → tp_St → Prop} (ha : a < tp_law) (hent : (tp_ent1 av).length ≤ tp_n a) (hX : tp_X l D cs ad a 0 (tp_ent a av) [] σ post) : tp_MO l D cs ad a av σ post := by
  intro sz
  refine Met.ofW (cc := tp_cc a) (maxL := tp_n a) (ret := tp_ret a) (tp_clsA ha).2 rfl ?_
  intro p e s m args below meth c s₁ B hml hv
  obtain ⟨rfl, hsz, hP, hK, hinj, hro⟩ := hv
  subst hsz
  have hts := atoms_spec (ws := tp_wl a) B.pre
  have hown : s.vm.findClass (tp_cls a) = some m.cls := (tp_clsA ha).1 ▸ findClass_of_methodNamed B.named
  have hlocks := B.notSynchronized
  have hr := B.returns
  rw [lg_entry_eq]
  refine hX p e (tp_rm a) s m _ below meth c 0 0 _ (va_A (tp_ws cs ad σ) s.heap.size) σ
    ⟨B.exec, B.bytes, hml, hown, fun w hw => hts w (List.mem_cons_of_mem _ hw), hK, ⟨hinj.1, hinj.2, fun i hi => tp_A_iff.mpr (Or.inl ⟨i, hi, rfl⟩)⟩, fun q hq => tp_A_iff.mpr (Or.inr hq), hro, Nat.le_refl _, Nat.le_refl _, Nat.zero_le _, Nat.zero_le _⟩
    ?_ ?_ (fun pc σ' H locs ls q => absurd (q ▸ ha) (Nat.lt_irrefl _)) s.heap [] _ ⟨hP, ⟨fun _ _ => rfl, rfl⟩, va_S.rf⟩ (tp_lv_entry hent)
  · intro pc v t σ' H locs ls hret hdg hn hpost hW
    refine W.zret (ty := t) B.exec B.bytes (hr.trans hret) hn (fun u hu hWm => ?_) hW.2.2.2.2 hdg hlocks
    unfold tp_Qc
    rw [hret]
    exact ⟨⟨v, σ', rfl, hpost, by rw [hu]; exact hW.1, hW.2.1⟩, hW.2.2.F hu⟩
  · intro pc σ' H locs ls hret hdg hpost hW
    refine W.vret B.exec B.bytes (hr.trans hret) (fun u hu hWm => ?_) hW.2.2.2.2 hdg hlocks
    unfold tp_Qc
    rw [hret]
    exact ⟨⟨σ', rfl, hpost, by rw [hu]; exact hW.1, hW.2.1⟩, hW.2.2.F hu⟩
theorem tp_X_cl {l : Launch} {D : va_G} {cs : tp_CS} {ad : Nat → Nat} : tp_Cl (tp_X l D cs ad) := fun mid pc L st σ post h p e R s m args below meth c cells slots Q A σ0 cx h1 h2 h3 =>
  tp_snB cx (fun t L st σ ⟨L', hw, hX⟩ H locs ls hW hl => hX p e R s m args below meth c cells slots Q A σ0 cx h1 h2 h3 H locs ls hW (tp_lv_wk hw hl)) (fun a av σ p' ha hent hX => tp_met ha hent hX) h1 h2 h3 _ _ _ _ _ (tp_okB mid pc) h
theorem tp_sound {l : Launch} {D : va_G} {cs : tp_CS} {ad : Nat → Nat} {mid pc : Nat} {L st : List Value} {σ : tp_St} {post : Int32 → tp_St → Prop} (h : tp_E mid pc L st σ post) : tp_X l D cs ad mid pc L st σ post := h _ tp_X_mono tp_X_cl
end
section
theorem tp_Em {i pc : Nat} {L st : List Value} {σ : tp_St} {p p' : Int32 → tp_St → Prop} (h : tp_E i pc L st σ p) (hp : ∀ r σ, p r σ → p' r σ) : tp_E i pc L st σ p' := tp_E_mono i pc L st σ p p' hp h
theorem tp_rk46 {j : Int32} (h : vp_in j 6) : (tp_kd (46 + j.toNatClampNeg) = 20 ∧ tp_ln (46 + j.toNatClampNeg) = 5) ∧ 46 + j.toNatClampNeg < 58 := by
  obtain ⟨k, hk, rfl⟩ := vp_in_of h (by decide)
  rw [nI_clamp (by omega)]
  exact ⟨(by decide +kernel : ∀ k, k < 6 → tp_kd (46 + k) = 20 ∧ tp_ln (46 + k) = 5) k hk, by omega⟩
theorem tp_rk52 {j : Int32} (h : vp_in j 6) : (tp_kd (52 + j.toNatClampNeg) = 20 ∧ tp_ln (52 + j.toNatClampNeg) = 5) ∧ 52 + j.toNatClampNeg < 58 := by
  obtain ⟨k, hk, rfl⟩ := vp_in_of h (by decide)
  rw [nI_clamp (by omega)]
  exact ⟨(by decide +kernel : ∀ k, k < 6 → tp_kd (52 + k) = 20 ∧ tp_ln (52 + k) = 5) k hk, by omega⟩
theorem tp_rw {o n : Nat} {t : Int32} {σ : tp_St} {P : Prop} (hk : (tp_kd o = 20 ∧ tp_ln o = n) ∧ o < 58) (h : vp_in t n ∧ P) : tp_chk (tp_kd o == 20 || tp_kd o == 26) (tp_on σ o ∧ vp_in t (tp_len σ o) ∧ P) := by
  obtain ⟨⟨hk, rfl⟩, ho⟩ := hk
  simp only [hk, tp_len]
  exact ⟨Or.inl ho, h⟩
theorem tp_rs {o n : Nat} {t : Int32} {σ : tp_St} {P : Prop} (hk : (tp_kd o = 20 ∧ tp_ln o = n) ∧ o < 58) (h : vp_in t n ∧ P) : tp_chk (tp_kd o == 20) (tp_on σ o ∧ vp_in t (tp_ln o) ∧ P) := by
  obtain ⟨⟨hk, rfl⟩, ho⟩ := hk
  simp only [hk]
  exact ⟨Or.inl ho, h⟩

/-- X2_size (II)I, 0 -/
theorem sg_0_0 {post : Int32 → tp_St → Prop} {σ : tp_St} (a1 : Int32) (a2 : Int32)  (h : vp_in a1 6 ∧
vp_in a2 5 ∧
vp_in a1 6 ∧
vp_in a2 5 ∧
post ((σ.1 (52 + (a1).toNatClampNeg) (a2).toNatClampNeg) - (σ.1 (46 + (a1).toNatClampNeg) (a2).toNatClampNeg)) σ) : tp_E 0 0 [.ref 2, .int a1, .int a2] [] σ post := tp_E_step (And.intro h.1 (tp_rw (tp_rk52 h.1) (And.intro h.2.1 (And.intro h.2.2.1 (tp_rw (tp_rk46 h.2.2.1) (And.intro h.2.2.2.1 (And.intro rfl h.2.2.2.2)))))))
/-- X2_replace (IIII)V, 0 -/
theorem sg_1_0 {post : Int32 → tp_St → Prop} {σ : tp_St} (a1 : Int32) (a2 : Int32) (a3 : Int32) (a4 : Int32)  (h : vp_in a1 6 ∧
vp_in a2 5 ∧
vp_in a1 6 ∧
vp_in a2 5 ∧
post 0 (tp_set (tp_set σ (46 + (a1).toNatClampNeg) (a2).toNatClampNeg a3) (52 + (a1).toNatClampNeg) (a2).toNatClampNeg a4)) : tp_E 1 0 [.ref 2, .int a1, .int a2, .int a3, .int a4] [] σ post := tp_E_step (And.intro h.1 (tp_rs (tp_rk46 h.1) (And.intro h.2.1 (And.intro h.2.2.1 (tp_rs (tp_rk52 h.2.2.1) (And.intro h.2.2.2.1 (h.2.2.2.2)))))))
/-- X2_takeNext (II)I, 0 -/
theorem sg_2_0 {post : Int32 → tp_St → Prop} {σ : tp_St} (a1 : Int32) (a2 : Int32)  (h : vp_in a1 6 ∧
vp_in a2 5 ∧
vp_in a2 5 ∧
post (σ.1 (46 + (a1).toNatClampNeg) (a2).toNatClampNeg) (tp_set σ (46 + (a1).toNatClampNeg) (a2).toNatClampNeg ((σ.1 (46 + (a1).toNatClampNeg) (a2).toNatClampNeg) + 1))) : tp_E 2 0 [.ref 2, .int a1, .int a2] [] σ post := tp_E_step (And.intro h.1 (tp_rw (tp_rk46 h.1) (And.intro h.2.1 (tp_rs (tp_rk46 h.1) (And.intro h.2.2.1 (And.intro rfl h.2.2.2))))))
/-- X2_anyWithOthers (IIII)Z, 0 -/
theorem sg_3_0 {post : Int32 → tp_St → Prop} {σ : tp_St} (a1 : Int32) (a2 : Int32) (a3 : Int32) (a4 : Int32)  (h : tp_E 3 3 [.ref 2, .int a1, .int a2, .int a3, .int a4, .int 0, .null] [] σ post) : tp_E 3 0 [.ref 2, .int a1, .int a2, .int a3, .int a4, .null, .null] [] σ post := tp_E_step (Exists.intro [.ref 2, .int a1, .int a2, .int a3, .int a4, .int 0, .null] (And.intro (And.intro (Or.inr rfl) (And.intro (Or.inr rfl) (And.intro (Or.inr rfl) (And.intro (Or.inr rfl) (And.intro (Or.inr rfl) (And.intro (Or.inr rfl) (And.intro (Or.inr rfl) (trivial)))))))) h))
/-- X2_anyWithOthers (IIII)Z, 3 -/
theorem sg_3_3 {post : Int32 → tp_St → Prop} {σ : tp_St} (a1 : Int32) (a2 : Int32) (a3 : Int32) (a4 : Int32) (a5 : Int32)  (h : (6 ≤ a5 →
post 0 σ) ∧ (¬ 6 ≤ a5 →
vp_in a5 6 ∧
vp_in a2 5 ∧
(a5 = a1 →
tp_E 3 3 [.ref 2, .int a1, .int a2, .int a3, .int a4, .int (a5 + 1), .null] [] σ post) ∧ (¬ a5 = a1 →
vp_in a5 6 ∧
vp_in a2 5 ∧
((if (σ.1 (52 + (a5).toNatClampNeg) (a2).toNatClampNeg) < a4 then (σ.1 (52 + (a5).toNatClampNeg) (a2).toNatClampNeg) else a4) ≤ (if a3 < (σ.1 (46 + (a5).toNatClampNeg) (a2).toNatClampNeg) then (σ.1 (46 + (a5).toNatClampNeg) (a2).toNatClampNeg) else a3) →
tp_E 3 3 [.ref 2, .int a1, .int a2, .int a3, .int a4, .int (a5 + 1), .null] [] σ post) ∧ (¬ (if (σ.1 (52 + (a5).toNatClampNeg) (a2).toNatClampNeg) < a4 then (σ.1 (52 + (a5).toNatClampNeg) (a2).toNatClampNeg) else a4) ≤ (if a3 < (σ.1 (46 + (a5).toNatClampNeg) (a2).toNatClampNeg) then (σ.1 (46 + (a5).toNatClampNeg) (a2).toNatClampNeg) else a3) →
post 1 σ)))) : tp_E 3 3 [.ref 2, .int a1, .int a2, .int a3, .int a4, .int a5, .null] [] σ post := tp_E_step (And.intro (fun c1 => Exists.intro _ (And.intro (tp_wk_rf _) (tp_E_step (And.intro rfl (h.1 c1))))) (fun c1 => And.intro (h.2 c1).1 (tp_rw (tp_rk46 (h.2 c1).1) (And.intro (h.2 c1).2.1 (And.intro (fun c2 => Exists.intro _ (And.intro (tp_wk_rf _) (tp_E_step (Exists.intro [.ref 2, .int a1, .int a2, .int a3, .int a4, .int (a5 + 1), .null] (And.intro (And.intro (Or.inr rfl) (And.intro (Or.inr rfl) (And.intro (Or.inr rfl) (And.intro (Or.inr rfl) (And.intro (Or.inr rfl) (And.intro (Or.inr rfl) (And.intro (Or.inl rfl) (trivial)))))))) ((h.2 c1).2.2.1 c2)))))) (fun c2 => And.intro ((h.2 c1).2.2.2 c2).1 (tp_rw (tp_rk52 ((h.2 c1).2.2.2 c2).1) (And.intro ((h.2 c1).2.2.2 c2).2.1 (And.intro (fun c3 => Exists.intro _ (And.intro (tp_wk_rf _) (tp_E_step (Exists.intro [.ref 2, .int a1, .int a2, .int a3, .int a4, .int (a5 + 1), .null] (And.intro (And.intro (Or.inr rfl) (And.intro (Or.inr rfl) (And.intro (Or.inr rfl) (And.intro (Or.inr rfl) (And.intro (Or.inr rfl) (And.intro (Or.inr rfl) (And.intro (Or.inl rfl) (trivial)))))))) (((h.2 c1).2.2.2 c2).2.2.1 c3)))))) (fun c3 => And.intro rfl (((h.2 c1).2.2.2 c2).2.2.2 c3)))))))))))
/-- X2_beyond (II)I, 0 -/
theorem sg_4_0 {post : Int32 → tp_St → Prop} {σ : tp_St} (a1 : Int32) (a2 : Int32)  (h : tp_E 4 5 [.ref 2, .int a1, .null, .int a2, .int 0] [] σ post) : tp_E 4 0 [.ref 2, .int a1, .int a2, .null, .null] [] σ post := tp_E_step (Exists.intro [.ref 2, .int a1, .null, .int a2, .int 0] (And.intro (And.intro (Or.inr rfl) (And.intro (Or.inr rfl) (And.intro (Or.inl rfl) (And.intro (Or.inr rfl) (And.intro (Or.inr rfl) (trivial)))))) h))
/-- X2_beyond (II)I, 5 -/
theorem sg_4_5 {post : Int32 → tp_St → Prop} {σ : tp_St} (a1 : Int32) (a3 : Int32) (a4 : Int32)  (h : (6 ≤ a4 →
post a3 σ) ∧ (¬ 6 ≤ a4 →
vp_in a4 6 ∧
vp_in a1 5 ∧
(a3 < (σ.1 (46 + (a4).toNatClampNeg) (a1).toNatClampNeg) →
tp_E 4 5 [.ref 2, .int a1, .null, .int a3, .int (a4 + 1)] [] σ post) ∧ (¬ a3 < (σ.1 (46 + (a4).toNatClampNeg) (a1).toNatClampNeg) →
vp_in a4 6 ∧
vp_in a1 5 ∧
((σ.1 (52 + (a4).toNatClampNeg) (a1).toNatClampNeg) ≤ a3 →
tp_E 4 5 [.ref 2, .int a1, .null, .int a3, .int (a4 + 1)] [] σ post) ∧ (¬ (σ.1 (52 + (a4).toNatClampNeg) (a1).toNatClampNeg) ≤ a3 →
vp_in a4 6 ∧
vp_in a1 5 ∧
tp_E 4 5 [.ref 2, .int a1, .null, .int (σ.1 (52 + (a4).toNatClampNeg) (a1).toNatClampNeg), .int (a4 + 1)] [] σ post)))) : tp_E 4 5 [.ref 2, .int a1, .null, .int a3, .int a4] [] σ post := tp_E_step (And.intro (fun c1 => Exists.intro _ (And.intro (tp_wk_rf _) (tp_E_step (And.intro rfl (h.1 c1))))) (fun c1 => And.intro (h.2 c1).1 (tp_rw (tp_rk46 (h.2 c1).1) (And.intro (h.2 c1).2.1 (And.intro (fun c2 => Exists.intro _ (And.intro (tp_wk_rf _) (tp_E_step (Exists.intro [.ref 2, .int a1, .null, .int a3, .int (a4 + 1)] (And.intro (And.intro (Or.inr rfl) (And.intro (Or.inr rfl) (And.intro (Or.inr rfl) (And.intro (Or.inr rfl) (And.intro (Or.inr rfl) (trivial)))))) ((h.2 c1).2.2.1 c2)))))) (fun c2 => And.intro ((h.2 c1).2.2.2 c2).1 (tp_rw (tp_rk52 ((h.2 c1).2.2.2 c2).1) (And.intro ((h.2 c1).2.2.2 c2).2.1 (And.intro (fun c3 => Exists.intro _ (And.intro (tp_wk_rf _) (tp_E_step (Exists.intro [.ref 2, .int a1, .null, .int a3, .int (a4 + 1)] (And.intro (And.intro (Or.inr rfl) (And.intro (Or.inr rfl) (And.intro (Or.inr rfl) (And.intro (Or.inr rfl) (And.intro (Or.inr rfl) (trivial)))))) (((h.2 c1).2.2.2 c2).2.2.1 c3)))))) (fun c3 => And.intro (((h.2 c1).2.2.2 c2).2.2.2 c3).1 (tp_rw (tp_rk52 (((h.2 c1).2.2.2 c2).2.2.2 c3).1) (And.intro (((h.2 c1).2.2.2 c2).2.2.2 c3).2.1 (Exists.intro _ (And.intro (tp_wk_rf _) (tp_E_step (Exists.intro [.ref 2, .int a1, .null, .int (σ.1 (52 + (a4).toNatClampNeg) (a1).toNatClampNeg), .int (a4 + 1)] (And.intro (And.intro (Or.inr rfl) (And.intro (Or.inr rfl) (And.intro (Or.inr rfl) (And.intro (Or.inr rfl) (And.intro (Or.inr rfl) (trivial)))))) (((h.2 c1).2.2.2 c2).2.2.2 c3).2.2)))))))))))))))))
/-- X4_isFull ()Z, 0 -/
theorem sg_5_0 {post : Int32 → tp_St → Prop} {σ : tp_St}   (h : ((σ.1 4 4) < 200 →
post 0 σ) ∧ (¬ (σ.1 4 4) < 200 →
post 1 σ)) : tp_E 5 0 [.ref 4] [] σ post := tp_E_step (And.intro (fun c1 => Exists.intro _ (And.intro (tp_wk_rf _) (tp_E_step (Exists.intro _ (And.intro (tp_wk_rf _) (tp_E_step (And.intro rfl (h.1 c1)))))))) (fun c1 => Exists.intro _ (And.intro (tp_wk_rf _) (tp_E_step (And.intro rfl (h.2 c1))))))
/-- X4_add (IIII)V, 0 -/
theorem sg_6_0 {post : Int32 → tp_St → Prop} {σ : tp_St} (a1 : Int32) (a2 : Int32) (a3 : Int32) (a4 : Int32)  (h : tp_E 5 0 [.ref 4] [] σ (fun r1 σ1 =>
(r1 = 0 →
vp_in (σ1.1 4 4) 200 ∧
vp_in (σ1.1 4 4) 200 ∧
vp_in (σ1.1 4 4) 200 ∧
vp_in (σ1.1 4 4) 200 ∧
post 0 (tp_set (tp_set (tp_set (tp_set (tp_set σ1 15 ((σ1.1 4 4)).toNatClampNeg a1) 16 ((σ1.1 4 4)).toNatClampNeg a2) 17 ((σ1.1 4 4)).toNatClampNeg a3) 18 ((σ1.1 4 4)).toNatClampNeg a4) 4 4 ((σ1.1 4 4) + 1))) ∧ (¬ r1 = 0 →
post 0 σ1))) : tp_E 6 0 [.ref 4, .int a1, .int a2, .int a3, .int a4] [] σ post := tp_E_step (tp_Em h (fun r1 σ1 h1 => And.intro (fun c2 => Exists.intro _ (And.intro (tp_wk_rf _) (tp_E_step (And.intro (Or.inl (show (15 : Nat) < 58 from by decide)) (And.intro (h1.1 c2).1 (And.intro (Or.inl (show (16 : Nat) < 58 from by decide)) (And.intro (h1.1 c2).2.1 (And.intro (Or.inl (show (17 : Nat) < 58 from by decide)) (And.intro (h1.1 c2).2.2.1 (And.intro (Or.inl (show (18 : Nat) < 58 from by decide)) (And.intro (h1.1 c2).2.2.2.1 ((h1.1 c2).2.2.2.2)))))))))))) (fun c2 => (h1.2 c2))))
/-- X4_latestStep (I)I, 0 -/
theorem sg_7_0 {post : Int32 → tp_St → Prop} {σ : tp_St} (a1 : Int32)  (h : tp_E 7 7 [.ref 4, .int a1, .int ((σ.1 4 4) - 1)] [] σ post) : tp_E 7 0 [.ref 4, .int a1, .null] [] σ post := tp_E_step (Exists.intro [.ref 4, .int a1, .int ((σ.1 4 4) - 1)] (And.intro (And.intro (Or.inr rfl) (And.intro (Or.inr rfl) (And.intro (Or.inr rfl) (trivial)))) h))
/-- X4_latestStep (I)I, 7 -/
theorem sg_7_7 {post : Int32 → tp_St → Prop} {σ : tp_St} (a1 : Int32) (a2 : Int32)  (h : (a2 < 0 →
post 0 σ) ∧ (¬ a2 < 0 →
vp_in a2 200 ∧
((σ.1 15 (a2).toNatClampNeg) = a1 →
vp_in a2 200 ∧
post (σ.1 17 (a2).toNatClampNeg) σ) ∧ (¬ (σ.1 15 (a2).toNatClampNeg) = a1 →
tp_E 7 7 [.ref 4, .int a1, .int (a2 + (-1))] [] σ post))) : tp_E 7 7 [.ref 4, .int a1, .int a2] [] σ post := tp_E_step (And.intro (fun c1 => Exists.intro _ (And.intro (tp_wk_rf _) (tp_E_step (And.intro rfl (h.1 c1))))) (fun c1 => And.intro (Or.inl (show (15 : Nat) < 58 from by decide)) (And.intro (h.2 c1).1 (And.intro (fun c2 => And.intro (Or.inl (show (17 : Nat) < 58 from by decide)) (And.intro ((h.2 c1).2.1 c2).1 (And.intro rfl ((h.2 c1).2.1 c2).2))) (fun c2 => Exists.intro _ (And.intro (tp_wk_rf _) (tp_E_step (Exists.intro [.ref 4, .int a1, .int (a2 + (-1))] (And.intro (And.intro (Or.inr rfl) (And.intro (Or.inr rfl) (And.intro (Or.inr rfl) (trivial)))) ((h.2 c1).2.2 c2))))))))))
/-- X4_find (II)I, 0 -/
theorem sg_8_0 {post : Int32 → tp_St → Prop} {σ : tp_St} (a1 : Int32) (a2 : Int32)  (h : tp_E 8 2 [.ref 4, .int a1, .int a2, .int 0] [] σ post) : tp_E 8 0 [.ref 4, .int a1, .int a2, .null] [] σ post := tp_E_step (Exists.intro [.ref 4, .int a1, .int a2, .int 0] (And.intro (And.intro (Or.inr rfl) (And.intro (Or.inr rfl) (And.intro (Or.inr rfl) (And.intro (Or.inr rfl) (trivial))))) h))
/-- X4_find (II)I, 2 -/
theorem sg_8_2 {post : Int32 → tp_St → Prop} {σ : tp_St} (a1 : Int32) (a2 : Int32) (a3 : Int32)  (h : ((σ.1 4 4) ≤ a3 →
post (-1) σ) ∧ (¬ (σ.1 4 4) ≤ a3 →
vp_in a3 200 ∧
((σ.1 16 (a3).toNatClampNeg) = a1 →
vp_in a3 200 ∧
((σ.1 18 (a3).toNatClampNeg) = a2 →
post a3 σ) ∧ (¬ (σ.1 18 (a3).toNatClampNeg) = a2 →
tp_E 8 2 [.ref 4, .int a1, .int a2, .int (a3 + 1)] [] σ post)) ∧ (¬ (σ.1 16 (a3).toNatClampNeg) = a1 →
tp_E 8 2 [.ref 4, .int a1, .int a2, .int (a3 + 1)] [] σ post))) : tp_E 8 2 [.ref 4, .int a1, .int a2, .int a3] [] σ post := tp_E_step (And.intro (fun c1 => Exists.intro _ (And.intro (tp_wk_rf _) (tp_E_step (And.intro rfl (h.1 c1))))) (fun c1 => And.intro (Or.inl (show (16 : Nat) < 58 from by decide)) (And.intro (h.2 c1).1 (And.intro (fun c2 => And.intro (Or.inl (show (18 : Nat) < 58 from by decide)) (And.intro ((h.2 c1).2.1 c2).1 (And.intro (fun c3 => And.intro rfl (((h.2 c1).2.1 c2).2.1 c3)) (fun c3 => Exists.intro _ (And.intro (tp_wk_rf _) (tp_E_step (Exists.intro [.ref 4, .int a1, .int a2, .int (a3 + 1)] (And.intro (And.intro (Or.inr rfl) (And.intro (Or.inr rfl) (And.intro (Or.inr rfl) (And.intro (Or.inr rfl) (trivial))))) (((h.2 c1).2.1 c2).2.2 c3))))))))) (fun c2 => Exists.intro _ (And.intro (tp_wk_rf _) (tp_E_step (Exists.intro [.ref 4, .int a1, .int a2, .int (a3 + 1)] (And.intro (And.intro (Or.inr rfl) (And.intro (Or.inr rfl) (And.intro (Or.inr rfl) (And.intro (Or.inr rfl) (trivial))))) ((h.2 c1).2.2 c2))))))))))
/-- X4_anySold (III)Z, 0 -/
theorem sg_9_0 {post : Int32 → tp_St → Prop} {σ : tp_St} (a1 : Int32) (a2 : Int32) (a3 : Int32)  (h : tp_E 9 3 [.ref 4, .int a1, .int a2, .int a3, .int 0] [] σ post) : tp_E 9 0 [.ref 4, .int a1, .int a2, .int a3, .null] [] σ post := tp_E_step (Exists.intro [.ref 4, .int a1, .int a2, .int a3, .int 0] (And.intro (And.intro (Or.inr rfl) (And.intro (Or.inr rfl) (And.intro (Or.inr rfl) (And.intro (Or.inr rfl) (And.intro (Or.inr rfl) (trivial)))))) h))
/-- X4_anySold (III)Z, 3 -/
theorem sg_9_3 {post : Int32 → tp_St → Prop} {σ : tp_St} (a1 : Int32) (a2 : Int32) (a3 : Int32) (a4 : Int32)  (h : ((σ.1 4 4) ≤ a4 →
post 0 σ) ∧ (¬ (σ.1 4 4) ≤ a4 →
vp_in a4 200 ∧
((σ.1 16 (a4).toNatClampNeg) = a1 →
vp_in a4 200 ∧
((σ.1 18 (a4).toNatClampNeg) < a2 →
tp_E 9 3 [.ref 4, .int a1, .int a2, .int a3, .int (a4 + 1)] [] σ post) ∧ (¬ (σ.1 18 (a4).toNatClampNeg) < a2 →
vp_in a4 200 ∧
(a3 ≤ (σ.1 18 (a4).toNatClampNeg) →
tp_E 9 3 [.ref 4, .int a1, .int a2, .int a3, .int (a4 + 1)] [] σ post) ∧ (¬ a3 ≤ (σ.1 18 (a4).toNatClampNeg) →
post 1 σ))) ∧ (¬ (σ.1 16 (a4).toNatClampNeg) = a1 →
tp_E 9 3 [.ref 4, .int a1, .int a2, .int a3, .int (a4 + 1)] [] σ post))) : tp_E 9 3 [.ref 4, .int a1, .int a2, .int a3, .int a4] [] σ post := tp_E_step (And.intro (fun c1 => Exists.intro _ (And.intro (tp_wk_rf _) (tp_E_step (And.intro rfl (h.1 c1))))) (fun c1 => And.intro (Or.inl (show (16 : Nat) < 58 from by decide)) (And.intro (h.2 c1).1 (And.intro (fun c2 => And.intro (Or.inl (show (18 : Nat) < 58 from by decide)) (And.intro ((h.2 c1).2.1 c2).1 (And.intro (fun c3 => Exists.intro _ (And.intro (tp_wk_rf _) (tp_E_step (Exists.intro [.ref 4, .int a1, .int a2, .int a3, .int (a4 + 1)] (And.intro (And.intro (Or.inr rfl) (And.intro (Or.inr rfl) (And.intro (Or.inr rfl) (And.intro (Or.inr rfl) (And.intro (Or.inr rfl) (trivial)))))) (((h.2 c1).2.1 c2).2.1 c3)))))) (fun c3 => And.intro (Or.inl (show (18 : Nat) < 58 from by decide)) (And.intro (((h.2 c1).2.1 c2).2.2 c3).1 (And.intro (fun c4 => Exists.intro _ (And.intro (tp_wk_rf _) (tp_E_step (Exists.intro [.ref 4, .int a1, .int a2, .int a3, .int (a4 + 1)] (And.intro (And.intro (Or.inr rfl) (And.intro (Or.inr rfl) (And.intro (Or.inr rfl) (And.intro (Or.inr rfl) (And.intro (Or.inr rfl) (trivial)))))) ((((h.2 c1).2.1 c2).2.2 c3).2.1 c4)))))) (fun c4 => And.intro rfl ((((h.2 c1).2.1 c2).2.2 c3).2.2 c4)))))))) (fun c2 => Exists.intro _ (And.intro (tp_wk_rf _) (tp_E_step (Exists.intro [.ref 4, .int a1, .int a2, .int a3, .int (a4 + 1)] (And.intro (And.intro (Or.inr rfl) (And.intro (Or.inr rfl) (And.intro (Or.inr rfl) (And.intro (Or.inr rfl) (And.intro (Or.inr rfl) (trivial)))))) ((h.2 c1).2.2 c2))))))))))
/-- X4_beyond (II)I, 0 -/
theorem sg_10_0 {post : Int32 → tp_St → Prop} {σ : tp_St} (a1 : Int32) (a2 : Int32)  (h : tp_E 10 5 [.ref 4, .int a1, .null, .int a2, .int 0] [] σ post) : tp_E 10 0 [.ref 4, .int a1, .int a2, .null, .null] [] σ post := tp_E_step (Exists.intro [.ref 4, .int a1, .null, .int a2, .int 0] (And.intro (And.intro (Or.inr rfl) (And.intro (Or.inr rfl) (And.intro (Or.inl rfl) (And.intro (Or.inr rfl) (And.intro (Or.inr rfl) (trivial)))))) h))
/-- X4_beyond (II)I, 5 -/
theorem sg_10_5 {post : Int32 → tp_St → Prop} {σ : tp_St} (a1 : Int32) (a3 : Int32) (a4 : Int32)  (h : ((σ.1 4 4) ≤ a4 →
post a3 σ) ∧ (¬ (σ.1 4 4) ≤ a4 →
vp_in a4 200 ∧
((σ.1 16 (a4).toNatClampNeg) = a1 →
vp_in a4 200 ∧
((σ.1 18 (a4).toNatClampNeg) = a3 →
tp_E 10 5 [.ref 4, .int a1, .null, .int (a3 + 1), .int (a4 + 1)] [] σ post) ∧ (¬ (σ.1 18 (a4).toNatClampNeg) = a3 →
tp_E 10 5 [.ref 4, .int a1, .null, .int a3, .int (a4 + 1)] [] σ post)) ∧ (¬ (σ.1 16 (a4).toNatClampNeg) = a1 →
tp_E 10 5 [.ref 4, .int a1, .null, .int a3, .int (a4 + 1)] [] σ post))) : tp_E 10 5 [.ref 4, .int a1, .null, .int a3, .int a4] [] σ post := tp_E_step (And.intro (fun c1 => Exists.intro _ (And.intro (tp_wk_rf _) (tp_E_step (And.intro rfl (h.1 c1))))) (fun c1 => And.intro (Or.inl (show (16 : Nat) < 58 from by decide)) (And.intro (h.2 c1).1 (And.intro (fun c2 => And.intro (Or.inl (show (18 : Nat) < 58 from by decide)) (And.intro ((h.2 c1).2.1 c2).1 (And.intro (fun c3 => Exists.intro _ (And.intro (tp_wk_rf _) (tp_E_step (Exists.intro [.ref 4, .int a1, .null, .int (a3 + 1), .int (a4 + 1)] (And.intro (And.intro (Or.inr rfl) (And.intro (Or.inr rfl) (And.intro (Or.inr rfl) (And.intro (Or.inr rfl) (And.intro (Or.inr rfl) (trivial)))))) (((h.2 c1).2.1 c2).2.1 c3)))))) (fun c3 => Exists.intro _ (And.intro (tp_wk_rf _) (tp_E_step (Exists.intro [.ref 4, .int a1, .null, .int a3, .int (a4 + 1)] (And.intro (And.intro (Or.inr rfl) (And.intro (Or.inr rfl) (And.intro (Or.inr rfl) (And.intro (Or.inr rfl) (And.intro (Or.inr rfl) (trivial)))))) (((h.2 c1).2.1 c2).2.2 c3))))))))) (fun c2 => Exists.intro _ (And.intro (tp_wk_rf _) (tp_E_step (Exists.intro [.ref 4, .int a1, .null, .int a3, .int (a4 + 1)] (And.intro (And.intro (Or.inr rfl) (And.intro (Or.inr rfl) (And.intro (Or.inr rfl) (And.intro (Or.inr rfl) (And.intro (Or.inr rfl) (trivial)))))) ((h.2 c1).2.2 c2))))))))))
/-- X4_greatestSold (I)I, 0 -/
theorem sg_11_0 {post : Int32 → tp_St → Prop} {σ : tp_St} (a1 : Int32)  (h : tp_E 11 4 [.ref 4, .int a1, .int (-1), .int 0] [] σ post) : tp_E 11 0 [.ref 4, .int a1, .null, .null] [] σ post := tp_E_step (Exists.intro [.ref 4, .int a1, .int (-1), .int 0] (And.intro (And.intro (Or.inr rfl) (And.intro (Or.inr rfl) (And.intro (Or.inr rfl) (And.intro (Or.inr rfl) (trivial))))) h))
/-- X4_greatestSold (I)I, 4 -/
theorem sg_11_4 {post : Int32 → tp_St → Prop} {σ : tp_St} (a1 : Int32) (a2 : Int32) (a3 : Int32)  (h : ((σ.1 4 4) ≤ a3 →
post a2 σ) ∧ (¬ (σ.1 4 4) ≤ a3 →
vp_in a3 200 ∧
((σ.1 16 (a3).toNatClampNeg) = a1 →
vp_in a3 200 ∧
tp_E 11 4 [.ref 4, .int a1, .int (if a2 < (σ.1 18 (a3).toNatClampNeg) then (σ.1 18 (a3).toNatClampNeg) else a2), .int (a3 + 1)] [] σ post) ∧ (¬ (σ.1 16 (a3).toNatClampNeg) = a1 →
tp_E 11 4 [.ref 4, .int a1, .int a2, .int (a3 + 1)] [] σ post))) : tp_E 11 4 [.ref 4, .int a1, .int a2, .int a3] [] σ post := tp_E_step (And.intro (fun c1 => Exists.intro _ (And.intro (tp_wk_rf _) (tp_E_step (And.intro rfl (h.1 c1))))) (fun c1 => And.intro (Or.inl (show (16 : Nat) < 58 from by decide)) (And.intro (h.2 c1).1 (And.intro (fun c2 => And.intro (Or.inl (show (18 : Nat) < 58 from by decide)) (And.intro ((h.2 c1).2.1 c2).1 (Exists.intro _ (And.intro (tp_wk_rf _) (tp_E_step (Exists.intro [.ref 4, .int a1, .int (if a2 < (σ.1 18 (a3).toNatClampNeg) then (σ.1 18 (a3).toNatClampNeg) else a2), .int (a3 + 1)] (And.intro (And.intro (Or.inr rfl) (And.intro (Or.inr rfl) (And.intro (Or.inr rfl) (And.intro (Or.inr rfl) (trivial))))) ((h.2 c1).2.1 c2).2))))))) (fun c2 => Exists.intro _ (And.intro (tp_wk_rf _) (tp_E_step (Exists.intro [.ref 4, .int a1, .int a2, .int (a3 + 1)] (And.intro (And.intro (Or.inr rfl) (And.intro (Or.inr rfl) (And.intro (Or.inr rfl) (And.intro (Or.inr rfl) (trivial))))) ((h.2 c1).2.2 c2))))))))))
/-- X7_has (I)Z, 0 -/
theorem sg_12_0 {post : Int32 → tp_St → Prop} {σ : tp_St} (a1 : Int32)  (h : (a1 < 0 →
post 0 σ) ∧ (¬ a1 < 0 →
((σ.1 3 3) ≤ a1 →
post 0 σ) ∧ (¬ (σ.1 3 3) ≤ a1 →
post 1 σ))) : tp_E 12 0 [.ref 3, .int a1] [] σ post := tp_E_step (And.intro (fun c1 => Exists.intro _ (And.intro (tp_wk_rf _) (tp_E_step (Exists.intro _ (And.intro (tp_wk_rf _) (tp_E_step (And.intro rfl (h.1 c1)))))))) (fun c1 => And.intro (fun c2 => Exists.intro _ (And.intro (tp_wk_rf _) (tp_E_step (Exists.intro _ (And.intro (tp_wk_rf _) (tp_E_step (And.intro rfl ((h.2 c1).1 c2)))))))) (fun c2 => Exists.intro _ (And.intro (tp_wk_rf _) (tp_E_step (And.intro rfl ((h.2 c1).2 c2)))))))
/-- X7_add (IZ)I, 0 -/
theorem sg_13_0 {post : Int32 → tp_St → Prop} {σ : tp_St} (a1 : Int32) (a2 : Int32)  (h : ((σ.1 3 3) < 16 →
vp_in (σ.1 3 3) 16 ∧
vp_in (σ.1 3 3) 16 ∧
vp_in (σ.1 3 3) 16 ∧
post (σ.1 3 3) (tp_set (tp_set (tp_set (tp_set σ 12 ((σ.1 3 3)).toNatClampNeg a1) 13 ((σ.1 3 3)).toNatClampNeg (vp_nar .boolean a2)) 14 ((σ.1 3 3)).toNatClampNeg (vp_nar .boolean 1)) 3 3 ((σ.1 3 3) + 1))) ∧ (¬ (σ.1 3 3) < 16 →
post (-3) σ)) : tp_E 13 0 [.ref 3, .int a1, .int a2] [] σ post := tp_E_step (And.intro (fun c1 => Exists.intro _ (And.intro (tp_wk_rf _) (tp_E_step (And.intro (Or.inl (show (12 : Nat) < 58 from by decide)) (And.intro (h.1 c1).1 (And.intro (h.1 c1).2.1 (And.intro (h.1 c1).2.2.1 (And.intro rfl (h.1 c1).2.2.2)))))))) (fun c1 => And.intro rfl (h.2 c1)))
/-- X7_hasOpen (I)Z, 0 -/
theorem sg_14_0 {post : Int32 → tp_St → Prop} {σ : tp_St} (a1 : Int32)  (h : tp_E 14 2 [.ref 3, .int a1, .int 0] [] σ post) : tp_E 14 0 [.ref 3, .int a1, .null] [] σ post := tp_E_step (Exists.intro [.ref 3, .int a1, .int 0] (And.intro (And.intro (Or.inr rfl) (And.intro (Or.inr rfl) (And.intro (Or.inr rfl) (trivial)))) h))
/-- X7_hasOpen (I)Z, 2 -/
theorem sg_14_2 {post : Int32 → tp_St → Prop} {σ : tp_St} (a1 : Int32) (a2 : Int32)  (h : ((σ.1 3 3) ≤ a2 →
post 0 σ) ∧ (¬ (σ.1 3 3) ≤ a2 →
vp_in a2 16 ∧
((σ.1 14 (a2).toNatClampNeg) = 0 →
tp_E 14 2 [.ref 3, .int a1, .int (a2 + 1)] [] σ post) ∧ (¬ (σ.1 14 (a2).toNatClampNeg) = 0 →
vp_in a2 16 ∧
((σ.1 12 (a2).toNatClampNeg) = a1 →
post 1 σ) ∧ (¬ (σ.1 12 (a2).toNatClampNeg) = a1 →
tp_E 14 2 [.ref 3, .int a1, .int (a2 + 1)] [] σ post)))) : tp_E 14 2 [.ref 3, .int a1, .int a2] [] σ post := tp_E_step (And.intro (fun c1 => Exists.intro _ (And.intro (tp_wk_rf _) (tp_E_step (And.intro rfl (h.1 c1))))) (fun c1 => And.intro (h.2 c1).1 (And.intro (fun c2 => Exists.intro _ (And.intro (tp_wk_rf _) (tp_E_step (Exists.intro [.ref 3, .int a1, .int (a2 + 1)] (And.intro (And.intro (Or.inr rfl) (And.intro (Or.inr rfl) (And.intro (Or.inr rfl) (trivial)))) ((h.2 c1).2.1 c2)))))) (fun c2 => And.intro (Or.inl (show (12 : Nat) < 58 from by decide)) (And.intro ((h.2 c1).2.2 c2).1 (And.intro (fun c3 => And.intro rfl (((h.2 c1).2.2 c2).2.1 c3)) (fun c3 => Exists.intro _ (And.intro (tp_wk_rf _) (tp_E_step (Exists.intro [.ref 3, .int a1, .int (a2 + 1)] (And.intro (And.intro (Or.inr rfl) (And.intro (Or.inr rfl) (And.intro (Or.inr rfl) (trivial)))) (((h.2 c1).2.2 c2).2.2 c3))))))))))))
/-- X7_stepOfStage (II)I, 0 -/
theorem sg_15_0 {post : Int32 → tp_St → Prop} {σ : tp_St} (a1 : Int32) (a2 : Int32)  (h : vp_in a1 16 ∧
((σ.1 13 (a1).toNatClampNeg) = 0 →
post (9 - a2) σ) ∧ (¬ (σ.1 13 (a1).toNatClampNeg) = 0 →
post a2 σ)) : tp_E 15 0 [.ref 3, .int a1, .int a2] [] σ post := tp_E_step (And.intro h.1 (And.intro (fun c1 => Exists.intro _ (And.intro (tp_wk_rf _) (tp_E_step (Exists.intro _ (And.intro (tp_wk_rf _) (tp_E_step (And.intro rfl (h.2.1 c1)))))))) (fun c1 => Exists.intro _ (And.intro (tp_wk_rf _) (tp_E_step (And.intro rfl (h.2.2 c1)))))))
/-- X7_stepOfSection (II)I, 0 -/
theorem sg_16_0 {post : Int32 → tp_St → Prop} {σ : tp_St} (a1 : Int32) (a2 : Int32)  (h : vp_in a1 16 ∧
((σ.1 13 (a1).toNatClampNeg) = 0 →
post (8 - a2) σ) ∧ (¬ (σ.1 13 (a1).toNatClampNeg) = 0 →
post a2 σ)) : tp_E 16 0 [.ref 3, .int a1, .int a2] [] σ post := tp_E_step (And.intro h.1 (And.intro (fun c1 => Exists.intro _ (And.intro (tp_wk_rf _) (tp_E_step (Exists.intro _ (And.intro (tp_wk_rf _) (tp_E_step (And.intro rfl (h.2.1 c1)))))))) (fun c1 => Exists.intro _ (And.intro (tp_wk_rf _) (tp_E_step (And.intro rfl (h.2.2 c1)))))))
/-- X8_has (I)Z, 0 -/
theorem sg_17_0 {post : Int32 → tp_St → Prop} {σ : tp_St} (a1 : Int32)  (h : (a1 < 0 →
post 0 σ) ∧ (¬ a1 < 0 →
((σ.1 1 2) ≤ a1 →
post 0 σ) ∧ (¬ (σ.1 1 2) ≤ a1 →
post 1 σ))) : tp_E 17 0 [.ref 1, .int a1] [] σ post := tp_E_step (And.intro (fun c1 => Exists.intro _ (And.intro (tp_wk_rf _) (tp_E_step (Exists.intro _ (And.intro (tp_wk_rf _) (tp_E_step (And.intro rfl (h.1 c1)))))))) (fun c1 => And.intro (fun c2 => Exists.intro _ (And.intro (tp_wk_rf _) (tp_E_step (Exists.intro _ (And.intro (tp_wk_rf _) (tp_E_step (And.intro rfl ((h.2 c1).1 c2)))))))) (fun c2 => Exists.intro _ (And.intro (tp_wk_rf _) (tp_E_step (And.intro rfl ((h.2 c1).2 c2)))))))
/-- X8_add (II)I, 0 -/
theorem sg_18_0 {post : Int32 → tp_St → Prop} {σ : tp_St} (a1 : Int32) (a2 : Int32)  (h : ((σ.1 1 2) < 5 →
vp_in (σ.1 1 2) 5 ∧
vp_in (σ.1 1 2) 5 ∧
post (σ.1 1 2) (tp_set (tp_set (tp_set σ 8 ((σ.1 1 2)).toNatClampNeg a1) 9 ((σ.1 1 2)).toNatClampNeg a2) 1 2 ((σ.1 1 2) + 1))) ∧ (¬ (σ.1 1 2) < 5 →
post (-3) σ)) : tp_E 18 0 [.ref 1, .int a1, .int a2] [] σ post := tp_E_step (And.intro (fun c1 => Exists.intro _ (And.intro (tp_wk_rf _) (tp_E_step (And.intro (Or.inl (show (8 : Nat) < 58 from by decide)) (And.intro (h.1 c1).1 (And.intro (Or.inl (show (9 : Nat) < 58 from by decide)) (And.intro (h.1 c1).2.1 (And.intro rfl (h.1 c1).2.2)))))))) (fun c1 => And.intro rfl (h.2 c1)))
/-- X9_type (II)I, 0 -/
theorem sg_19_0 {post : Int32 → tp_St → Prop} {σ : tp_St} (a1 : Int32) (a2 : Int32)  (h : tp_E 32 0 [.int a1, .int 1, .int 60] [] σ (fun r1 σ1 =>
(r1 = 0 →
tp_E 32 0 [.int a2, .int 1, .int 9] [] σ1 (fun r2 σ2 =>
(r2 = 0 →
tp_E 18 0 [.ref 1, .int a1, .int a2] [] σ2 (fun r3 σ3 =>
post r3 σ3)) ∧ (¬ r2 = 0 →
post (-1) σ2))) ∧ (¬ r1 = 0 →
post (-1) σ1))) : tp_E 19 0 [.ref 0, .int a1, .int a2] [] σ post := tp_E_step (tp_Em h (fun r1 σ1 h1 => And.intro (fun c3 => tp_Em (h1.1 c3) (fun r2 σ2 h2 => And.intro (fun c4 => Exists.intro _ (And.intro (tp_wk_rf _) (tp_E_step (tp_Em (h2.1 c4) (fun r5 σ5 h5 => And.intro rfl h5))))) (fun c4 => Exists.intro _ (And.intro (tp_wk_rf _) (tp_E_step (And.intro rfl (h2.2 c4))))))) (fun c3 => Exists.intro _ (And.intro (tp_wk_rf _) (tp_E_step (And.intro rfl (h1.2 c3)))))))
/-- X9_issue (IIII)I, 0 -/
theorem sg_20_0 {post : Int32 → tp_St → Prop} {σ : tp_St} (a1 : Int32) (a2 : Int32) (a3 : Int32) (a4 : Int32)  (h : tp_E 33 0 [.ref 0, .int a1, .int a2] [] σ (fun r1 σ1 =>
(r1 = 0 →
post (-1) σ1) ∧ (¬ r1 = 0 →
tp_E 32 0 [.int a3, .int 0, .int 100000] [] σ1 (fun r2 σ2 =>
(r2 = 0 →
tp_E 32 0 [.int a4, .int 0, .int 1000] [] σ2 (fun r3 σ3 =>
(r3 = 0 →
tp_E 9 0 [.ref 4, .int a2, .int a3, .int (a3 + a4), .null] [] σ3 (fun r4 σ4 =>
(r4 = 0 →
tp_E 3 0 [.ref 2, .int a1, .int a2, .int a3, .int (a3 + a4), .null, .null] [] σ4 (fun r5 σ5 =>
(r5 = 0 →
tp_E 0 0 [.ref 2, .int a1, .int a2] [] σ5 (fun r6 σ6 =>
tp_E 1 0 [.ref 2, .int a1, .int a2, .int a3, .int (a3 + a4)] [] σ6 (fun r7 σ7 =>
post r6 σ7))) ∧ (¬ r5 = 0 →
post (-2) σ5))) ∧ (¬ r4 = 0 →
post (-2) σ4))) ∧ (¬ r3 = 0 →
post (-1) σ3))) ∧ (¬ r2 = 0 →
post (-1) σ2))))) : tp_E 20 0 [.ref 0, .int a1, .int a2, .int a3, .int a4, .null] [] σ post := tp_E_step (tp_Em h (fun r1 σ1 h1 => And.intro (fun c4 => Exists.intro _ (And.intro (tp_wk_rf _) (tp_E_step (And.intro rfl (h1.1 c4))))) (fun c4 => tp_Em (h1.2 c4) (fun r2 σ2 h2 => And.intro (fun c5 => tp_Em (h2.1 c5) (fun r3 σ3 h3 => And.intro (fun c6 => Exists.intro _ (And.intro (tp_wk_rf _) (tp_E_step (tp_Em (h3.1 c6) (fun r7 σ7 h7 => And.intro (fun c9 => tp_Em (h7.1 c9) (fun r8 σ8 h8 => And.intro (fun c10 => Exists.intro _ (And.intro (tp_wk_rf _) (tp_E_step (tp_Em (h8.1 c10) (fun r11 σ11 h11 => tp_Em h11 (fun r12 σ12 h12 => And.intro rfl h12)))))) (fun c10 => Exists.intro _ (And.intro (tp_wk_rf _) (tp_E_step (And.intro rfl (h8.2 c10))))))) (fun c9 => Exists.intro _ (And.intro (tp_wk_rf _) (tp_E_step (And.intro rfl (h7.2 c9)))))))))) (fun c6 => Exists.intro _ (And.intro (tp_wk_rf _) (tp_E_step (And.intro rfl (h3.2 c6))))))) (fun c5 => Exists.intro _ (And.intro (tp_wk_rf _) (tp_E_step (And.intro rfl (h2.2 c5)))))))))
/-- X9_pack (III)I, 0 -/
theorem sg_21_0 {post : Int32 → tp_St → Prop} {σ : tp_St} (a1 : Int32) (a2 : Int32) (a3 : Int32)  (h : tp_E 33 0 [.ref 0, .int a1, .int a2] [] σ (fun r1 σ1 =>
(r1 = 0 →
post (-1) σ1) ∧ (¬ r1 = 0 →
tp_E 32 0 [.int a3, .int 0, .int 1] [] σ1 (fun r2 σ2 =>
(r2 = 0 →
tp_E 0 0 [.ref 2, .int a1, .int a2] [] σ2 (fun r3 σ3 =>
(a3 = 1 →
post r3 σ3) ∧ (¬ a3 = 1 →
(r3 = 0 →
post (-4) σ3) ∧ (¬ r3 = 0 →
vp_in a1 6 ∧
vp_in a2 5 ∧
post (σ3.1 (46 + (a1).toNatClampNeg) (a2).toNatClampNeg) σ3)))) ∧ (¬ r2 = 0 →
post (-1) σ2))))) : tp_E 21 0 [.ref 0, .int a1, .int a2, .int a3, .null] [] σ post := tp_E_step (tp_Em h (fun r1 σ1 h1 => And.intro (fun c3 => Exists.intro _ (And.intro (tp_wk_rf _) (tp_E_step (And.intro rfl (h1.1 c3))))) (fun c3 => tp_Em (h1.2 c3) (fun r2 σ2 h2 => And.intro (fun c4 => Exists.intro _ (And.intro (tp_wk_rf _) (tp_E_step (tp_Em (h2.1 c4) (fun r5 σ5 h5 => And.intro (fun c6 => And.intro rfl (h5.1 c6)) (fun c6 => Exists.intro _ (And.intro (tp_wk_rf _) (tp_E_step (And.intro (fun c7 => Exists.intro _ (And.intro (tp_wk_rf _) (tp_E_step (And.intro rfl ((h5.2 c6).1 c7))))) (fun c7 => Exists.intro _ (And.intro (tp_wk_rf _) (tp_E_step (And.intro ((h5.2 c6).2 c7).1 (tp_rw (tp_rk46 ((h5.2 c6).2 c7).1) (And.intro ((h5.2 c6).2 c7).2.1 (Exists.intro _ (And.intro (tp_wk_rf _) (tp_E_step (And.intro rfl ((h5.2 c6).2 c7).2.2))))))))))))))))))) (fun c4 => Exists.intro _ (And.intro (tp_wk_rf _) (tp_E_step (And.intro rfl (h2.2 c4)))))))))
/-- X9_trip (IZ)I, 0 -/
theorem sg_22_0 {post : Int32 → tp_St → Prop} {σ : tp_St} (a1 : Int32) (a2 : Int32)  (h : tp_E 32 0 [.int a1, .int 0, .int 5] [] σ (fun r1 σ1 =>
(r1 = 0 →
tp_E 14 0 [.ref 3, .int a1, .null] [] σ1 (fun r2 σ2 =>
(r2 = 0 →
tp_E 13 0 [.ref 3, .int a1, .int a2] [] σ2 (fun r3 σ3 =>
post r3 σ3)) ∧ (¬ r2 = 0 →
post (-2) σ2))) ∧ (¬ r1 = 0 →
post (-1) σ1))) : tp_E 22 0 [.ref 0, .int a1, .int a2] [] σ post := tp_E_step (tp_Em h (fun r1 σ1 h1 => And.intro (fun c2 => Exists.intro _ (And.intro (tp_wk_rf _) (tp_E_step (tp_Em (h1.1 c2) (fun r3 σ3 h3 => And.intro (fun c4 => Exists.intro _ (And.intro (tp_wk_rf _) (tp_E_step (tp_Em (h3.1 c4) (fun r5 σ5 h5 => Exists.intro _ (And.intro (tp_wk_rf _) (tp_E_step (And.intro rfl h5)))))))) (fun c4 => Exists.intro _ (And.intro (tp_wk_rf _) (tp_E_step (And.intro rfl (h3.2 c4)))))))))) (fun c2 => And.intro rfl (h1.2 c2))))
/-- X9_close (I)I, 0 -/
theorem sg_23_0 {post : Int32 → tp_St → Prop} {σ : tp_St} (a1 : Int32)  (h : tp_E 12 0 [.ref 3, .int a1] [] σ (fun r1 σ1 =>
(r1 = 0 →
post (-1) σ1) ∧ (¬ r1 = 0 →
vp_in a1 16 ∧
((σ1.1 14 (a1).toNatClampNeg) = 0 →
post (-2) σ1) ∧ (¬ (σ1.1 14 (a1).toNatClampNeg) = 0 →
vp_in a1 16 ∧
tp_E 34 0 [.ref 0, .int a1, .null, .null] [] (tp_set σ1 14 (a1).toNatClampNeg (vp_nar .boolean 0)) (fun r2 σ2 =>
post r2 σ2))))) : tp_E 23 0 [.ref 0, .int a1] [] σ post := tp_E_step (tp_Em h (fun r1 σ1 h1 => And.intro (fun c2 => And.intro rfl (h1.1 c2)) (fun c2 => Exists.intro _ (And.intro (tp_wk_rf _) (tp_E_step (And.intro (h1.2 c2).1 (And.intro (fun c3 => And.intro rfl ((h1.2 c2).2.1 c3)) (fun c3 => Exists.intro _ (And.intro (tp_wk_rf _) (tp_E_step (And.intro ((h1.2 c2).2.2 c3).1 (tp_Em ((h1.2 c2).2.2 c3).2 (fun r4 σ4 h4 => And.intro rfl h4)))))))))))))
/-- X9_sell (III)I, 0 -/
theorem sg_24_0 {post : Int32 → tp_St → Prop} {σ : tp_St} (a1 : Int32) (a2 : Int32) (a3 : Int32)  (h : tp_E 12 0 [.ref 3, .int a1] [] σ (fun r1 σ1 =>
(r1 = 0 →
post (-1) σ1) ∧ (¬ r1 = 0 →
tp_E 17 0 [.ref 1, .int a2] [] σ1 (fun r2 σ2 =>
(r2 = 0 →
post (-1) σ2) ∧ (¬ r2 = 0 →
tp_E 32 0 [.int a3, .int 0, .int 9] [] σ2 (fun r3 σ3 =>
(r3 = 0 →
tp_E 15 0 [.ref 3, .int a1, .int a3] [] σ3 (fun r4 σ4 =>
vp_in a1 16 ∧
((σ4.1 14 (a1).toNatClampNeg) = 0 →
post (-2) σ4) ∧ (¬ (σ4.1 14 (a1).toNatClampNeg) = 0 →
tp_E 7 0 [.ref 4, .int a1, .null] [] σ4 (fun r5 σ5 =>
(r4 < r5 →
post (-2) σ5) ∧ (¬ r4 < r5 →
(r4 = 9 →
post (-2) σ5) ∧ (¬ r4 = 9 →
tp_E 5 0 [.ref 4] [] σ5 (fun r6 σ6 =>
(r6 = 0 →
vp_in a1 16 ∧
tp_E 0 0 [.ref 2, .int (σ6.1 12 (a1).toNatClampNeg), .int a2] [] σ6 (fun r7 σ7 =>
(r7 = 0 →
post (-4) σ7) ∧ (¬ r7 = 0 →
tp_E 2 0 [.ref 2, .int (σ6.1 12 (a1).toNatClampNeg), .int a2] [] σ7 (fun r8 σ8 =>
tp_E 6 0 [.ref 4, .int a1, .int a2, .int r4, .int r8] [] σ8 (fun r9 σ9 =>
post r8 σ9))))) ∧ (¬ r6 = 0 →
post (-3) σ6)))))))) ∧ (¬ r3 = 0 →
post (-1) σ3))))))) : tp_E 24 0 [.ref 0, .int a1, .int a2, .int a3, .null, .null, .null] [] σ post := tp_E_step (tp_Em h (fun r1 σ1 h1 => And.intro (fun c4 => Exists.intro _ (And.intro (tp_wk_rf _) (tp_E_step (And.intro rfl (h1.1 c4))))) (fun c4 => tp_Em (h1.2 c4) (fun r2 σ2 h2 => And.intro (fun c5 => Exists.intro _ (And.intro (tp_wk_rf _) (tp_E_step (And.intro rfl (h2.1 c5))))) (fun c5 => tp_Em (h2.2 c5) (fun r3 σ3 h3 => And.intro (fun c6 => Exists.intro _ (And.intro (tp_wk_rf _) (tp_E_step (tp_Em (h3.1 c6) (fun r7 σ7 h7 => And.intro h7.1 (And.intro (fun c9 => Exists.intro _ (And.intro (tp_wk_rf _) (tp_E_step (And.intro rfl (h7.2.1 c9))))) (fun c9 => tp_Em (h7.2.2 c9) (fun r8 σ8 h8 => And.intro (fun c10 => Exists.intro _ (And.intro (tp_wk_rf _) (tp_E_step (And.intro rfl (h8.1 c10))))) (fun c10 => And.intro (fun c11 => Exists.intro _ (And.intro (tp_wk_rf _) (tp_E_step (And.intro rfl ((h8.2 c10).1 c11))))) (fun c11 => Exists.intro _ (And.intro (tp_wk_rf _) (tp_E_step (tp_Em ((h8.2 c10).2 c11) (fun r12 σ12 h12 => And.intro (fun c13 => Exists.intro _ (And.intro (tp_wk_rf _) (tp_E_step (And.intro (Or.inl (show (12 : Nat) < 58 from by decide)) (And.intro (h12.1 c13).1 (tp_Em (h12.1 c13).2 (fun r14 σ14 h14 => And.intro (fun c15 => And.intro rfl (h14.1 c15)) (fun c15 => Exists.intro _ (And.intro (tp_wk_rf _) (tp_E_step (tp_Em (h14.2 c15) (fun r16 σ16 h16 => tp_Em h16 (fun r17 σ17 h17 => And.intro rfl h17))))))))))))) (fun c13 => And.intro rfl (h12.2 c13)))))))))))))))) (fun c6 => Exists.intro _ (And.intro (tp_wk_rf _) (tp_E_step (And.intro rfl (h3.2 c6)))))))))))
/-- X9_undo ()I, 0 -/
theorem sg_25_0 {post : Int32 → tp_St → Prop} {σ : tp_St}   (h : ((σ.1 4 4) = 0 →
post (-4) σ) ∧ (¬ (σ.1 4 4) = 0 →
vp_in ((σ.1 4 4) - 1) 200 ∧
vp_in (σ.1 15 (((σ.1 4 4) - 1)).toNatClampNeg) 16 ∧
vp_in (σ.1 12 ((σ.1 15 (((σ.1 4 4) - 1)).toNatClampNeg)).toNatClampNeg) 6 ∧
vp_in ((σ.1 4 4) - 1) 200 ∧
vp_in (σ.1 16 (((σ.1 4 4) - 1)).toNatClampNeg) 5 ∧
vp_in (σ.1 15 (((σ.1 4 4) - 1)).toNatClampNeg) 16 ∧
((σ.1 14 ((σ.1 15 (((σ.1 4 4) - 1)).toNatClampNeg)).toNatClampNeg) = 0 →
post (-2) σ) ∧ (¬ (σ.1 14 ((σ.1 15 (((σ.1 4 4) - 1)).toNatClampNeg)).toNatClampNeg) = 0 →
vp_in ((σ.1 4 4) - 1) 200 ∧
((σ.1 18 (((σ.1 4 4) - 1)).toNatClampNeg) = ((σ.1 (46 + ((σ.1 12 ((σ.1 15 (((σ.1 4 4) - 1)).toNatClampNeg)).toNatClampNeg)).toNatClampNeg) ((σ.1 16 (((σ.1 4 4) - 1)).toNatClampNeg)).toNatClampNeg) - 1) →
tp_E 38 0 [.ref 0, .null, .null] [] σ (fun r1 σ1 =>
post (σ1.1 4 4) σ1)) ∧ (¬ (σ.1 18 (((σ.1 4 4) - 1)).toNatClampNeg) = ((σ.1 (46 + ((σ.1 12 ((σ.1 15 (((σ.1 4 4) - 1)).toNatClampNeg)).toNatClampNeg)).toNatClampNeg) ((σ.1 16 (((σ.1 4 4) - 1)).toNatClampNeg)).toNatClampNeg) - 1) →
post (-2) σ)))) : tp_E 25 0 [.ref 0, .null, .null, .null] [] σ post := tp_E_step (And.intro (fun c1 => And.intro rfl (h.1 c1)) (fun c1 => Exists.intro _ (And.intro (tp_wk_rf _) (tp_E_step (And.intro (Or.inl (show (15 : Nat) < 58 from by decide)) (And.intro (h.2 c1).1 (And.intro (Or.inl (show (12 : Nat) < 58 from by decide)) (And.intro (h.2 c1).2.1 (And.intro (h.2 c1).2.2.1 (And.intro (Or.inl (show (16 : Nat) < 58 from by decide)) (And.intro (h.2 c1).2.2.2.1 (tp_rw (tp_rk46 (h.2 c1).2.2.1) (And.intro (h.2 c1).2.2.2.2.1 (And.intro (h.2 c1).2.2.2.2.2.1 (And.intro (fun c2 => Exists.intro _ (And.intro (tp_wk_rf _) (tp_E_step (And.intro rfl ((h.2 c1).2.2.2.2.2.2.1 c2))))) (fun c2 => And.intro (Or.inl (show (18 : Nat) < 58 from by decide)) (And.intro ((h.2 c1).2.2.2.2.2.2.2 c2).1 (And.intro (fun c3 => Exists.intro _ (And.intro (tp_wk_rf _) (tp_E_step (tp_Em (((h.2 c1).2.2.2.2.2.2.2 c2).2.1 c3) (fun r4 σ4 h4 => And.intro rfl h4))))) (fun c3 => Exists.intro _ (And.intro (tp_wk_rf _) (tp_E_step (And.intro rfl (((h.2 c1).2.2.2.2.2.2.2 c2).2.2 c3)))))))))))))))))))))))
/-- X9_money (I)I, 0 -/
theorem sg_26_0 {post : Int32 → tp_St → Prop} {σ : tp_St} (a1 : Int32)  (h : tp_E 12 0 [.ref 3, .int a1] [] σ (fun r1 σ1 =>
(r1 = 0 →
post (-1) σ1) ∧ (¬ r1 = 0 →
tp_E 34 0 [.ref 0, .int a1, .null, .null] [] σ1 (fun r2 σ2 =>
post r2 σ2)))) : tp_E 26 0 [.ref 0, .int a1] [] σ post := tp_E_step (tp_Em h (fun r1 σ1 h1 => And.intro (fun c3 => Exists.intro _ (And.intro (tp_wk_rf _) (tp_E_step (Exists.intro _ (And.intro (tp_wk_rf _) (tp_E_step (And.intro rfl (h1.1 c3)))))))) (fun c3 => tp_Em (h1.2 c3) (fun r2 σ2 h2 => Exists.intro _ (And.intro (tp_wk_rf _) (tp_E_step (And.intro rfl h2)))))))
/-- X9_aboard (III)I, 0 -/
theorem sg_27_0 {post : Int32 → tp_St → Prop} {σ : tp_St} (a1 : Int32) (a2 : Int32) (a3 : Int32)  (h : tp_E 12 0 [.ref 3, .int a1] [] σ (fun r1 σ1 =>
(r1 = 0 →
post (-1) σ1) ∧ (¬ r1 = 0 →
tp_E 32 0 [.int a2, .int 0, .int 8] [] σ1 (fun r2 σ2 =>
(r2 = 0 →
tp_E 32 0 [.int a3, .int 0, .int 1] [] σ2 (fun r3 σ3 =>
(r3 = 0 →
tp_E 35 0 [.ref 0, .int a1, .int a2, .int a3, .null, .null] [] σ3 (fun r4 σ4 =>
post r4 σ4)) ∧ (¬ r3 = 0 →
post (-1) σ3))) ∧ (¬ r2 = 0 →
post (-1) σ2))))) : tp_E 27 0 [.ref 0, .int a1, .int a2, .int a3] [] σ post := tp_E_step (tp_Em h (fun r1 σ1 h1 => And.intro (fun c4 => Exists.intro _ (And.intro (tp_wk_rf _) (tp_E_step (And.intro rfl (h1.1 c4))))) (fun c4 => tp_Em (h1.2 c4) (fun r2 σ2 h2 => And.intro (fun c5 => tp_Em (h2.1 c5) (fun r3 σ3 h3 => And.intro (fun c6 => Exists.intro _ (And.intro (tp_wk_rf _) (tp_E_step (tp_Em (h3.1 c6) (fun r7 σ7 h7 => And.intro rfl h7))))) (fun c6 => Exists.intro _ (And.intro (tp_wk_rf _) (tp_E_step (And.intro rfl (h3.2 c6))))))) (fun c5 => Exists.intro _ (And.intro (tp_wk_rf _) (tp_E_step (And.intro rfl (h2.2 c5)))))))))
/-- X9_riders (ZII)I, 0 -/
theorem sg_28_0 {post : Int32 → tp_St → Prop} {σ : tp_St} (a1 : Int32) (a2 : Int32) (a3 : Int32)  (h : tp_E 32 0 [.int a2, .int 0, .int 8] [] σ (fun r1 σ1 =>
(r1 = 0 →
tp_E 32 0 [.int a3, .int 0, .int 1] [] σ1 (fun r2 σ2 =>
(r2 = 0 →
tp_E 28 27 [.ref 0, .int a1, .int a2, .int a3, .int 0, .int 0] [] σ2 post) ∧ (¬ r2 = 0 →
post (-1) σ2))) ∧ (¬ r1 = 0 →
post (-1) σ1))) : tp_E 28 0 [.ref 0, .int a1, .int a2, .int a3, .null, .null] [] σ post := tp_E_step (tp_Em h (fun r1 σ1 h1 => And.intro (fun c3 => tp_Em (h1.1 c3) (fun r2 σ2 h2 => And.intro (fun c4 => Exists.intro _ (And.intro (tp_wk_rf _) (tp_E_step (Exists.intro [.ref 0, .int a1, .int a2, .int a3, .int 0, .int 0] (And.intro (And.intro (Or.inr rfl) (And.intro (Or.inr rfl) (And.intro (Or.inr rfl) (And.intro (Or.inr rfl) (And.intro (Or.inr rfl) (And.intro (Or.inr rfl) (trivial))))))) (h2.1 c4)))))) (fun c4 => Exists.intro _ (And.intro (tp_wk_rf _) (tp_E_step (And.intro rfl (h2.2 c4))))))) (fun c3 => Exists.intro _ (And.intro (tp_wk_rf _) (tp_E_step (And.intro rfl (h1.2 c3)))))))
/-- X9_riders (ZII)I, 27 -/
theorem sg_28_27 {post : Int32 → tp_St → Prop} {σ : tp_St} (a1 : Int32) (a2 : Int32) (a3 : Int32) (a4 : Int32) (a5 : Int32)  (h : ((σ.1 4 4) ≤ a5 →
post a4 σ) ∧ (¬ (σ.1 4 4) ≤ a5 →
vp_in a5 200 ∧
vp_in (σ.1 15 (a5).toNatClampNeg) 16 ∧
((σ.1 13 ((σ.1 15 (a5).toNatClampNeg)).toNatClampNeg) = a1 →
tp_E 36 0 [.ref 0, .int a5, .int a2, .int a3, .null] [] σ (fun r1 σ1 =>
(r1 = 0 →
tp_E 28 27 [.ref 0, .int a1, .int a2, .int a3, .int a4, .int (a5 + 1)] [] σ1 post) ∧ (¬ r1 = 0 →
tp_E 28 27 [.ref 0, .int a1, .int a2, .int a3, .int (a4 + 1), .int (a5 + 1)] [] σ1 post))) ∧ (¬ (σ.1 13 ((σ.1 15 (a5).toNatClampNeg)).toNatClampNeg) = a1 →
tp_E 28 27 [.ref 0, .int a1, .int a2, .int a3, .int a4, .int (a5 + 1)] [] σ post))) : tp_E 28 27 [.ref 0, .int a1, .int a2, .int a3, .int a4, .int a5] [] σ post := tp_E_step (And.intro (fun c2 => Exists.intro _ (And.intro (tp_wk_rf _) (tp_E_step (And.intro rfl (h.1 c2))))) (fun c2 => And.intro (Or.inl (show (15 : Nat) < 58 from by decide)) (And.intro (h.2 c2).1 (And.intro (h.2 c2).2.1 (And.intro (fun c3 => tp_Em ((h.2 c2).2.2.1 c3) (fun r1 σ1 h1 => And.intro (fun c4 => Exists.intro _ (And.intro (tp_wk_rf _) (tp_E_step (Exists.intro [.ref 0, .int a1, .int a2, .int a3, .int a4, .int (a5 + 1)] (And.intro (And.intro (Or.inr rfl) (And.intro (Or.inr rfl) (And.intro (Or.inr rfl) (And.intro (Or.inr rfl) (And.intro (Or.inr rfl) (And.intro (Or.inr rfl) (trivial))))))) (h1.1 c4)))))) (fun c4 => Exists.intro _ (And.intro (tp_wk_rf _) (tp_E_step (Exists.intro [.ref 0, .int a1, .int a2, .int a3, .int (a4 + 1), .int (a5 + 1)] (And.intro (And.intro (Or.inr rfl) (And.intro (Or.inr rfl) (And.intro (Or.inr rfl) (And.intro (Or.inr rfl) (And.intro (Or.inr rfl) (And.intro (Or.inr rfl) (trivial))))))) (h1.2 c4)))))))) (fun c3 => Exists.intro _ (And.intro (tp_wk_rf _) (tp_E_step (Exists.intro [.ref 0, .int a1, .int a2, .int a3, .int a4, .int (a5 + 1)] (And.intro (And.intro (Or.inr rfl) (And.intro (Or.inr rfl) (And.intro (Or.inr rfl) (And.intro (Or.inr rfl) (And.intro (Or.inr rfl) (And.intro (Or.inr rfl) (trivial))))))) ((h.2 c2).2.2.2 c3)))))))))))
/-- X9_shown (IIII)I, 0 -/
theorem sg_29_0 {post : Int32 → tp_St → Prop} {σ : tp_St} (a1 : Int32) (a2 : Int32) (a3 : Int32) (a4 : Int32)  (h : tp_E 12 0 [.ref 3, .int a1] [] σ (fun r1 σ1 =>
(r1 = 0 →
post (-1) σ1) ∧ (¬ r1 = 0 →
tp_E 32 0 [.int a2, .int 0, .int 8] [] σ1 (fun r2 σ2 =>
(r2 = 0 →
tp_E 17 0 [.ref 1, .int a3] [] σ2 (fun r3 σ3 =>
(r3 = 0 →
post (-1) σ3) ∧ (¬ r3 = 0 →
(0 ≤ a4 →
tp_E 8 0 [.ref 4, .int a3, .int a4, .null] [] σ3 (fun r4 σ4 =>
(0 ≤ r4 →
vp_in r4 200 ∧
((σ4.1 15 (r4).toNatClampNeg) = a1 →
tp_E 16 0 [.ref 3, .int a1, .int a2] [] σ4 (fun r5 σ5 =>
vp_in r4 200 ∧
((σ5.1 17 (r4).toNatClampNeg) ≤ r5 →
tp_E 37 0 [.ref 0, .int r4, .int r5, .null] [] σ5 (fun r6 σ6 =>
(r6 = 0 →
post 4 σ6) ∧ (¬ r6 = 0 →
post 0 σ6))) ∧ (¬ (σ5.1 17 (r4).toNatClampNeg) ≤ r5 →
post 3 σ5))) ∧ (¬ (σ4.1 15 (r4).toNatClampNeg) = a1 →
post 2 σ4)) ∧ (¬ 0 ≤ r4 →
post 1 σ4))) ∧ (¬ 0 ≤ a4 →
post (-1) σ3)))) ∧ (¬ r2 = 0 →
post (-1) σ2))))) : tp_E 29 0 [.ref 0, .int a1, .int a2, .int a3, .int a4, .null, .null] [] σ post := tp_E_step (tp_Em h (fun r1 σ1 h1 => And.intro (fun c4 => Exists.intro _ (And.intro (tp_wk_rf _) (tp_E_step (And.intro rfl (h1.1 c4))))) (fun c4 => tp_Em (h1.2 c4) (fun r2 σ2 h2 => And.intro (fun c5 => tp_Em (h2.1 c5) (fun r3 σ3 h3 => And.intro (fun c6 => Exists.intro _ (And.intro (tp_wk_rf _) (tp_E_step (And.intro rfl (h3.1 c6))))) (fun c6 => And.intro (fun c7 => Exists.intro _ (And.intro (tp_wk_rf _) (tp_E_step (tp_Em ((h3.2 c6).1 c7) (fun r8 σ8 h8 => And.intro (fun c9 => Exists.intro _ (And.intro (tp_wk_rf _) (tp_E_step (And.intro (Or.inl (show (15 : Nat) < 58 from by decide)) (And.intro (h8.1 c9).1 (And.intro (fun c10 => Exists.intro _ (And.intro (tp_wk_rf _) (tp_E_step (tp_Em ((h8.1 c9).2.1 c10) (fun r11 σ11 h11 => And.intro (Or.inl (show (17 : Nat) < 58 from by decide)) (And.intro h11.1 (And.intro (fun c12 => Exists.intro _ (And.intro (tp_wk_rf _) (tp_E_step (tp_Em (h11.2.1 c12) (fun r13 σ13 h13 => And.intro (fun c14 => Exists.intro _ (And.intro (tp_wk_rf _) (tp_E_step (Exists.intro _ (And.intro (tp_wk_rf _) (tp_E_step (And.intro rfl (h13.1 c14)))))))) (fun c14 => Exists.intro _ (And.intro (tp_wk_rf _) (tp_E_step (And.intro rfl (h13.2 c14)))))))))) (fun c12 => And.intro rfl (h11.2.2 c12))))))))) (fun c10 => And.intro rfl ((h8.1 c9).2.2 c10)))))))) (fun c9 => And.intro rfl (h8.2 c9))))))) (fun c7 => Exists.intro _ (And.intro (tp_wk_rf _) (tp_E_step (And.intro rfl ((h3.2 c6).2 c7)))))))) (fun c5 => Exists.intro _ (And.intro (tp_wk_rf _) (tp_E_step (And.intro rfl (h2.2 c5)))))))))
/-- X9_heads (III)I, 0 -/
theorem sg_30_0 {post : Int32 → tp_St → Prop} {σ : tp_St} (a1 : Int32) (a2 : Int32) (a3 : Int32)  (h : tp_E 12 0 [.ref 3, .int a1] [] σ (fun r1 σ1 =>
(r1 = 0 →
post (-1000000) σ1) ∧ (¬ r1 = 0 →
tp_E 32 0 [.int a2, .int 0, .int 8] [] σ1 (fun r2 σ2 =>
(r2 = 0 →
tp_E 32 0 [.int a3, .int 0, .int 1000] [] σ2 (fun r3 σ3 =>
(r3 = 0 →
tp_E 35 0 [.ref 0, .int a1, .int a2, .int 1, .null, .null] [] σ3 (fun r4 σ4 =>
(a3 ≤ r4 →
tp_E 35 0 [.ref 0, .int a1, .int a2, .int 0, .null, .null] [] σ4 (fun r5 σ5 =>
(r5 ≤ a3 →
post 0 σ5) ∧ (¬ r5 ≤ a3 →
post (a3 - r5) σ5))) ∧ (¬ a3 ≤ r4 →
post (a3 - r4) σ4))) ∧ (¬ r3 = 0 →
post (-1000000) σ3))) ∧ (¬ r2 = 0 →
post (-1000000) σ2))))) : tp_E 30 0 [.ref 0, .int a1, .int a2, .int a3, .null, .null] [] σ post := tp_E_step (tp_Em h (fun r1 σ1 h1 => And.intro (fun c4 => Exists.intro _ (And.intro (tp_wk_rf _) (tp_E_step (And.intro rfl (h1.1 c4))))) (fun c4 => tp_Em (h1.2 c4) (fun r2 σ2 h2 => And.intro (fun c5 => tp_Em (h2.1 c5) (fun r3 σ3 h3 => And.intro (fun c6 => Exists.intro _ (And.intro (tp_wk_rf _) (tp_E_step (tp_Em (h3.1 c6) (fun r7 σ7 h7 => And.intro (fun c8 => Exists.intro _ (And.intro (tp_wk_rf _) (tp_E_step (tp_Em (h7.1 c8) (fun r9 σ9 h9 => And.intro (fun c10 => Exists.intro _ (And.intro (tp_wk_rf _) (tp_E_step (Exists.intro _ (And.intro (tp_wk_rf _) (tp_E_step (And.intro rfl (h9.1 c10)))))))) (fun c10 => Exists.intro _ (And.intro (tp_wk_rf _) (tp_E_step (And.intro rfl (h9.2 c10)))))))))) (fun c8 => And.intro rfl (h7.2 c8))))))) (fun c6 => Exists.intro _ (And.intro (tp_wk_rf _) (tp_E_step (And.intro rfl (h3.2 c6))))))) (fun c5 => Exists.intro _ (And.intro (tp_wk_rf _) (tp_E_step (And.intro rfl (h2.2 c5)))))))))
/-- X9_gap (I)I, 0 -/
theorem sg_31_0 {post : Int32 → tp_St → Prop} {σ : tp_St} (a1 : Int32)  (h : tp_E 17 0 [.ref 1, .int a1] [] σ (fun r1 σ1 =>
(r1 = 0 →
post (-1) σ1) ∧ (¬ r1 = 0 →
tp_E 11 0 [.ref 4, .int a1, .null, .null] [] σ1 (fun r2 σ2 =>
tp_E 31 27 [.ref 0, .int a1, .int r2, .int 0, .int 0, .null] [] σ2 post)))) : tp_E 31 0 [.ref 0, .int a1, .null, .null, .null, .null] [] σ post := tp_E_step (tp_Em h (fun r1 σ1 h1 => And.intro (fun c2 => And.intro rfl (h1.1 c2)) (fun c2 => Exists.intro _ (And.intro (tp_wk_rf _) (tp_E_step (tp_Em (h1.2 c2) (fun r3 σ3 h3 => Exists.intro [.ref 0, .int a1, .int r3, .int 0, .int 0, .null] (And.intro (And.intro (Or.inr rfl) (And.intro (Or.inr rfl) (And.intro (Or.inr rfl) (And.intro (Or.inr rfl) (And.intro (Or.inr rfl) (And.intro (Or.inr rfl) (trivial))))))) h3))))))))
/-- X9_gap (I)I, 27 -/
theorem sg_31_27 {post : Int32 → tp_St → Prop} {σ : tp_St} (a1 : Int32) (a2 : Int32) (a3 : Int32) (a4 : Int32)  (h : (206 < a4 →
post (-4) σ) ∧ (¬ 206 < a4 →
(a2 ≤ a3 →
post (-4) σ) ∧ (¬ a2 ≤ a3 →
tp_E 39 0 [.ref 0, .int a1, .int a3] [] σ (fun r1 σ1 =>
(r1 = a3 →
post a3 σ1) ∧ (¬ r1 = a3 →
tp_E 31 27 [.ref 0, .int a1, .int a2, .int r1, .int (a4 + 1), .null] [] σ1 post))))) : tp_E 31 27 [.ref 0, .int a1, .int a2, .int a3, .int a4, .null] [] σ post := tp_E_step (And.intro (fun c2 => Exists.intro _ (And.intro (tp_wk_rf _) (tp_E_step (And.intro rfl (h.1 c2))))) (fun c2 => And.intro (fun c3 => Exists.intro _ (And.intro (tp_wk_rf _) (tp_E_step (And.intro rfl ((h.2 c2).1 c3))))) (fun c3 => tp_Em ((h.2 c2).2 c3) (fun r1 σ1 h1 => And.intro (fun c4 => And.intro rfl (h1.1 c4)) (fun c4 => Exists.intro _ (And.intro (tp_wk_rf _) (tp_E_step (Exists.intro [.ref 0, .int a1, .int a2, .int r1, .int (a4 + 1), .null] (And.intro (And.intro (Or.inr rfl) (And.intro (Or.inr rfl) (And.intro (Or.inr rfl) (And.intro (Or.inr rfl) (And.intro (Or.inr rfl) (And.intro (Or.inl rfl) (trivial))))))) (h1.2 c4))))))))))
/-- X9_isOutside (III)Z, 0 -/
theorem sg_32_0 {post : Int32 → tp_St → Prop} {σ : tp_St} (a0 : Int32) (a1 : Int32) (a2 : Int32)  (h : (a0 < a1 →
post 1 σ) ∧ (¬ a0 < a1 →
(a0 ≤ a2 →
post 0 σ) ∧ (¬ a0 ≤ a2 →
post 1 σ))) : tp_E 32 0 [.int a0, .int a1, .int a2] [] σ post := tp_E_step (And.intro (fun c1 => Exists.intro _ (And.intro (tp_wk_rf _) (tp_E_step (Exists.intro _ (And.intro (tp_wk_rf _) (tp_E_step (And.intro rfl (h.1 c1)))))))) (fun c1 => And.intro (fun c2 => Exists.intro _ (And.intro (tp_wk_rf _) (tp_E_step (Exists.intro _ (And.intro (tp_wk_rf _) (tp_E_step (And.intro rfl ((h.2 c1).1 c2)))))))) (fun c2 => Exists.intro _ (And.intro (tp_wk_rf _) (tp_E_step (Exists.intro _ (And.intro (tp_wk_rf _) (tp_E_step (And.intro rfl ((h.2 c1).2 c2))))))))))
/-- X9_hasPack (II)Z, 0 -/
theorem sg_33_0 {post : Int32 → tp_St → Prop} {σ : tp_St} (a1 : Int32) (a2 : Int32)  (h : tp_E 32 0 [.int a1, .int 0, .int 5] [] σ (fun r1 σ1 =>
(r1 = 0 →
tp_E 17 0 [.ref 1, .int a2] [] σ1 (fun r2 σ2 =>
(r2 = 0 →
post 0 σ2) ∧ (¬ r2 = 0 →
post 1 σ2))) ∧ (¬ r1 = 0 →
post 0 σ1))) : tp_E 33 0 [.ref 0, .int a1, .int a2] [] σ post := tp_E_step (tp_Em h (fun r1 σ1 h1 => And.intro (fun c3 => tp_Em (h1.1 c3) (fun r2 σ2 h2 => And.intro (fun c4 => Exists.intro _ (And.intro (tp_wk_rf _) (tp_E_step (Exists.intro _ (And.intro (tp_wk_rf _) (tp_E_step (And.intro rfl (h2.1 c4)))))))) (fun c4 => Exists.intro _ (And.intro (tp_wk_rf _) (tp_E_step (And.intro rfl (h2.2 c4))))))) (fun c3 => Exists.intro _ (And.intro (tp_wk_rf _) (tp_E_step (Exists.intro _ (And.intro (tp_wk_rf _) (tp_E_step (And.intro rfl (h1.2 c3))))))))))
/-- X9_takings (I)I, 0 -/
theorem sg_34_0 {post : Int32 → tp_St → Prop} {σ : tp_St} (a1 : Int32)  (h : tp_E 34 4 [.ref 0, .int a1, .int 0, .int 0] [] σ post) : tp_E 34 0 [.ref 0, .int a1, .null, .null] [] σ post := tp_E_step (Exists.intro [.ref 0, .int a1, .int 0, .int 0] (And.intro (And.intro (Or.inr rfl) (And.intro (Or.inr rfl) (And.intro (Or.inr rfl) (And.intro (Or.inr rfl) (trivial))))) h))
/-- X9_takings (I)I, 4 -/
theorem sg_34_4 {post : Int32 → tp_St → Prop} {σ : tp_St} (a1 : Int32) (a2 : Int32) (a3 : Int32)  (h : ((σ.1 4 4) ≤ a3 →
post a2 σ) ∧ (¬ (σ.1 4 4) ≤ a3 →
vp_in a3 200 ∧
((σ.1 15 (a3).toNatClampNeg) = a1 →
vp_in a3 200 ∧
vp_in (σ.1 16 (a3).toNatClampNeg) 5 ∧
tp_E 34 4 [.ref 0, .int a1, .int (a2 + (σ.1 8 ((σ.1 16 (a3).toNatClampNeg)).toNatClampNeg)), .int (a3 + 1)] [] σ post) ∧ (¬ (σ.1 15 (a3).toNatClampNeg) = a1 →
tp_E 34 4 [.ref 0, .int a1, .int a2, .int (a3 + 1)] [] σ post))) : tp_E 34 4 [.ref 0, .int a1, .int a2, .int a3] [] σ post := tp_E_step (And.intro (fun c1 => Exists.intro _ (And.intro (tp_wk_rf _) (tp_E_step (And.intro rfl (h.1 c1))))) (fun c1 => And.intro (Or.inl (show (15 : Nat) < 58 from by decide)) (And.intro (h.2 c1).1 (And.intro (fun c2 => And.intro (Or.inl (show (16 : Nat) < 58 from by decide)) (And.intro ((h.2 c1).2.1 c2).1 (And.intro (Or.inl (show (8 : Nat) < 58 from by decide)) (And.intro ((h.2 c1).2.1 c2).2.1 (Exists.intro _ (And.intro (tp_wk_rf _) (tp_E_step (Exists.intro [.ref 0, .int a1, .int (a2 + (σ.1 8 ((σ.1 16 (a3).toNatClampNeg)).toNatClampNeg)), .int (a3 + 1)] (And.intro (And.intro (Or.inr rfl) (And.intro (Or.inr rfl) (And.intro (Or.inr rfl) (And.intro (Or.inr rfl) (trivial))))) ((h.2 c1).2.1 c2).2.2))))))))) (fun c2 => Exists.intro _ (And.intro (tp_wk_rf _) (tp_E_step (Exists.intro [.ref 0, .int a1, .int a2, .int (a3 + 1)] (And.intro (And.intro (Or.inr rfl) (And.intro (Or.inr rfl) (And.intro (Or.inr rfl) (And.intro (Or.inr rfl) (trivial))))) ((h.2 c1).2.2 c2))))))))))
/-- X9_howManyAboard (III)I, 0 -/
theorem sg_35_0 {post : Int32 → tp_St → Prop} {σ : tp_St} (a1 : Int32) (a2 : Int32) (a3 : Int32)  (h : tp_E 35 6 [.ref 0, .int a1, .int a2, .int a3, .int 0, .int 0] [] σ post) : tp_E 35 0 [.ref 0, .int a1, .int a2, .int a3, .null, .null] [] σ post := tp_E_step (Exists.intro [.ref 0, .int a1, .int a2, .int a3, .int 0, .int 0] (And.intro (And.intro (Or.inr rfl) (And.intro (Or.inr rfl) (And.intro (Or.inr rfl) (And.intro (Or.inr rfl) (And.intro (Or.inr rfl) (And.intro (Or.inr rfl) (trivial))))))) h))
/-- X9_howManyAboard (III)I, 6 -/
theorem sg_35_6 {post : Int32 → tp_St → Prop} {σ : tp_St} (a1 : Int32) (a2 : Int32) (a3 : Int32) (a4 : Int32) (a5 : Int32)  (h : ((σ.1 4 4) ≤ a5 →
post a4 σ) ∧ (¬ (σ.1 4 4) ≤ a5 →
vp_in a5 200 ∧
((σ.1 15 (a5).toNatClampNeg) = a1 →
tp_E 36 0 [.ref 0, .int a5, .int a2, .int a3, .null] [] σ (fun r1 σ1 =>
(r1 = 0 →
tp_E 35 6 [.ref 0, .int a1, .int a2, .int a3, .int a4, .int (a5 + 1)] [] σ1 post) ∧ (¬ r1 = 0 →
tp_E 35 6 [.ref 0, .int a1, .int a2, .int a3, .int (a4 + 1), .int (a5 + 1)] [] σ1 post))) ∧ (¬ (σ.1 15 (a5).toNatClampNeg) = a1 →
tp_E 35 6 [.ref 0, .int a1, .int a2, .int a3, .int a4, .int (a5 + 1)] [] σ post))) : tp_E 35 6 [.ref 0, .int a1, .int a2, .int a3, .int a4, .int a5] [] σ post := tp_E_step (And.intro (fun c2 => Exists.intro _ (And.intro (tp_wk_rf _) (tp_E_step (And.intro rfl (h.1 c2))))) (fun c2 => And.intro (Or.inl (show (15 : Nat) < 58 from by decide)) (And.intro (h.2 c2).1 (And.intro (fun c3 => tp_Em ((h.2 c2).2.1 c3) (fun r1 σ1 h1 => And.intro (fun c4 => Exists.intro _ (And.intro (tp_wk_rf _) (tp_E_step (Exists.intro [.ref 0, .int a1, .int a2, .int a3, .int a4, .int (a5 + 1)] (And.intro (And.intro (Or.inr rfl) (And.intro (Or.inr rfl) (And.intro (Or.inr rfl) (And.intro (Or.inr rfl) (And.intro (Or.inr rfl) (And.intro (Or.inr rfl) (trivial))))))) (h1.1 c4)))))) (fun c4 => Exists.intro _ (And.intro (tp_wk_rf _) (tp_E_step (Exists.intro [.ref 0, .int a1, .int a2, .int a3, .int (a4 + 1), .int (a5 + 1)] (And.intro (And.intro (Or.inr rfl) (And.intro (Or.inr rfl) (And.intro (Or.inr rfl) (And.intro (Or.inr rfl) (And.intro (Or.inr rfl) (And.intro (Or.inr rfl) (trivial))))))) (h1.2 c4)))))))) (fun c3 => Exists.intro _ (And.intro (tp_wk_rf _) (tp_E_step (Exists.intro [.ref 0, .int a1, .int a2, .int a3, .int a4, .int (a5 + 1)] (And.intro (And.intro (Or.inr rfl) (And.intro (Or.inr rfl) (And.intro (Or.inr rfl) (And.intro (Or.inr rfl) (And.intro (Or.inr rfl) (And.intro (Or.inr rfl) (trivial))))))) ((h.2 c2).2.2 c3))))))))))
/-- X9_isAboard (III)Z, 0 -/
theorem sg_36_0 {post : Int32 → tp_St → Prop} {σ : tp_St} (a1 : Int32) (a2 : Int32) (a3 : Int32)  (h : vp_in a1 200 ∧
tp_E 16 0 [.ref 3, .int (σ.1 15 (a1).toNatClampNeg), .int a2] [] σ (fun r1 σ1 =>
(a3 = 0 →
vp_in a1 200 ∧
((σ1.1 17 (a1).toNatClampNeg) = r1 →
post 1 σ1) ∧ (¬ (σ1.1 17 (a1).toNatClampNeg) = r1 →
post 0 σ1)) ∧ (¬ a3 = 0 →
tp_E 37 0 [.ref 0, .int a1, .int r1, .null] [] σ1 (fun r2 σ2 =>
narrow .boolean (.int r2) = .int r2 ∧ post r2 σ2)))) : tp_E 36 0 [.ref 0, .int a1, .int a2, .int a3, .null] [] σ post := tp_E_step (And.intro (Or.inl (show (15 : Nat) < 58 from by decide)) (And.intro h.1 (tp_Em h.2 (fun r1 σ1 h1 => And.intro (fun c2 => And.intro (Or.inl (show (17 : Nat) < 58 from by decide)) (And.intro (h1.1 c2).1 (And.intro (fun c3 => Exists.intro _ (And.intro (tp_wk_rf _) (tp_E_step (And.intro rfl ((h1.1 c2).2.1 c3))))) (fun c3 => Exists.intro _ (And.intro (tp_wk_rf _) (tp_E_step (Exists.intro _ (And.intro (tp_wk_rf _) (tp_E_step (And.intro rfl ((h1.1 c2).2.2 c3))))))))))) (fun c2 => Exists.intro _ (And.intro (tp_wk_rf _) (tp_E_step (tp_Em (h1.2 c2) (fun r4 σ4 h4 => Exists.intro _ (And.intro (tp_wk_rf _) (tp_E_step (h4))))))))))))
/-- X9_isGoodAt (II)Z, 0 -/
theorem sg_37_0 {post : Int32 → tp_St → Prop} {σ : tp_St} (a1 : Int32) (a2 : Int32)  (h : vp_in a1 200 ∧
(a2 < (σ.1 17 (a1).toNatClampNeg) →
post 0 σ) ∧ (¬ a2 < (σ.1 17 (a1).toNatClampNeg) →
vp_in a1 200 ∧
vp_in (σ.1 16 (a1).toNatClampNeg) 5 ∧
(((σ.1 17 (a1).toNatClampNeg) + (σ.1 9 ((σ.1 16 (a1).toNatClampNeg)).toNatClampNeg)) ≤ a2 →
post 0 σ) ∧ (¬ ((σ.1 17 (a1).toNatClampNeg) + (σ.1 9 ((σ.1 16 (a1).toNatClampNeg)).toNatClampNeg)) ≤ a2 →
post 1 σ))) : tp_E 37 0 [.ref 0, .int a1, .int a2, .null] [] σ post := tp_E_step (And.intro (Or.inl (show (17 : Nat) < 58 from by decide)) (And.intro h.1 (And.intro (fun c1 => Exists.intro _ (And.intro (tp_wk_rf _) (tp_E_step (Exists.intro _ (And.intro (tp_wk_rf _) (tp_E_step (And.intro rfl (h.2.1 c1)))))))) (fun c1 => And.intro (Or.inl (show (16 : Nat) < 58 from by decide)) (And.intro (h.2.2 c1).1 (And.intro (Or.inl (show (9 : Nat) < 58 from by decide)) (And.intro (h.2.2 c1).2.1 (And.intro (fun c2 => Exists.intro _ (And.intro (tp_wk_rf _) (tp_E_step (Exists.intro _ (And.intro (tp_wk_rf _) (tp_E_step (And.intro rfl ((h.2.2 c1).2.2.1 c2)))))))) (fun c2 => Exists.intro _ (And.intro (tp_wk_rf _) (tp_E_step (And.intro rfl ((h.2.2 c1).2.2.2 c2)))))))))))))
/-- X9_takeBackLatest ()V, 0 -/
theorem sg_38_0 {post : Int32 → tp_St → Prop} {σ : tp_St}   (h : vp_in ((σ.1 4 4) - 1) 200 ∧
vp_in (σ.1 15 (((σ.1 4 4) - 1)).toNatClampNeg) 16 ∧
vp_in (σ.1 12 ((σ.1 15 (((σ.1 4 4) - 1)).toNatClampNeg)).toNatClampNeg) 6 ∧
vp_in ((σ.1 4 4) - 1) 200 ∧
vp_in ((σ.1 4 4) - 1) 200 ∧
vp_in (σ.1 16 (((σ.1 4 4) - 1)).toNatClampNeg) 5 ∧
post 0 (tp_set (tp_set σ (46 + ((σ.1 12 ((σ.1 15 (((σ.1 4 4) - 1)).toNatClampNeg)).toNatClampNeg)).toNatClampNeg) ((σ.1 16 (((σ.1 4 4) - 1)).toNatClampNeg)).toNatClampNeg (σ.1 18 (((σ.1 4 4) - 1)).toNatClampNeg)) 4 4 ((σ.1 4 4) - 1))) : tp_E 38 0 [.ref 0, .null, .null] [] σ post := tp_E_step (And.intro (Or.inl (show (15 : Nat) < 58 from by decide)) (And.intro h.1 (And.intro (Or.inl (show (12 : Nat) < 58 from by decide)) (And.intro h.2.1 (And.intro h.2.2.1 (And.intro (Or.inl (show (16 : Nat) < 58 from by decide)) (And.intro h.2.2.2.1 (And.intro (Or.inl (show (18 : Nat) < 58 from by decide)) (And.intro h.2.2.2.2.1 (tp_rs (tp_rk46 h.2.2.1) (And.intro h.2.2.2.2.2.1 (h.2.2.2.2.2.2))))))))))))
/-- X9_beyondHeld (II)I, 0 -/
theorem sg_39_0 {post : Int32 → tp_St → Prop} {σ : tp_St} (a1 : Int32) (a2 : Int32)  (h : tp_E 10 0 [.ref 4, .int a1, .int a2, .null, .null] [] σ (fun r1 σ1 =>
tp_E 4 0 [.ref 2, .int a1, .int r1, .null, .null] [] σ1 (fun r2 σ2 =>
post r2 σ2))) : tp_E 39 0 [.ref 0, .int a1, .int a2] [] σ post := tp_E_step (tp_Em h (fun r1 σ1 h1 => tp_Em h1 (fun r2 σ2 h2 => And.intro rfl h2)))
/-- L_part (II)I, 0 -/
theorem sg_40_0 {post : Int32 → tp_St → Prop} {σ : tp_St} (a0 : Int32) (a1 : Int32)  (h : ¬ a1 = 0 ∧
post ((a0 &&& 2147483647) - (a0 &&& 2147483647) / a1 * a1) σ) : tp_E 40 0 [.int a0, .int a1] [] σ post := tp_E_step (And.intro h.1 (And.intro rfl h.2))
/-- L_cell ([II)I, 0 -/
theorem sg_41_0 {post : Int32 → tp_St → Prop} {σ : tp_St} (a1 : Int32)  (h : ((Int32.ofNat ((σ.1 89 0)).toNatClampNeg) = 0 →
post ((7919 * a1) + 3) σ) ∧ (¬ (Int32.ofNat ((σ.1 89 0)).toNatClampNeg) = 0 →
¬ (Int32.ofNat ((σ.1 89 0)).toNatClampNeg) = 0 ∧
vp_in (a1 - a1 / (Int32.ofNat ((σ.1 89 0)).toNatClampNeg) * (Int32.ofNat ((σ.1 89 0)).toNatClampNeg)) ((σ.1 89 0)).toNatClampNeg ∧
¬ (Int32.ofNat ((σ.1 89 0)).toNatClampNeg) = 0 ∧
post ((((σ.1 90 ((a1 - a1 / (Int32.ofNat ((σ.1 89 0)).toNatClampNeg) * (Int32.ofNat ((σ.1 89 0)).toNatClampNeg))).toNatClampNeg) >>> ((a1 - a1 / 7 * 7) &&& 31)) ^^^ ((a1 / (Int32.ofNat ((σ.1 89 0)).toNatClampNeg)) * 31)) ^^^ (a1 * 2654435)) σ)) : tp_E 41 0 [.ref 90, .int a1] [] σ post := tp_E_step (And.intro (fun c1 => Exists.intro _ (And.intro (tp_wk_rf _) (tp_E_step (And.intro rfl (h.1 c1))))) (fun c1 => Exists.intro _ (And.intro (tp_wk_rf _) (tp_E_step (And.intro (h.2 c1).1 (And.intro (Or.inr (Or.inr rfl)) (And.intro (h.2 c1).2.1 (And.intro (by decide) (And.intro (h.2 c1).2.2.1 (Exists.intro _ (And.intro (tp_wk_rf _) (tp_E_step (And.intro rfl (h.2 c1).2.2.2)))))))))))))
/-- L_sells (LTramPence;[IIII[I[I[I[I[I)I, 0 -/
theorem sg_42_0 {post : Int32 → tp_St → Prop} {σ : tp_St} (a2 : Int32) (a3 : Int32) (a4 : Int32)  (h : tp_E 42 3 [.ref 0, .ref 90, .int a2, .int a3, .int a4, .ref 60, .ref 64, .ref 62, .ref 63, .ref 61, .int 0, .null, .null, .null, .null, .null, .null, .null, .null, .null, .null] [] σ post) : tp_E 42 0 [.ref 0, .ref 90, .int a2, .int a3, .int a4, .ref 60, .ref 64, .ref 62, .ref 63, .ref 61, .null, .null, .null, .null, .null, .null, .null, .null, .null, .null, .null] [] σ post := tp_E_step (Exists.intro [.ref 0, .ref 90, .int a2, .int a3, .int a4, .ref 60, .ref 64, .ref 62, .ref 63, .ref 61, .int 0, .null, .null, .null, .null, .null, .null, .null, .null, .null, .null] (And.intro (And.intro (Or.inr rfl) (And.intro (Or.inr rfl) (And.intro (Or.inr rfl) (And.intro (Or.inr rfl) (And.intro (Or.inr rfl) (And.intro (Or.inr rfl) (And.intro (Or.inr rfl) (And.intro (Or.inr rfl) (And.intro (Or.inr rfl) (And.intro (Or.inr rfl) (And.intro (Or.inr rfl) (And.intro (Or.inr rfl) (And.intro (Or.inr rfl) (And.intro (Or.inr rfl) (And.intro (Or.inr rfl) (And.intro (Or.inr rfl) (And.intro (Or.inr rfl) (And.intro (Or.inr rfl) (And.intro (Or.inr rfl) (And.intro (Or.inr rfl) (And.intro (Or.inr rfl) (trivial)))))))))))))))))))))) h))
/-- L_sells (LTramPence;[IIII[I[I[I[I[I)I, 3 -/
theorem sg_42_3 {post : Int32 → tp_St → Prop} {σ : tp_St} (a2 : Int32) (a3 : Int32) (a4 : Int32) (a10 : Int32)  (h : (14 ≤ a10 →
64 < σ.2.1 ∧
post (σ.1 64 0) σ) ∧ (¬ 14 ≤ a10 →
tp_E 41 0 [.ref 90, .int (a2 + a10)] [] σ (fun r1 σ1 =>
tp_E 40 0 [.int r1, .int a3] [] σ1 (fun r2 σ2 =>
tp_E 40 0 [.int (r1 >>> (3 &&& 31)), .int a4] [] σ2 (fun r3 σ3 =>
tp_E 42 45 [.ref 0, .ref 90, .int a2, .int a3, .int a4, .ref 60, .ref 64, .ref 62, .ref 63, .ref 61, .int a10, .int r1, .int r2, .int r3, .int (-1), .int 0, .null, .null, .null, .null, .null] [] σ3 post))))) : tp_E 42 3 [.ref 0, .ref 90, .int a2, .int a3, .int a4, .ref 60, .ref 64, .ref 62, .ref 63, .ref 61, .int a10, .null, .null, .null, .null, .null, .null, .null, .null, .null, .null] [] σ post := tp_E_step (And.intro (fun c4 => Exists.intro _ (And.intro (tp_wk_rf _) (tp_E_step (And.intro (Or.inr (Or.inl (h.1 c4).1)) (And.intro (show ¬ ((0 : Int32) < 0 ∨ 60 ≤ (0 : Int32).toNatClampNeg) from by decide) (And.intro rfl (h.1 c4).2)))))) (fun c4 => tp_Em (h.2 c4) (fun r1 σ1 h1 => tp_Em h1 (fun r2 σ2 h2 => tp_Em h2 (fun r3 σ3 h3 => Exists.intro [.ref 0, .ref 90, .int a2, .int a3, .int a4, .ref 60, .ref 64, .ref 62, .ref 63, .ref 61, .int a10, .int r1, .int r2, .int r3, .int (-1), .int 0, .null, .null, .null, .null, .null] (And.intro (And.intro (Or.inr rfl) (And.intro (Or.inr rfl) (And.intro (Or.inr rfl) (And.intro (Or.inr rfl) (And.intro (Or.inr rfl) (And.intro (Or.inr rfl) (And.intro (Or.inr rfl) (And.intro (Or.inr rfl) (And.intro (Or.inr rfl) (And.intro (Or.inr rfl) (And.intro (Or.inr rfl) (And.intro (Or.inr rfl) (And.intro (Or.inr rfl) (And.intro (Or.inr rfl) (And.intro (Or.inr rfl) (And.intro (Or.inr rfl) (And.intro (Or.inr rfl) (And.intro (Or.inr rfl) (And.intro (Or.inr rfl) (And.intro (Or.inr rfl) (And.intro (Or.inr rfl) (trivial)))))))))))))))))))))) h3))))))
/-- L_sells (LTramPence;[IIII[I[I[I[I[I)I, 45 -/
theorem sg_42_45 {post : Int32 → tp_St → Prop} {σ : tp_St} (a2 : Int32) (a3 : Int32) (a4 : Int32) (a10 : Int32) (a11 : Int32) (a12 : Int32) (a13 : Int32) (a14 : Int32) (a15 : Int32)  (h : 64 < σ.2.1 ∧
((σ.1 64 0) ≤ a15 →
(0 ≤ a14 →
60 < σ.2.1 ∧
vp_in a12 4 ∧
((σ.1 60 (a12).toNatClampNeg) = 1 →
tp_E 40 0 [.int (a11 >>> (6 &&& 31)), .int 3] [] σ (fun r2 σ2 =>
tp_E 42 141 [.ref 0, .ref 90, .int a2, .int a3, .int a4, .ref 60, .ref 64, .ref 62, .ref 63, .ref 61, .int a10, .int a11, .int a12, .int a13, .int a14, .null, .null, .null, .null, .null, .null] [.int (a14 + r2)] σ2 post)) ∧ (¬ (σ.1 60 (a12).toNatClampNeg) = 1 →
tp_E 40 0 [.int (a11 >>> (6 &&& 31)), .int 3] [] σ (fun r3 σ3 =>
tp_E 42 141 [.ref 0, .ref 90, .int a2, .int a3, .int a4, .ref 60, .ref 64, .ref 62, .ref 63, .ref 61, .int a10, .int a11, .int a12, .int a13, .int a14, .null, .null, .null, .null, .null, .null] [.int ((9 - a14) + r3)] σ3 post))) ∧ (¬ 0 ≤ a14 →
tp_E 40 0 [.int (a11 >>> (6 &&& 31)), .int 4] [] σ (fun r1 σ1 =>
tp_E 42 141 [.ref 0, .ref 90, .int a2, .int a3, .int a4, .ref 60, .ref 64, .ref 62, .ref 63, .ref 61, .int a10, .int a11, .int a12, .int a13, .int a14, .null, .null, .null, .null, .null, .null] [.int r1] σ1 post))) ∧ (¬ (σ.1 64 0) ≤ a15 →
64 < σ.2.1 ∧
vp_in ((4 * a15) + 1) 60 ∧
((σ.1 64 (((4 * a15) + 1)).toNatClampNeg) = a12 →
64 < σ.2.1 ∧
vp_in ((4 * a15) + 4) 60 ∧
tp_E 42 79 [.ref 0, .ref 90, .int a2, .int a3, .int a4, .ref 60, .ref 64, .ref 62, .ref 63, .ref 61, .int a10, .int a11, .int a12, .int a13, .int (σ.1 64 (((4 * a15) + 4)).toNatClampNeg), .int a15, .null, .null, .null, .null, .null] [] σ post) ∧ (¬ (σ.1 64 (((4 * a15) + 1)).toNatClampNeg) = a12 →
tp_E 42 79 [.ref 0, .ref 90, .int a2, .int a3, .int a4, .ref 60, .ref 64, .ref 62, .ref 63, .ref 61, .int a10, .int a11, .int a12, .int a13, .int a14, .int a15, .null, .null, .null, .null, .null] [] σ post))) : tp_E 42 45 [.ref 0, .ref 90, .int a2, .int a3, .int a4, .ref 60, .ref 64, .ref 62, .ref 63, .ref 61, .int a10, .int a11, .int a12, .int a13, .int a14, .int a15, .null, .null, .null, .null, .null] [] σ post := tp_E_step (And.intro (Or.inr (Or.inl h.1)) (And.intro (show ¬ ((0 : Int32) < 0 ∨ 60 ≤ (0 : Int32).toNatClampNeg) from by decide) (And.intro (fun c1 => Exists.intro _ (And.intro (tp_wk_rf _) (tp_E_step (And.intro (fun c3 => Exists.intro _ (And.intro (tp_wk_rf _) (tp_E_step (And.intro (Or.inr (Or.inl ((h.2.1 c1).1 c3).1)) (And.intro ((h.2.1 c1).1 c3).2.1 (And.intro (fun c5 => tp_Em (((h.2.1 c1).1 c3).2.2.1 c5) (fun r4 σ4 h4 => Exists.intro [.ref 0, .ref 90, .int a2, .int a3, .int a4, .ref 60, .ref 64, .ref 62, .ref 63, .ref 61, .int a10, .int a11, .int a12, .int a13, .int a14, .null, .null, .null, .null, .null, .null] (And.intro (And.intro (Or.inr rfl) (And.intro (Or.inr rfl) (And.intro (Or.inr rfl) (And.intro (Or.inr rfl) (And.intro (Or.inr rfl) (And.intro (Or.inr rfl) (And.intro (Or.inr rfl) (And.intro (Or.inr rfl) (And.intro (Or.inr rfl) (And.intro (Or.inr rfl) (And.intro (Or.inr rfl) (And.intro (Or.inr rfl) (And.intro (Or.inr rfl) (And.intro (Or.inr rfl) (And.intro (Or.inr rfl) (And.intro (Or.inl rfl) (And.intro (Or.inr rfl) (And.intro (Or.inr rfl) (And.intro (Or.inr rfl) (And.intro (Or.inr rfl) (And.intro (Or.inr rfl) (trivial)))))))))))))))))))))) h4))) (fun c5 => Exists.intro _ (And.intro (tp_wk_rf _) (tp_E_step (tp_Em (((h.2.1 c1).1 c3).2.2.2 c5) (fun r6 σ6 h6 => Exists.intro [.ref 0, .ref 90, .int a2, .int a3, .int a4, .ref 60, .ref 64, .ref 62, .ref 63, .ref 61, .int a10, .int a11, .int a12, .int a13, .int a14, .null, .null, .null, .null, .null, .null] (And.intro (And.intro (Or.inr rfl) (And.intro (Or.inr rfl) (And.intro (Or.inr rfl) (And.intro (Or.inr rfl) (And.intro (Or.inr rfl) (And.intro (Or.inr rfl) (And.intro (Or.inr rfl) (And.intro (Or.inr rfl) (And.intro (Or.inr rfl) (And.intro (Or.inr rfl) (And.intro (Or.inr rfl) (And.intro (Or.inr rfl) (And.intro (Or.inr rfl) (And.intro (Or.inr rfl) (And.intro (Or.inr rfl) (And.intro (Or.inl rfl) (And.intro (Or.inr rfl) (And.intro (Or.inr rfl) (And.intro (Or.inr rfl) (And.intro (Or.inr rfl) (And.intro (Or.inr rfl) (trivial)))))))))))))))))))))) h6)))))))))))) (fun c3 => tp_Em ((h.2.1 c1).2 c3) (fun r2 σ2 h2 => Exists.intro [.ref 0, .ref 90, .int a2, .int a3, .int a4, .ref 60, .ref 64, .ref 62, .ref 63, .ref 61, .int a10, .int a11, .int a12, .int a13, .int a14, .null, .null, .null, .null, .null, .null] (And.intro (And.intro (Or.inr rfl) (And.intro (Or.inr rfl) (And.intro (Or.inr rfl) (And.intro (Or.inr rfl) (And.intro (Or.inr rfl) (And.intro (Or.inr rfl) (And.intro (Or.inr rfl) (And.intro (Or.inr rfl) (And.intro (Or.inr rfl) (And.intro (Or.inr rfl) (And.intro (Or.inr rfl) (And.intro (Or.inr rfl) (And.intro (Or.inr rfl) (And.intro (Or.inr rfl) (And.intro (Or.inr rfl) (And.intro (Or.inl rfl) (And.intro (Or.inr rfl) (And.intro (Or.inr rfl) (And.intro (Or.inr rfl) (And.intro (Or.inr rfl) (And.intro (Or.inr rfl) (trivial)))))))))))))))))))))) h2))))))) (fun c1 => And.intro (Or.inr (Or.inl (h.2.2 c1).1)) (And.intro (h.2.2 c1).2.1 (And.intro (fun c7 => And.intro (Or.inr (Or.inl ((h.2.2 c1).2.2.1 c7).1)) (And.intro ((h.2.2 c1).2.2.1 c7).2.1 (Exists.intro [.ref 0, .ref 90, .int a2, .int a3, .int a4, .ref 60, .ref 64, .ref 62, .ref 63, .ref 61, .int a10, .int a11, .int a12, .int a13, .int (σ.1 64 (((4 * a15) + 4)).toNatClampNeg), .int a15, .null, .null, .null, .null, .null] (And.intro (And.intro (Or.inr rfl) (And.intro (Or.inr rfl) (And.intro (Or.inr rfl) (And.intro (Or.inr rfl) (And.intro (Or.inr rfl) (And.intro (Or.inr rfl) (And.intro (Or.inr rfl) (And.intro (Or.inr rfl) (And.intro (Or.inr rfl) (And.intro (Or.inr rfl) (And.intro (Or.inr rfl) (And.intro (Or.inr rfl) (And.intro (Or.inr rfl) (And.intro (Or.inr rfl) (And.intro (Or.inr rfl) (And.intro (Or.inr rfl) (And.intro (Or.inr rfl) (And.intro (Or.inr rfl) (And.intro (Or.inr rfl) (And.intro (Or.inr rfl) (And.intro (Or.inr rfl) (trivial)))))))))))))))))))))) ((h.2.2 c1).2.2.1 c7).2.2)))) (fun c7 => Exists.intro [.ref 0, .ref 90, .int a2, .int a3, .int a4, .ref 60, .ref 64, .ref 62, .ref 63, .ref 61, .int a10, .int a11, .int a12, .int a13, .int a14, .int a15, .null, .null, .null, .null, .null] (And.intro (And.intro (Or.inr rfl) (And.intro (Or.inr rfl) (And.intro (Or.inr rfl) (And.intro (Or.inr rfl) (And.intro (Or.inr rfl) (And.intro (Or.inr rfl) (And.intro (Or.inr rfl) (And.intro (Or.inr rfl) (And.intro (Or.inr rfl) (And.intro (Or.inr rfl) (And.intro (Or.inr rfl) (And.intro (Or.inr rfl) (And.intro (Or.inr rfl) (And.intro (Or.inr rfl) (And.intro (Or.inr rfl) (And.intro (Or.inr rfl) (And.intro (Or.inr rfl) (And.intro (Or.inr rfl) (And.intro (Or.inr rfl) (And.intro (Or.inr rfl) (And.intro (Or.inr rfl) (trivial)))))))))))))))))))))) ((h.2.2 c1).2.2.2 c7)))))))))
/-- L_sells (LTramPence;[IIII[I[I[I[I[I)I, 79 -/
theorem sg_42_79 {post : Int32 → tp_St → Prop} {σ : tp_St} (a2 : Int32) (a3 : Int32) (a4 : Int32) (a10 : Int32) (a11 : Int32) (a12 : Int32) (a13 : Int32) (a14 : Int32) (a15 : Int32)  (h : tp_E 42 45 [.ref 0, .ref 90, .int a2, .int a3, .int a4, .ref 60, .ref 64, .ref 62, .ref 63, .ref 61, .int a10, .int a11, .int a12, .int a13, .int a14, .int (a15 + 1), .null, .null, .null, .null, .null] [] σ post) : tp_E 42 79 [.ref 0, .ref 90, .int a2, .int a3, .int a4, .ref 60, .ref 64, .ref 62, .ref 63, .ref 61, .int a10, .int a11, .int a12, .int a13, .int a14, .int a15, .null, .null, .null, .null, .null] [] σ post := tp_E_step (Exists.intro [.ref 0, .ref 90, .int a2, .int a3, .int a4, .ref 60, .ref 64, .ref 62, .ref 63, .ref 61, .int a10, .int a11, .int a12, .int a13, .int a14, .int (a15 + 1), .null, .null, .null, .null, .null] (And.intro (And.intro (Or.inr rfl) (And.intro (Or.inr rfl) (And.intro (Or.inr rfl) (And.intro (Or.inr rfl) (And.intro (Or.inr rfl) (And.intro (Or.inr rfl) (And.intro (Or.inr rfl) (And.intro (Or.inr rfl) (And.intro (Or.inr rfl) (And.intro (Or.inr rfl) (And.intro (Or.inr rfl) (And.intro (Or.inr rfl) (And.intro (Or.inr rfl) (And.intro (Or.inr rfl) (And.intro (Or.inr rfl) (And.intro (Or.inr rfl) (And.intro (Or.inr rfl) (And.intro (Or.inr rfl) (And.intro (Or.inr rfl) (And.intro (Or.inr rfl) (And.intro (Or.inr rfl) (trivial)))))))))))))))))))))) h))
/-- L_sells (LTramPence;[IIII[I[I[I[I[I)I, 141 -/
theorem sg_42_141 {post : Int32 → tp_St → Prop} {σ : tp_St} (a2 : Int32) (a3 : Int32) (a4 : Int32) (a10 : Int32) (a11 : Int32) (a12 : Int32) (a13 : Int32) (a14 : Int32) (s0 : Int32)  (h : tp_E 40 0 [.int (a11 >>> (9 &&& 31)), .int 9] [] σ (fun r1 σ1 =>
(r1 = 0 →
tp_E 40 0 [.int (a11 >>> (12 &&& 31)), .int 10] [] σ1 (fun r2 σ2 =>
tp_E 42 168 [.ref 0, .ref 90, .int a2, .int a3, .int a4, .ref 60, .ref 64, .ref 62, .ref 63, .ref 61, .int a10, .null, .int a12, .int a13, .int a14, .int r2, .null, .null, .null, .null, .null] [] σ2 post)) ∧ (¬ r1 = 0 →
tp_E 42 168 [.ref 0, .ref 90, .int a2, .int a3, .int a4, .ref 60, .ref 64, .ref 62, .ref 63, .ref 61, .int a10, .null, .int a12, .int a13, .int a14, .int s0, .null, .null, .null, .null, .null] [] σ1 post))) : tp_E 42 141 [.ref 0, .ref 90, .int a2, .int a3, .int a4, .ref 60, .ref 64, .ref 62, .ref 63, .ref 61, .int a10, .int a11, .int a12, .int a13, .int a14, .null, .null, .null, .null, .null, .null] [.int s0] σ post := tp_E_step (tp_Em h (fun r1 σ1 h1 => And.intro (fun c3 => tp_Em (h1.1 c3) (fun r2 σ2 h2 => Exists.intro [.ref 0, .ref 90, .int a2, .int a3, .int a4, .ref 60, .ref 64, .ref 62, .ref 63, .ref 61, .int a10, .null, .int a12, .int a13, .int a14, .int r2, .null, .null, .null, .null, .null] (And.intro (And.intro (Or.inr rfl) (And.intro (Or.inr rfl) (And.intro (Or.inr rfl) (And.intro (Or.inr rfl) (And.intro (Or.inr rfl) (And.intro (Or.inr rfl) (And.intro (Or.inr rfl) (And.intro (Or.inr rfl) (And.intro (Or.inr rfl) (And.intro (Or.inr rfl) (And.intro (Or.inr rfl) (And.intro (Or.inl rfl) (And.intro (Or.inr rfl) (And.intro (Or.inr rfl) (And.intro (Or.inr rfl) (And.intro (Or.inr rfl) (And.intro (Or.inr rfl) (And.intro (Or.inr rfl) (And.intro (Or.inr rfl) (And.intro (Or.inr rfl) (And.intro (Or.inr rfl) (trivial)))))))))))))))))))))) h2))) (fun c3 => Exists.intro [.ref 0, .ref 90, .int a2, .int a3, .int a4, .ref 60, .ref 64, .ref 62, .ref 63, .ref 61, .int a10, .null, .int a12, .int a13, .int a14, .int s0, .null, .null, .null, .null, .null] (And.intro (And.intro (Or.inr rfl) (And.intro (Or.inr rfl) (And.intro (Or.inr rfl) (And.intro (Or.inr rfl) (And.intro (Or.inr rfl) (And.intro (Or.inr rfl) (And.intro (Or.inr rfl) (And.intro (Or.inr rfl) (And.intro (Or.inr rfl) (And.intro (Or.inr rfl) (And.intro (Or.inr rfl) (And.intro (Or.inl rfl) (And.intro (Or.inr rfl) (And.intro (Or.inr rfl) (And.intro (Or.inr rfl) (And.intro (Or.inr rfl) (And.intro (Or.inr rfl) (And.intro (Or.inr rfl) (And.intro (Or.inr rfl) (And.intro (Or.inr rfl) (And.intro (Or.inr rfl) (trivial)))))))))))))))))))))) (h1.2 c3)))))
/-- L_sells (LTramPence;[IIII[I[I[I[I[I)I, 168 -/
theorem sg_42_168 {post : Int32 → tp_St → Prop} {σ : tp_St} (a2 : Int32) (a3 : Int32) (a4 : Int32) (a10 : Int32) (a12 : Int32) (a13 : Int32) (a14 : Int32) (a15 : Int32)  (h : (a15 ≤ 9 →
tp_E 42 182 [.ref 0, .ref 90, .int a2, .int a3, .int a4, .ref 60, .ref 64, .ref 62, .ref 63, .ref 61, .int a10, .null, .int a12, .int a13, .int a14, .null, .null, .null, .null, .null, .null] [.int a15] σ post) ∧ (¬ a15 ≤ 9 →
tp_E 42 182 [.ref 0, .ref 90, .int a2, .int a3, .int a4, .ref 60, .ref 64, .ref 62, .ref 63, .ref 61, .int a10, .null, .int a12, .int a13, .int a14, .null, .null, .null, .null, .null, .null] [.int 9] σ post)) : tp_E 42 168 [.ref 0, .ref 90, .int a2, .int a3, .int a4, .ref 60, .ref 64, .ref 62, .ref 63, .ref 61, .int a10, .null, .int a12, .int a13, .int a14, .int a15, .null, .null, .null, .null, .null] [] σ post := tp_E_step (And.intro (fun c1 => Exists.intro _ (And.intro (tp_wk_rf _) (tp_E_step (Exists.intro [.ref 0, .ref 90, .int a2, .int a3, .int a4, .ref 60, .ref 64, .ref 62, .ref 63, .ref 61, .int a10, .null, .int a12, .int a13, .int a14, .null, .null, .null, .null, .null, .null] (And.intro (And.intro (Or.inr rfl) (And.intro (Or.inr rfl) (And.intro (Or.inr rfl) (And.intro (Or.inr rfl) (And.intro (Or.inr rfl) (And.intro (Or.inr rfl) (And.intro (Or.inr rfl) (And.intro (Or.inr rfl) (And.intro (Or.inr rfl) (And.intro (Or.inr rfl) (And.intro (Or.inr rfl) (And.intro (Or.inr rfl) (And.intro (Or.inr rfl) (And.intro (Or.inr rfl) (And.intro (Or.inr rfl) (And.intro (Or.inl rfl) (And.intro (Or.inr rfl) (And.intro (Or.inr rfl) (And.intro (Or.inr rfl) (And.intro (Or.inr rfl) (And.intro (Or.inr rfl) (trivial)))))))))))))))))))))) (h.1 c1)))))) (fun c1 => Exists.intro [.ref 0, .ref 90, .int a2, .int a3, .int a4, .ref 60, .ref 64, .ref 62, .ref 63, .ref 61, .int a10, .null, .int a12, .int a13, .int a14, .null, .null, .null, .null, .null, .null] (And.intro (And.intro (Or.inr rfl) (And.intro (Or.inr rfl) (And.intro (Or.inr rfl) (And.intro (Or.inr rfl) (And.intro (Or.inr rfl) (And.intro (Or.inr rfl) (And.intro (Or.inr rfl) (And.intro (Or.inr rfl) (And.intro (Or.inr rfl) (And.intro (Or.inr rfl) (And.intro (Or.inr rfl) (And.intro (Or.inr rfl) (And.intro (Or.inr rfl) (And.intro (Or.inr rfl) (And.intro (Or.inr rfl) (And.intro (Or.inl rfl) (And.intro (Or.inr rfl) (And.intro (Or.inr rfl) (And.intro (Or.inr rfl) (And.intro (Or.inr rfl) (And.intro (Or.inr rfl) (trivial)))))))))))))))))))))) (h.2 c1))))
/-- L_sells (LTramPence;[IIII[I[I[I[I[I)I, 182 -/
theorem sg_42_182 {post : Int32 → tp_St → Prop} {σ : tp_St} (a2 : Int32) (a3 : Int32) (a4 : Int32) (a10 : Int32) (a12 : Int32) (a13 : Int32) (a14 : Int32) (s0 : Int32)  (h : 60 < σ.2.1 ∧
vp_in a12 4 ∧
((σ.1 60 (a12).toNatClampNeg) = 1 →
tp_E 42 203 [.ref 0, .ref 90, .int a2, .int a3, .int a4, .ref 60, .ref 64, .ref 62, .ref 63, .ref 61, .int a10, .null, .int a12, .int a13, .int a14, .int s0, .null, .null, .null, .null, .null] [.int s0] σ post) ∧ (¬ (σ.1 60 (a12).toNatClampNeg) = 1 →
tp_E 42 203 [.ref 0, .ref 90, .int a2, .int a3, .int a4, .ref 60, .ref 64, .ref 62, .ref 63, .ref 61, .int a10, .null, .int a12, .int a13, .int a14, .int s0, .null, .null, .null, .null, .null] [.int (9 - s0)] σ post)) : tp_E 42 182 [.ref 0, .ref 90, .int a2, .int a3, .int a4, .ref 60, .ref 64, .ref 62, .ref 63, .ref 61, .int a10, .null, .int a12, .int a13, .int a14, .null, .null, .null, .null, .null, .null] [.int s0] σ post := tp_E_step (And.intro (Or.inr (Or.inl h.1)) (And.intro h.2.1 (And.intro (fun c1 => Exists.intro [.ref 0, .ref 90, .int a2, .int a3, .int a4, .ref 60, .ref 64, .ref 62, .ref 63, .ref 61, .int a10, .null, .int a12, .int a13, .int a14, .int s0, .null, .null, .null, .null, .null] (And.intro (And.intro (Or.inr rfl) (And.intro (Or.inr rfl) (And.intro (Or.inr rfl) (And.intro (Or.inr rfl) (And.intro (Or.inr rfl) (And.intro (Or.inr rfl) (And.intro (Or.inr rfl) (And.intro (Or.inr rfl) (And.intro (Or.inr rfl) (And.intro (Or.inr rfl) (And.intro (Or.inr rfl) (And.intro (Or.inr rfl) (And.intro (Or.inr rfl) (And.intro (Or.inr rfl) (And.intro (Or.inr rfl) (And.intro (Or.inr rfl) (And.intro (Or.inr rfl) (And.intro (Or.inr rfl) (And.intro (Or.inr rfl) (And.intro (Or.inr rfl) (And.intro (Or.inr rfl) (trivial)))))))))))))))))))))) (h.2.2.1 c1))) (fun c1 => Exists.intro _ (And.intro (tp_wk_rf _) (tp_E_step (Exists.intro [.ref 0, .ref 90, .int a2, .int a3, .int a4, .ref 60, .ref 64, .ref 62, .ref 63, .ref 61, .int a10, .null, .int a12, .int a13, .int a14, .int s0, .null, .null, .null, .null, .null] (And.intro (And.intro (Or.inr rfl) (And.intro (Or.inr rfl) (And.intro (Or.inr rfl) (And.intro (Or.inr rfl) (And.intro (Or.inr rfl) (And.intro (Or.inr rfl) (And.intro (Or.inr rfl) (And.intro (Or.inr rfl) (And.intro (Or.inr rfl) (And.intro (Or.inr rfl) (And.intro (Or.inr rfl) (And.intro (Or.inr rfl) (And.intro (Or.inr rfl) (And.intro (Or.inr rfl) (And.intro (Or.inr rfl) (And.intro (Or.inr rfl) (And.intro (Or.inr rfl) (And.intro (Or.inr rfl) (And.intro (Or.inr rfl) (And.intro (Or.inr rfl) (And.intro (Or.inr rfl) (trivial)))))))))))))))))))))) (h.2.2.2 c1)))))))))
/-- L_sells (LTramPence;[IIII[I[I[I[I[I)I, 203 -/
theorem sg_42_203 {post : Int32 → tp_St → Prop} {σ : tp_St} (a2 : Int32) (a3 : Int32) (a4 : Int32) (a10 : Int32) (a12 : Int32) (a13 : Int32) (a14 : Int32) (a15 : Int32) (s0 : Int32)  (h : (0 ≤ a14 →
60 < σ.2.1 ∧
vp_in a12 4 ∧
((σ.1 60 (a12).toNatClampNeg) = 1 →
tp_E 42 233 [.ref 0, .ref 90, .int a2, .int a3, .int a4, .ref 60, .ref 64, .ref 62, .ref 63, .ref 61, .int a10, .null, .int a12, .int a13, .null, .int a15, .int s0, .null, .null, .null, .null] [.int a14] σ post) ∧ (¬ (σ.1 60 (a12).toNatClampNeg) = 1 →
tp_E 42 233 [.ref 0, .ref 90, .int a2, .int a3, .int a4, .ref 60, .ref 64, .ref 62, .ref 63, .ref 61, .int a10, .null, .int a12, .int a13, .null, .int a15, .int s0, .null, .null, .null, .null] [.int (9 - a14)] σ post)) ∧ (¬ 0 ≤ a14 →
tp_E 42 233 [.ref 0, .ref 90, .int a2, .int a3, .int a4, .ref 60, .ref 64, .ref 62, .ref 63, .ref 61, .int a10, .null, .int a12, .int a13, .null, .int a15, .int s0, .null, .null, .null, .null] [.int 0] σ post)) : tp_E 42 203 [.ref 0, .ref 90, .int a2, .int a3, .int a4, .ref 60, .ref 64, .ref 62, .ref 63, .ref 61, .int a10, .null, .int a12, .int a13, .int a14, .int a15, .null, .null, .null, .null, .null] [.int s0] σ post := tp_E_step (And.intro (fun c1 => Exists.intro _ (And.intro (tp_wk_rf _) (tp_E_step (And.intro (Or.inr (Or.inl (h.1 c1).1)) (And.intro (h.1 c1).2.1 (And.intro (fun c2 => Exists.intro [.ref 0, .ref 90, .int a2, .int a3, .int a4, .ref 60, .ref 64, .ref 62, .ref 63, .ref 61, .int a10, .null, .int a12, .int a13, .null, .int a15, .int s0, .null, .null, .null, .null] (And.intro (And.intro (Or.inr rfl) (And.intro (Or.inr rfl) (And.intro (Or.inr rfl) (And.intro (Or.inr rfl) (And.intro (Or.inr rfl) (And.intro (Or.inr rfl) (And.intro (Or.inr rfl) (And.intro (Or.inr rfl) (And.intro (Or.inr rfl) (And.intro (Or.inr rfl) (And.intro (Or.inr rfl) (And.intro (Or.inr rfl) (And.intro (Or.inr rfl) (And.intro (Or.inr rfl) (And.intro (Or.inl rfl) (And.intro (Or.inr rfl) (And.intro (Or.inr rfl) (And.intro (Or.inr rfl) (And.intro (Or.inr rfl) (And.intro (Or.inr rfl) (And.intro (Or.inr rfl) (trivial)))))))))))))))))))))) ((h.1 c1).2.2.1 c2))) (fun c2 => Exists.intro _ (And.intro (tp_wk_rf _) (tp_E_step (Exists.intro [.ref 0, .ref 90, .int a2, .int a3, .int a4, .ref 60, .ref 64, .ref 62, .ref 63, .ref 61, .int a10, .null, .int a12, .int a13, .null, .int a15, .int s0, .null, .null, .null, .null] (And.intro (And.intro (Or.inr rfl) (And.intro (Or.inr rfl) (And.intro (Or.inr rfl) (And.intro (Or.inr rfl) (And.intro (Or.inr rfl) (And.intro (Or.inr rfl) (And.intro (Or.inr rfl) (And.intro (Or.inr rfl) (And.intro (Or.inr rfl) (And.intro (Or.inr rfl) (And.intro (Or.inr rfl) (And.intro (Or.inr rfl) (And.intro (Or.inr rfl) (And.intro (Or.inr rfl) (And.intro (Or.inl rfl) (And.intro (Or.inr rfl) (And.intro (Or.inr rfl) (And.intro (Or.inr rfl) (And.intro (Or.inr rfl) (And.intro (Or.inr rfl) (And.intro (Or.inr rfl) (trivial)))))))))))))))))))))) ((h.1 c1).2.2.2 c2)))))))))))) (fun c1 => Exists.intro [.ref 0, .ref 90, .int a2, .int a3, .int a4, .ref 60, .ref 64, .ref 62, .ref 63, .ref 61, .int a10, .null, .int a12, .int a13, .null, .int a15, .int s0, .null, .null, .null, .null] (And.intro (And.intro (Or.inr rfl) (And.intro (Or.inr rfl) (And.intro (Or.inr rfl) (And.intro (Or.inr rfl) (And.intro (Or.inr rfl) (And.intro (Or.inr rfl) (And.intro (Or.inr rfl) (And.intro (Or.inr rfl) (And.intro (Or.inr rfl) (And.intro (Or.inr rfl) (And.intro (Or.inr rfl) (And.intro (Or.inr rfl) (And.intro (Or.inr rfl) (And.intro (Or.inr rfl) (And.intro (Or.inl rfl) (And.intro (Or.inr rfl) (And.intro (Or.inr rfl) (And.intro (Or.inr rfl) (And.intro (Or.inr rfl) (And.intro (Or.inr rfl) (And.intro (Or.inr rfl) (trivial)))))))))))))))))))))) (h.2 c1))))
/-- L_sells (LTramPence;[IIII[I[I[I[I[I)I, 233 -/
theorem sg_42_233 {post : Int32 → tp_St → Prop} {σ : tp_St} (a2 : Int32) (a3 : Int32) (a4 : Int32) (a10 : Int32) (a12 : Int32) (a13 : Int32) (a15 : Int32) (a16 : Int32) (s0 : Int32)  (h : 61 < σ.2.1 ∧
vp_in a12 4 ∧
(a15 < s0 →
tp_E 42 261 [.ref 0, .ref 90, .int a2, .int a3, .int a4, .ref 60, .ref 64, .ref 62, .ref 63, .ref 61, .int a10, .null, .int a12, .int a13, .null, .null, .int a16, .null, .int ((2 * (σ.1 61 (a12).toNatClampNeg)) + a13), .null, .null] [] σ post) ∧ (¬ a15 < s0 →
(a15 = 9 →
tp_E 42 261 [.ref 0, .ref 90, .int a2, .int a3, .int a4, .ref 60, .ref 64, .ref 62, .ref 63, .ref 61, .int a10, .null, .int a12, .int a13, .null, .null, .int a16, .null, .int ((2 * (σ.1 61 (a12).toNatClampNeg)) + a13), .null, .null] [] σ post) ∧ (¬ a15 = 9 →
62 < σ.2.1 ∧
vp_in ((2 * (σ.1 61 (a12).toNatClampNeg)) + a13) 8 ∧
63 < σ.2.1 ∧
vp_in ((2 * (σ.1 61 (a12).toNatClampNeg)) + a13) 8 ∧
((σ.1 62 (((2 * (σ.1 61 (a12).toNatClampNeg)) + a13)).toNatClampNeg) = (σ.1 63 (((2 * (σ.1 61 (a12).toNatClampNeg)) + a13)).toNatClampNeg) →
tp_E 42 289 [.ref 0, .ref 90, .int a2, .int a3, .int a4, .ref 60, .ref 64, .ref 62, .ref 63, .ref 61, .int a10, .null, .int a12, .int a13, .null, .null, .int a16, .null, .int ((2 * (σ.1 61 (a12).toNatClampNeg)) + a13), .null, .null] [.int (-4)] σ post) ∧ (¬ (σ.1 62 (((2 * (σ.1 61 (a12).toNatClampNeg)) + a13)).toNatClampNeg) = (σ.1 63 (((2 * (σ.1 61 (a12).toNatClampNeg)) + a13)).toNatClampNeg) →
62 < σ.2.1 ∧
vp_in ((2 * (σ.1 61 (a12).toNatClampNeg)) + a13) 8 ∧
tp_E 42 289 [.ref 0, .ref 90, .int a2, .int a3, .int a4, .ref 60, .ref 64, .ref 62, .ref 63, .ref 61, .int a10, .null, .int a12, .int a13, .null, .null, .int a16, .null, .int ((2 * (σ.1 61 (a12).toNatClampNeg)) + a13), .null, .null] [.int (σ.1 62 (((2 * (σ.1 61 (a12).toNatClampNeg)) + a13)).toNatClampNeg)] σ post)))) : tp_E 42 233 [.ref 0, .ref 90, .int a2, .int a3, .int a4, .ref 60, .ref 64, .ref 62, .ref 63, .ref 61, .int a10, .null, .int a12, .int a13, .null, .int a15, .int a16, .null, .null, .null, .null] [.int s0] σ post := tp_E_step (And.intro (Or.inr (Or.inl h.1)) (And.intro h.2.1 (And.intro (fun c1 => Exists.intro [.ref 0, .ref 90, .int a2, .int a3, .int a4, .ref 60, .ref 64, .ref 62, .ref 63, .ref 61, .int a10, .null, .int a12, .int a13, .null, .null, .int a16, .null, .int ((2 * (σ.1 61 (a12).toNatClampNeg)) + a13), .null, .null] (And.intro (And.intro (Or.inr rfl) (And.intro (Or.inr rfl) (And.intro (Or.inr rfl) (And.intro (Or.inr rfl) (And.intro (Or.inr rfl) (And.intro (Or.inr rfl) (And.intro (Or.inr rfl) (And.intro (Or.inr rfl) (And.intro (Or.inr rfl) (And.intro (Or.inr rfl) (And.intro (Or.inr rfl) (And.intro (Or.inr rfl) (And.intro (Or.inr rfl) (And.intro (Or.inr rfl) (And.intro (Or.inr rfl) (And.intro (Or.inl rfl) (And.intro (Or.inr rfl) (And.intro (Or.inl rfl) (And.intro (Or.inr rfl) (And.intro (Or.inr rfl) (And.intro (Or.inr rfl) (trivial)))))))))))))))))))))) (h.2.2.1 c1))) (fun c1 => And.intro (fun c2 => Exists.intro [.ref 0, .ref 90, .int a2, .int a3, .int a4, .ref 60, .ref 64, .ref 62, .ref 63, .ref 61, .int a10, .null, .int a12, .int a13, .null, .null, .int a16, .null, .int ((2 * (σ.1 61 (a12).toNatClampNeg)) + a13), .null, .null] (And.intro (And.intro (Or.inr rfl) (And.intro (Or.inr rfl) (And.intro (Or.inr rfl) (And.intro (Or.inr rfl) (And.intro (Or.inr rfl) (And.intro (Or.inr rfl) (And.intro (Or.inr rfl) (And.intro (Or.inr rfl) (And.intro (Or.inr rfl) (And.intro (Or.inr rfl) (And.intro (Or.inr rfl) (And.intro (Or.inr rfl) (And.intro (Or.inr rfl) (And.intro (Or.inr rfl) (And.intro (Or.inr rfl) (And.intro (Or.inl rfl) (And.intro (Or.inr rfl) (And.intro (Or.inl rfl) (And.intro (Or.inr rfl) (And.intro (Or.inr rfl) (And.intro (Or.inr rfl) (trivial)))))))))))))))))))))) ((h.2.2.2 c1).1 c2))) (fun c2 => Exists.intro _ (And.intro (tp_wk_rf _) (tp_E_step (And.intro (Or.inr (Or.inl ((h.2.2.2 c1).2 c2).1)) (And.intro ((h.2.2.2 c1).2 c2).2.1 (And.intro (Or.inr (Or.inl ((h.2.2.2 c1).2 c2).2.2.1)) (And.intro ((h.2.2.2 c1).2 c2).2.2.2.1 (And.intro (fun c3 => Exists.intro [.ref 0, .ref 90, .int a2, .int a3, .int a4, .ref 60, .ref 64, .ref 62, .ref 63, .ref 61, .int a10, .null, .int a12, .int a13, .null, .null, .int a16, .null, .int ((2 * (σ.1 61 (a12).toNatClampNeg)) + a13), .null, .null] (And.intro (And.intro (Or.inr rfl) (And.intro (Or.inr rfl) (And.intro (Or.inr rfl) (And.intro (Or.inr rfl) (And.intro (Or.inr rfl) (And.intro (Or.inr rfl) (And.intro (Or.inr rfl) (And.intro (Or.inr rfl) (And.intro (Or.inr rfl) (And.intro (Or.inr rfl) (And.intro (Or.inr rfl) (And.intro (Or.inr rfl) (And.intro (Or.inr rfl) (And.intro (Or.inr rfl) (And.intro (Or.inr rfl) (And.intro (Or.inl rfl) (And.intro (Or.inr rfl) (And.intro (Or.inl rfl) (And.intro (Or.inr rfl) (And.intro (Or.inr rfl) (And.intro (Or.inr rfl) (trivial)))))))))))))))))))))) (((h.2.2.2 c1).2 c2).2.2.2.2.1 c3))) (fun c3 => Exists.intro _ (And.intro (tp_wk_rf _) (tp_E_step (And.intro (Or.inr (Or.inl (((h.2.2.2 c1).2 c2).2.2.2.2.2 c3).1)) (And.intro (((h.2.2.2 c1).2 c2).2.2.2.2.2 c3).2.1 (Exists.intro [.ref 0, .ref 90, .int a2, .int a3, .int a4, .ref 60, .ref 64, .ref 62, .ref 63, .ref 61, .int a10, .null, .int a12, .int a13, .null, .null, .int a16, .null, .int ((2 * (σ.1 61 (a12).toNatClampNeg)) + a13), .null, .null] (And.intro (And.intro (Or.inr rfl) (And.intro (Or.inr rfl) (And.intro (Or.inr rfl) (And.intro (Or.inr rfl) (And.intro (Or.inr rfl) (And.intro (Or.inr rfl) (And.intro (Or.inr rfl) (And.intro (Or.inr rfl) (And.intro (Or.inr rfl) (And.intro (Or.inr rfl) (And.intro (Or.inr rfl) (And.intro (Or.inr rfl) (And.intro (Or.inr rfl) (And.intro (Or.inr rfl) (And.intro (Or.inr rfl) (And.intro (Or.inl rfl) (And.intro (Or.inr rfl) (And.intro (Or.inl rfl) (And.intro (Or.inr rfl) (And.intro (Or.inr rfl) (And.intro (Or.inr rfl) (trivial)))))))))))))))))))))) (((h.2.2.2 c1).2 c2).2.2.2.2.2 c3).2.2)))))))))))))))))))
/-- L_sells (LTramPence;[IIII[I[I[I[I[I)I, 261 -/
theorem sg_42_261 {post : Int32 → tp_St → Prop} {σ : tp_St} (a2 : Int32) (a3 : Int32) (a4 : Int32) (a10 : Int32) (a12 : Int32) (a13 : Int32) (a16 : Int32) (a18 : Int32)  (h : tp_E 42 289 [.ref 0, .ref 90, .int a2, .int a3, .int a4, .ref 60, .ref 64, .ref 62, .ref 63, .ref 61, .int a10, .null, .int a12, .int a13, .null, .null, .int a16, .null, .int a18, .null, .null] [.int (-2)] σ post) : tp_E 42 261 [.ref 0, .ref 90, .int a2, .int a3, .int a4, .ref 60, .ref 64, .ref 62, .ref 63, .ref 61, .int a10, .null, .int a12, .int a13, .null, .null, .int a16, .null, .int a18, .null, .null] [] σ post := tp_E_step (Exists.intro [.ref 0, .ref 90, .int a2, .int a3, .int a4, .ref 60, .ref 64, .ref 62, .ref 63, .ref 61, .int a10, .null, .int a12, .int a13, .null, .null, .int a16, .null, .int a18, .null, .null] (And.intro (And.intro (Or.inr rfl) (And.intro (Or.inr rfl) (And.intro (Or.inr rfl) (And.intro (Or.inr rfl) (And.intro (Or.inr rfl) (And.intro (Or.inr rfl) (And.intro (Or.inr rfl) (And.intro (Or.inr rfl) (And.intro (Or.inr rfl) (And.intro (Or.inr rfl) (And.intro (Or.inr rfl) (And.intro (Or.inr rfl) (And.intro (Or.inr rfl) (And.intro (Or.inr rfl) (And.intro (Or.inr rfl) (And.intro (Or.inr rfl) (And.intro (Or.inr rfl) (And.intro (Or.inr rfl) (And.intro (Or.inr rfl) (And.intro (Or.inr rfl) (And.intro (Or.inr rfl) (trivial)))))))))))))))))))))) h))
/-- L_sells (LTramPence;[IIII[I[I[I[I[I)I, 289 -/
theorem sg_42_289 {post : Int32 → tp_St → Prop} {σ : tp_St} (a2 : Int32) (a3 : Int32) (a4 : Int32) (a10 : Int32) (a12 : Int32) (a13 : Int32) (a16 : Int32) (a18 : Int32) (s0 : Int32)  (h : tp_E 24 0 [.ref 0, .int a12, .int a13, .int a16, .null, .null, .null] [] σ (fun r1 σ1 =>
(r1 = s0 →
(s0 < 0 →
tp_E 42 374 [.ref 0, .ref 90, .int a2, .int a3, .int a4, .ref 60, .ref 64, .ref 62, .ref 63, .ref 61, .int a10, .null, .null, .null, .null, .null, .null, .null, .null, .null, .null] [] σ1 post) ∧ (¬ s0 < 0 →
64 < σ1.2.1 ∧
64 < σ1.2.1 ∧
vp_in ((4 * (σ1.1 64 0)) + 1) 60 ∧
64 < σ1.2.1 ∧
vp_in ((4 * (σ1.1 64 0)) + 2) 60 ∧
64 < σ1.2.1 ∧
vp_in ((4 * (σ1.1 64 0)) + 3) 60 ∧
64 < σ1.2.1 ∧
vp_in ((4 * (σ1.1 64 0)) + 4) 60 ∧
64 < σ1.2.1 ∧
64 < σ1.2.1 ∧
62 < σ1.2.1 ∧
vp_in a18 8 ∧
62 < σ1.2.1 ∧
vp_in a18 8 ∧
tp_E 42 374 [.ref 0, .ref 90, .int a2, .int a3, .int a4, .ref 60, .ref 64, .ref 62, .ref 63, .ref 61, .int a10, .null, .null, .null, .null, .null, .null, .null, .null, .null, .null] [] (tp_set (tp_set (tp_set (tp_set (tp_set (tp_set σ1 64 (((4 * (σ1.1 64 0)) + 1)).toNatClampNeg a12) 64 (((4 * (σ1.1 64 0)) + 2)).toNatClampNeg a13) 64 (((4 * (σ1.1 64 0)) + 3)).toNatClampNeg s0) 64 (((4 * (σ1.1 64 0)) + 4)).toNatClampNeg a16) 64 0 (((tp_set (tp_set (tp_set (tp_set σ1 64 (((4 * (σ1.1 64 0)) + 1)).toNatClampNeg a12) 64 (((4 * (σ1.1 64 0)) + 2)).toNatClampNeg a13) 64 (((4 * (σ1.1 64 0)) + 3)).toNatClampNeg s0) 64 (((4 * (σ1.1 64 0)) + 4)).toNatClampNeg a16).1 64 0) + 1)) 62 (a18).toNatClampNeg ((σ1.1 62 (a18).toNatClampNeg) + 1)) post)) ∧ (¬ r1 = s0 →
post (-1) σ1))) : tp_E 42 289 [.ref 0, .ref 90, .int a2, .int a3, .int a4, .ref 60, .ref 64, .ref 62, .ref 63, .ref 61, .int a10, .null, .int a12, .int a13, .null, .null, .int a16, .null, .int a18, .null, .null] [.int s0] σ post := tp_E_step (tp_Em h (fun r1 σ1 h1 => And.intro (fun c2 => Exists.intro _ (And.intro (tp_wk_rf _) (tp_E_step (And.intro (fun c3 => Exists.intro [.ref 0, .ref 90, .int a2, .int a3, .int a4, .ref 60, .ref 64, .ref 62, .ref 63, .ref 61, .int a10, .null, .null, .null, .null, .null, .null, .null, .null, .null, .null] (And.intro (And.intro (Or.inr rfl) (And.intro (Or.inr rfl) (And.intro (Or.inr rfl) (And.intro (Or.inr rfl) (And.intro (Or.inr rfl) (And.intro (Or.inr rfl) (And.intro (Or.inr rfl) (And.intro (Or.inr rfl) (And.intro (Or.inr rfl) (And.intro (Or.inr rfl) (And.intro (Or.inr rfl) (And.intro (Or.inr rfl) (And.intro (Or.inl rfl) (And.intro (Or.inl rfl) (And.intro (Or.inr rfl) (And.intro (Or.inr rfl) (And.intro (Or.inl rfl) (And.intro (Or.inr rfl) (And.intro (Or.inl rfl) (And.intro (Or.inl rfl) (And.intro (Or.inr rfl) (trivial)))))))))))))))))))))) ((h1.1 c2).1 c3))) (fun c3 => And.intro (Or.inr (Or.inl ((h1.1 c2).2 c3).1)) (And.intro (show ¬ ((0 : Int32) < 0 ∨ 60 ≤ (0 : Int32).toNatClampNeg) from by decide) (And.intro (Or.inr (Or.inl ((h1.1 c2).2 c3).2.1)) (And.intro ((h1.1 c2).2 c3).2.2.1 (And.intro (Or.inr (Or.inl ((h1.1 c2).2 c3).2.2.2.1)) (And.intro ((h1.1 c2).2 c3).2.2.2.2.1 (And.intro (Or.inr (Or.inl ((h1.1 c2).2 c3).2.2.2.2.2.1)) (And.intro ((h1.1 c2).2 c3).2.2.2.2.2.2.1 (And.intro (Or.inr (Or.inl ((h1.1 c2).2 c3).2.2.2.2.2.2.2.1)) (And.intro ((h1.1 c2).2 c3).2.2.2.2.2.2.2.2.1 (And.intro (Or.inr (Or.inl ((h1.1 c2).2 c3).2.2.2.2.2.2.2.2.2.1)) (And.intro (show ¬ ((0 : Int32) < 0 ∨ 60 ≤ (0 : Int32).toNatClampNeg) from by decide) (And.intro (Or.inr (Or.inl ((h1.1 c2).2 c3).2.2.2.2.2.2.2.2.2.2.1)) (And.intro (show ¬ ((0 : Int32) < 0 ∨ 60 ≤ (0 : Int32).toNatClampNeg) from by decide) (And.intro (Or.inr (Or.inl ((h1.1 c2).2 c3).2.2.2.2.2.2.2.2.2.2.2.1)) (And.intro ((h1.1 c2).2 c3).2.2.2.2.2.2.2.2.2.2.2.2.1 (And.intro (Or.inr (Or.inl ((h1.1 c2).2 c3).2.2.2.2.2.2.2.2.2.2.2.2.2.1)) (And.intro ((h1.1 c2).2 c3).2.2.2.2.2.2.2.2.2.2.2.2.2.2.1 (Exists.intro [.ref 0, .ref 90, .int a2, .int a3, .int a4, .ref 60, .ref 64, .ref 62, .ref 63, .ref 61, .int a10, .null, .null, .null, .null, .null, .null, .null, .null, .null, .null] (And.intro (And.intro (Or.inr rfl) (And.intro (Or.inr rfl) (And.intro (Or.inr rfl) (And.intro (Or.inr rfl) (And.intro (Or.inr rfl) (And.intro (Or.inr rfl) (And.intro (Or.inr rfl) (And.intro (Or.inr rfl) (And.intro (Or.inr rfl) (And.intro (Or.inr rfl) (And.intro (Or.inr rfl) (And.intro (Or.inr rfl) (And.intro (Or.inl rfl) (And.intro (Or.inl rfl) (And.intro (Or.inr rfl) (And.intro (Or.inr rfl) (And.intro (Or.inl rfl) (And.intro (Or.inr rfl) (And.intro (Or.inl rfl) (And.intro (Or.inl rfl) (And.intro (Or.inl rfl) (trivial)))))))))))))))))))))) ((h1.1 c2).2 c3).2.2.2.2.2.2.2.2.2.2.2.2.2.2.2)))))))))))))))))))))))) (fun c2 => And.intro rfl (h1.2 c2))))
/-- L_sells (LTramPence;[IIII[I[I[I[I[I)I, 374 -/
theorem sg_42_374 {post : Int32 → tp_St → Prop} {σ : tp_St} (a2 : Int32) (a3 : Int32) (a4 : Int32) (a10 : Int32)  (h : tp_E 42 3 [.ref 0, .ref 90, .int a2, .int a3, .int a4, .ref 60, .ref 64, .ref 62, .ref 63, .ref 61, .int (a10 + 1), .null, .null, .null, .null, .null, .null, .null, .null, .null, .null] [] σ post) : tp_E 42 374 [.ref 0, .ref 90, .int a2, .int a3, .int a4, .ref 60, .ref 64, .ref 62, .ref 63, .ref 61, .int a10, .null, .null, .null, .null, .null, .null, .null, .null, .null, .null] [] σ post := tp_E_step (Exists.intro [.ref 0, .ref 90, .int a2, .int a3, .int a4, .ref 60, .ref 64, .ref 62, .ref 63, .ref 61, .int (a10 + 1), .null, .null, .null, .null, .null, .null, .null, .null, .null, .null] (And.intro (And.intro (Or.inr rfl) (And.intro (Or.inr rfl) (And.intro (Or.inr rfl) (And.intro (Or.inr rfl) (And.intro (Or.inr rfl) (And.intro (Or.inr rfl) (And.intro (Or.inr rfl) (And.intro (Or.inr rfl) (And.intro (Or.inr rfl) (And.intro (Or.inr rfl) (And.intro (Or.inr rfl) (And.intro (Or.inr rfl) (And.intro (Or.inr rfl) (And.intro (Or.inr rfl) (And.intro (Or.inr rfl) (And.intro (Or.inr rfl) (And.intro (Or.inr rfl) (And.intro (Or.inr rfl) (And.intro (Or.inr rfl) (And.intro (Or.inr rfl) (And.intro (Or.inr rfl) (trivial)))))))))))))))))))))) h))
/-- L_law ([I)Z, 11 -/
theorem sg_43_11 {post : Int32 → tp_St → Prop} {σ : tp_St}   (h : tp_E 41 0 [.ref 90, .int 0] [] σ (fun r1 σ1 =>
tp_E 40 0 [.int r1, .int 30] [] σ1 (fun r2 σ2 =>
58 < σ2.2.1 ∧
tp_E 41 0 [.ref 90, .int 1] [] (tp_set σ2 58 0 (1 + r2)) (fun r3 σ3 =>
tp_E 40 0 [.int r3, .int 30] [] σ3 (fun r4 σ4 =>
58 < σ4.2.1 ∧
2 = Int32.ofNat (tp_ln (tp_set σ4 58 1 (1 + r4)).2.1) ∧
post 43 (tp_set σ4 58 1 (1 + r4))))))) : tp_E 43 11 [.ref 90, .ref 0, .null, .null, .null, .null, .null, .null, .null, .null, .null, .null, .null, .null, .null, .null, .null, .null, .null, .null, .null, .null, .null, .null] [.ref 58] σ post := tp_E_step (tp_Em h (fun r1 σ1 h1 => tp_Em h1 (fun r2 σ2 h2 => And.intro (Or.inr (Or.inl h2.1)) (And.intro (show ¬ ((0 : Int32) < 0 ∨ 2 ≤ (0 : Int32).toNatClampNeg) from by decide) (tp_Em h2.2 (fun r3 σ3 h3 => tp_Em h3 (fun r4 σ4 h4 => And.intro (Or.inr (Or.inl h4.1)) (And.intro (show ¬ ((1 : Int32) < 0 ∨ 2 ≤ (1 : Int32).toNatClampNeg) from by decide) (And.intro h4.2.1 (And.intro (And.intro (Or.inr rfl) (And.intro (Or.inr rfl) (And.intro (Or.inr rfl) (And.intro (Or.inl rfl) (And.intro (Or.inl rfl) (And.intro (Or.inl rfl) (And.intro (Or.inl rfl) (And.intro (Or.inl rfl) (And.intro (Or.inl rfl) (And.intro (Or.inl rfl) (And.intro (Or.inl rfl) (And.intro (Or.inl rfl) (And.intro (Or.inl rfl) (And.intro (Or.inl rfl) (And.intro (Or.inl rfl) (And.intro (Or.inl rfl) (And.intro (Or.inl rfl) (And.intro (Or.inl rfl) (And.intro (Or.inl rfl) (And.intro (Or.inl rfl) (And.intro (Or.inl rfl) (And.intro (Or.inl rfl) (And.intro (Or.inl rfl) (And.intro (Or.inl rfl) (trivial))))))))))))))))))))))))) h4.2.2))))))))))
/-- L_law ([I)Z, 45 -/
theorem sg_43_45 {post : Int32 → tp_St → Prop} {σ : tp_St}   (h : tp_E 41 0 [.ref 90, .int 2] [] σ (fun r1 σ1 =>
tp_E 40 0 [.int r1, .int 5] [] σ1 (fun r2 σ2 =>
59 < σ2.2.1 ∧
tp_E 41 0 [.ref 90, .int 3] [] (tp_set σ2 59 0 (1 + r2)) (fun r3 σ3 =>
tp_E 40 0 [.int r3, .int 9] [] σ3 (fun r4 σ4 =>
59 < σ4.2.1 ∧
tp_E 43 78 [.ref 90, .ref 0, .ref 58, .ref 59, .int 0, .null, .null, .null, .null, .null, .null, .null, .null, .null, .null, .null, .null, .null, .null, .null, .null, .null, .null, .null] [] (tp_set σ4 59 1 (1 + r4)) post))))) : tp_E 43 45 [.ref 90, .ref 0, .ref 58, .null, .null, .null, .null, .null, .null, .null, .null, .null, .null, .null, .null, .null, .null, .null, .null, .null, .null, .null, .null, .null] [.ref 59] σ post := tp_E_step (tp_Em h (fun r1 σ1 h1 => tp_Em h1 (fun r2 σ2 h2 => And.intro (Or.inr (Or.inl h2.1)) (And.intro (show ¬ ((0 : Int32) < 0 ∨ 2 ≤ (0 : Int32).toNatClampNeg) from by decide) (tp_Em h2.2 (fun r3 σ3 h3 => tp_Em h3 (fun r4 σ4 h4 => And.intro (Or.inr (Or.inl h4.1)) (And.intro (show ¬ ((1 : Int32) < 0 ∨ 2 ≤ (1 : Int32).toNatClampNeg) from by decide) (Exists.intro [.ref 90, .ref 0, .ref 58, .ref 59, .int 0, .null, .null, .null, .null, .null, .null, .null, .null, .null, .null, .null, .null, .null, .null, .null, .null, .null, .null, .null] (And.intro (And.intro (Or.inr rfl) (And.intro (Or.inr rfl) (And.intro (Or.inr rfl) (And.intro (Or.inr rfl) (And.intro (Or.inr rfl) (And.intro (Or.inr rfl) (And.intro (Or.inr rfl) (And.intro (Or.inr rfl) (And.intro (Or.inr rfl) (And.intro (Or.inr rfl) (And.intro (Or.inr rfl) (And.intro (Or.inr rfl) (And.intro (Or.inr rfl) (And.intro (Or.inr rfl) (And.intro (Or.inr rfl) (And.intro (Or.inr rfl) (And.intro (Or.inr rfl) (And.intro (Or.inr rfl) (And.intro (Or.inr rfl) (And.intro (Or.inr rfl) (And.intro (Or.inr rfl) (And.intro (Or.inr rfl) (And.intro (Or.inr rfl) (And.intro (Or.inr rfl) (trivial))))))))))))))))))))))))) h4.2))))))))))
/-- L_law ([I)Z, 78 -/
theorem sg_43_78 {post : Int32 → tp_St → Prop} {σ : tp_St} (a4 : Int32)  (h : (2 ≤ a4 →
4 = Int32.ofNat (tp_ln σ.2.1) ∧
post 110 σ) ∧ (¬ 2 ≤ a4 →
58 < σ.2.1 ∧
vp_in a4 2 ∧
59 < σ.2.1 ∧
vp_in a4 2 ∧
tp_E 19 0 [.ref 0, .int (σ.1 58 (a4).toNatClampNeg), .int (σ.1 59 (a4).toNatClampNeg)] [] σ (fun r1 σ1 =>
(r1 = a4 →
tp_E 43 78 [.ref 90, .ref 0, .ref 58, .ref 59, .int (a4 + 1), .null, .null, .null, .null, .null, .null, .null, .null, .null, .null, .null, .null, .null, .null, .null, .null, .null, .null, .null] [] σ1 post) ∧ (¬ r1 = a4 →
post 0 σ1)))) : tp_E 43 78 [.ref 90, .ref 0, .ref 58, .ref 59, .int a4, .null, .null, .null, .null, .null, .null, .null, .null, .null, .null, .null, .null, .null, .null, .null, .null, .null, .null, .null] [] σ post := tp_E_step (And.intro (fun c2 => Exists.intro _ (And.intro (tp_wk_rf _) (tp_E_step (And.intro (h.1 c2).1 (And.intro (And.intro (Or.inr rfl) (And.intro (Or.inr rfl) (And.intro (Or.inr rfl) (And.intro (Or.inr rfl) (And.intro (Or.inl rfl) (And.intro (Or.inl rfl) (And.intro (Or.inl rfl) (And.intro (Or.inl rfl) (And.intro (Or.inl rfl) (And.intro (Or.inl rfl) (And.intro (Or.inl rfl) (And.intro (Or.inl rfl) (And.intro (Or.inl rfl) (And.intro (Or.inl rfl) (And.intro (Or.inl rfl) (And.intro (Or.inl rfl) (And.intro (Or.inl rfl) (And.intro (Or.inl rfl) (And.intro (Or.inl rfl) (And.intro (Or.inl rfl) (And.intro (Or.inl rfl) (And.intro (Or.inl rfl) (And.intro (Or.inl rfl) (And.intro (Or.inl rfl) (trivial))))))))))))))))))))))))) (h.1 c2).2))))) (fun c2 => And.intro (Or.inr (Or.inl (h.2 c2).1)) (And.intro (h.2 c2).2.1 (And.intro (Or.inr (Or.inl (h.2 c2).2.2.1)) (And.intro (h.2 c2).2.2.2.1 (tp_Em (h.2 c2).2.2.2.2 (fun r1 σ1 h1 => And.intro (fun c3 => Exists.intro _ (And.intro (tp_wk_rf _) (tp_E_step (Exists.intro [.ref 90, .ref 0, .ref 58, .ref 59, .int (a4 + 1), .null, .null, .null, .null, .null, .null, .null, .null, .null, .null, .null, .null, .null, .null, .null, .null, .null, .null, .null] (And.intro (And.intro (Or.inr rfl) (And.intro (Or.inr rfl) (And.intro (Or.inr rfl) (And.intro (Or.inr rfl) (And.intro (Or.inr rfl) (And.intro (Or.inr rfl) (And.intro (Or.inr rfl) (And.intro (Or.inr rfl) (And.intro (Or.inr rfl) (And.intro (Or.inr rfl) (And.intro (Or.inr rfl) (And.intro (Or.inr rfl) (And.intro (Or.inr rfl) (And.intro (Or.inr rfl) (And.intro (Or.inr rfl) (And.intro (Or.inr rfl) (And.intro (Or.inr rfl) (And.intro (Or.inr rfl) (And.intro (Or.inr rfl) (And.intro (Or.inr rfl) (And.intro (Or.inr rfl) (And.intro (Or.inr rfl) (And.intro (Or.inr rfl) (And.intro (Or.inr rfl) (trivial))))))))))))))))))))))))) (h1.1 c3)))))) (fun c3 => And.intro rfl (h1.2 c3)))))))))
/-- L_law ([I)Z, 112 -/
theorem sg_43_112 {post : Int32 → tp_St → Prop} {σ : tp_St}   (h : 4 = Int32.ofNat (tp_ln σ.2.1) ∧
post 115 σ) : tp_E 43 112 [.ref 90, .ref 0, .ref 58, .ref 59, .null, .null, .null, .null, .null, .null, .null, .null, .null, .null, .null, .null, .null, .null, .null, .null, .null, .null, .null, .null] [.ref 60] σ post := tp_E_step (And.intro h.1 (And.intro (And.intro (Or.inr rfl) (And.intro (Or.inr rfl) (And.intro (Or.inr rfl) (And.intro (Or.inr rfl) (And.intro (Or.inr rfl) (And.intro (Or.inl rfl) (And.intro (Or.inl rfl) (And.intro (Or.inl rfl) (And.intro (Or.inl rfl) (And.intro (Or.inl rfl) (And.intro (Or.inl rfl) (And.intro (Or.inl rfl) (And.intro (Or.inl rfl) (And.intro (Or.inl rfl) (And.intro (Or.inl rfl) (And.intro (Or.inl rfl) (And.intro (Or.inl rfl) (And.intro (Or.inl rfl) (And.intro (Or.inl rfl) (And.intro (Or.inl rfl) (And.intro (Or.inl rfl) (And.intro (Or.inl rfl) (And.intro (Or.inl rfl) (And.intro (Or.inl rfl) (trivial))))))))))))))))))))))))) h.2))
/-- L_law ([I)Z, 117 -/
theorem sg_43_117 {post : Int32 → tp_St → Prop} {σ : tp_St}   (h : 61 < σ.2.1 ∧
61 < σ.2.1 ∧
61 < σ.2.1 ∧
61 < σ.2.1 ∧
8 = Int32.ofNat (tp_ln (tp_set (tp_set (tp_set (tp_set σ 61 0 0) 61 1 1) 61 2 2) 61 3 3).2.1) ∧
post 141 (tp_set (tp_set (tp_set (tp_set σ 61 0 0) 61 1 1) 61 2 2) 61 3 3)) : tp_E 43 117 [.ref 90, .ref 0, .ref 58, .ref 59, .ref 60, .null, .null, .null, .null, .null, .null, .null, .null, .null, .null, .null, .null, .null, .null, .null, .null, .null, .null, .null] [.ref 61] σ post := tp_E_step (And.intro (Or.inr (Or.inl h.1)) (And.intro (show ¬ ((0 : Int32) < 0 ∨ 4 ≤ (0 : Int32).toNatClampNeg) from by decide) (And.intro (Or.inr (Or.inl h.2.1)) (And.intro (show ¬ ((1 : Int32) < 0 ∨ 4 ≤ (1 : Int32).toNatClampNeg) from by decide) (And.intro (Or.inr (Or.inl h.2.2.1)) (And.intro (show ¬ ((2 : Int32) < 0 ∨ 4 ≤ (2 : Int32).toNatClampNeg) from by decide) (And.intro (Or.inr (Or.inl h.2.2.2.1)) (And.intro (show ¬ ((3 : Int32) < 0 ∨ 4 ≤ (3 : Int32).toNatClampNeg) from by decide) (And.intro h.2.2.2.2.1 (And.intro (And.intro (Or.inr rfl) (And.intro (Or.inr rfl) (And.intro (Or.inr rfl) (And.intro (Or.inr rfl) (And.intro (Or.inr rfl) (And.intro (Or.inr rfl) (And.intro (Or.inl rfl) (And.intro (Or.inl rfl) (And.intro (Or.inl rfl) (And.intro (Or.inl rfl) (And.intro (Or.inl rfl) (And.intro (Or.inl rfl) (And.intro (Or.inl rfl) (And.intro (Or.inl rfl) (And.intro (Or.inl rfl) (And.intro (Or.inl rfl) (And.intro (Or.inl rfl) (And.intro (Or.inl rfl) (And.intro (Or.inl rfl) (And.intro (Or.inl rfl) (And.intro (Or.inl rfl) (And.intro (Or.inl rfl) (And.intro (Or.inl rfl) (And.intro (Or.inl rfl) (trivial))))))))))))))))))))))))) h.2.2.2.2.2))))))))))
/-- L_law ([I)Z, 143 -/
theorem sg_43_143 {post : Int32 → tp_St → Prop} {σ : tp_St}   (h : 8 = Int32.ofNat (tp_ln σ.2.1) ∧
post 147 σ) : tp_E 43 143 [.ref 90, .ref 0, .ref 58, .ref 59, .ref 60, .ref 61, .null, .null, .null, .null, .null, .null, .null, .null, .null, .null, .null, .null, .null, .null, .null, .null, .null, .null] [.ref 62] σ post := tp_E_step (And.intro h.1 (And.intro (And.intro (Or.inr rfl) (And.intro (Or.inr rfl) (And.intro (Or.inr rfl) (And.intro (Or.inr rfl) (And.intro (Or.inr rfl) (And.intro (Or.inr rfl) (And.intro (Or.inr rfl) (And.intro (Or.inl rfl) (And.intro (Or.inl rfl) (And.intro (Or.inl rfl) (And.intro (Or.inl rfl) (And.intro (Or.inl rfl) (And.intro (Or.inl rfl) (And.intro (Or.inl rfl) (And.intro (Or.inl rfl) (And.intro (Or.inl rfl) (And.intro (Or.inl rfl) (And.intro (Or.inl rfl) (And.intro (Or.inl rfl) (And.intro (Or.inl rfl) (And.intro (Or.inl rfl) (And.intro (Or.inl rfl) (And.intro (Or.inl rfl) (And.intro (Or.inl rfl) (trivial))))))))))))))))))))))))) h.2))
/-- L_law ([I)Z, 149 -/
theorem sg_43_149 {post : Int32 → tp_St → Prop} {σ : tp_St}   (h : tp_E 43 154 [.ref 90, .ref 0, .ref 58, .ref 59, .ref 60, .ref 61, .ref 62, .ref 63, .int 0, .null, .null, .null, .null, .null, .null, .null, .null, .null, .null, .null, .null, .null, .null, .null] [] σ post) : tp_E 43 149 [.ref 90, .ref 0, .ref 58, .ref 59, .ref 60, .ref 61, .ref 62, .null, .null, .null, .null, .null, .null, .null, .null, .null, .null, .null, .null, .null, .null, .null, .null, .null] [.ref 63] σ post := tp_E_step (Exists.intro [.ref 90, .ref 0, .ref 58, .ref 59, .ref 60, .ref 61, .ref 62, .ref 63, .int 0, .null, .null, .null, .null, .null, .null, .null, .null, .null, .null, .null, .null, .null, .null, .null] (And.intro (And.intro (Or.inr rfl) (And.intro (Or.inr rfl) (And.intro (Or.inr rfl) (And.intro (Or.inr rfl) (And.intro (Or.inr rfl) (And.intro (Or.inr rfl) (And.intro (Or.inr rfl) (And.intro (Or.inr rfl) (And.intro (Or.inr rfl) (And.intro (Or.inr rfl) (And.intro (Or.inr rfl) (And.intro (Or.inr rfl) (And.intro (Or.inr rfl) (And.intro (Or.inr rfl) (And.intro (Or.inr rfl) (And.intro (Or.inr rfl) (And.intro (Or.inr rfl) (And.intro (Or.inr rfl) (And.intro (Or.inr rfl) (And.intro (Or.inr rfl) (And.intro (Or.inr rfl) (And.intro (Or.inr rfl) (And.intro (Or.inr rfl) (And.intro (Or.inr rfl) (trivial))))))))))))))))))))))))) h))
/-- L_law ([I)Z, 154 -/
theorem sg_43_154 {post : Int32 → tp_St → Prop} {σ : tp_St} (a8 : Int32)  (h : (4 ≤ a8 →
60 = Int32.ofNat (tp_ln σ.2.1) ∧
post 321 σ) ∧ (¬ 4 ≤ a8 →
tp_E 41 0 [.ref 90, .int (4 + a8)] [] σ (fun r1 σ1 =>
60 < σ1.2.1 ∧
vp_in a8 4 ∧
60 < σ1.2.1 ∧
vp_in a8 4 ∧
(((tp_set σ1 60 (a8).toNatClampNeg (r1 &&& 1)).1 60 (a8).toNatClampNeg) = 1 →
tp_E 43 192 [.ref 90, .ref 0, .ref 58, .ref 59, .ref 60, .ref 61, .ref 62, .ref 63, .int a8, .null, .null, .null, .null, .null, .null, .null, .null, .null, .null, .null, .null, .null, .null, .null] [.int 1, .int a8, .ref 0] (tp_set σ1 60 (a8).toNatClampNeg (r1 &&& 1)) post) ∧ (¬ ((tp_set σ1 60 (a8).toNatClampNeg (r1 &&& 1)).1 60 (a8).toNatClampNeg) = 1 →
tp_E 43 192 [.ref 90, .ref 0, .ref 58, .ref 59, .ref 60, .ref 61, .ref 62, .ref 63, .int a8, .null, .null, .null, .null, .null, .null, .null, .null, .null, .null, .null, .null, .null, .null, .null] [.int 0, .int a8, .ref 0] (tp_set σ1 60 (a8).toNatClampNeg (r1 &&& 1)) post)))) : tp_E 43 154 [.ref 90, .ref 0, .ref 58, .ref 59, .ref 60, .ref 61, .ref 62, .ref 63, .int a8, .null, .null, .null, .null, .null, .null, .null, .null, .null, .null, .null, .null, .null, .null, .null] [] σ post := tp_E_step (And.intro (fun c2 => Exists.intro _ (And.intro (tp_wk_rf _) (tp_E_step (And.intro (h.1 c2).1 (And.intro (And.intro (Or.inr rfl) (And.intro (Or.inr rfl) (And.intro (Or.inr rfl) (And.intro (Or.inr rfl) (And.intro (Or.inr rfl) (And.intro (Or.inr rfl) (And.intro (Or.inr rfl) (And.intro (Or.inr rfl) (And.intro (Or.inl rfl) (And.intro (Or.inl rfl) (And.intro (Or.inl rfl) (And.intro (Or.inl rfl) (And.intro (Or.inl rfl) (And.intro (Or.inl rfl) (And.intro (Or.inl rfl) (And.intro (Or.inl rfl) (And.intro (Or.inl rfl) (And.intro (Or.inl rfl) (And.intro (Or.inl rfl) (And.intro (Or.inl rfl) (And.intro (Or.inl rfl) (And.intro (Or.inl rfl) (And.intro (Or.inl rfl) (And.intro (Or.inl rfl) (trivial))))))))))))))))))))))))) (h.1 c2).2))))) (fun c2 => tp_Em (h.2 c2) (fun r1 σ1 h1 => And.intro (Or.inr (Or.inl h1.1)) (And.intro h1.2.1 (And.intro (Or.inr (Or.inl h1.2.2.1)) (And.intro h1.2.2.2.1 (And.intro (fun c3 => Exists.intro [.ref 90, .ref 0, .ref 58, .ref 59, .ref 60, .ref 61, .ref 62, .ref 63, .int a8, .null, .null, .null, .null, .null, .null, .null, .null, .null, .null, .null, .null, .null, .null, .null] (And.intro (And.intro (Or.inr rfl) (And.intro (Or.inr rfl) (And.intro (Or.inr rfl) (And.intro (Or.inr rfl) (And.intro (Or.inr rfl) (And.intro (Or.inr rfl) (And.intro (Or.inr rfl) (And.intro (Or.inr rfl) (And.intro (Or.inr rfl) (And.intro (Or.inr rfl) (And.intro (Or.inr rfl) (And.intro (Or.inr rfl) (And.intro (Or.inr rfl) (And.intro (Or.inr rfl) (And.intro (Or.inr rfl) (And.intro (Or.inr rfl) (And.intro (Or.inr rfl) (And.intro (Or.inr rfl) (And.intro (Or.inr rfl) (And.intro (Or.inr rfl) (And.intro (Or.inr rfl) (And.intro (Or.inr rfl) (And.intro (Or.inr rfl) (And.intro (Or.inr rfl) (trivial))))))))))))))))))))))))) (h1.2.2.2.2.1 c3))) (fun c3 => Exists.intro _ (And.intro (tp_wk_rf _) (tp_E_step (Exists.intro [.ref 90, .ref 0, .ref 58, .ref 59, .ref 60, .ref 61, .ref 62, .ref 63, .int a8, .null, .null, .null, .null, .null, .null, .null, .null, .null, .null, .null, .null, .null, .null, .null] (And.intro (And.intro (Or.inr rfl) (And.intro (Or.inr rfl) (And.intro (Or.inr rfl) (And.intro (Or.inr rfl) (And.intro (Or.inr rfl) (And.intro (Or.inr rfl) (And.intro (Or.inr rfl) (And.intro (Or.inr rfl) (And.intro (Or.inr rfl) (And.intro (Or.inr rfl) (And.intro (Or.inr rfl) (And.intro (Or.inr rfl) (And.intro (Or.inr rfl) (And.intro (Or.inr rfl) (And.intro (Or.inr rfl) (And.intro (Or.inr rfl) (And.intro (Or.inr rfl) (And.intro (Or.inr rfl) (And.intro (Or.inr rfl) (And.intro (Or.inr rfl) (And.intro (Or.inr rfl) (And.intro (Or.inr rfl) (And.intro (Or.inr rfl) (And.intro (Or.inr rfl) (trivial))))))))))))))))))))))))) (h1.2.2.2.2.2 c3)))))))))))))
/-- L_law ([I)Z, 192 -/
theorem sg_43_192 {post : Int32 → tp_St → Prop} {σ : tp_St} (a8 : Int32) (s1 : Int32) (s2 : Int32)  (h : tp_E 22 0 [.ref 0, .int s1, .int s2] [] σ (fun r1 σ1 =>
(r1 = a8 →
tp_E 43 205 [.ref 90, .ref 0, .ref 58, .ref 59, .ref 60, .ref 61, .ref 62, .ref 63, .int a8, .int 0, .null, .null, .null, .null, .null, .null, .null, .null, .null, .null, .null, .null, .null, .null] [] σ1 post) ∧ (¬ r1 = a8 →
post 0 σ1))) : tp_E 43 192 [.ref 90, .ref 0, .ref 58, .ref 59, .ref 60, .ref 61, .ref 62, .ref 63, .int a8, .null, .null, .null, .null, .null, .null, .null, .null, .null, .null, .null, .null, .null, .null, .null] [.int s2, .int s1, .ref 0] σ post := tp_E_step (tp_Em h (fun r1 σ1 h1 => And.intro (fun c2 => Exists.intro _ (And.intro (tp_wk_rf _) (tp_E_step (Exists.intro [.ref 90, .ref 0, .ref 58, .ref 59, .ref 60, .ref 61, .ref 62, .ref 63, .int a8, .int 0, .null, .null, .null, .null, .null, .null, .null, .null, .null, .null, .null, .null, .null, .null] (And.intro (And.intro (Or.inr rfl) (And.intro (Or.inr rfl) (And.intro (Or.inr rfl) (And.intro (Or.inr rfl) (And.intro (Or.inr rfl) (And.intro (Or.inr rfl) (And.intro (Or.inr rfl) (And.intro (Or.inr rfl) (And.intro (Or.inr rfl) (And.intro (Or.inr rfl) (And.intro (Or.inr rfl) (And.intro (Or.inr rfl) (And.intro (Or.inr rfl) (And.intro (Or.inr rfl) (And.intro (Or.inr rfl) (And.intro (Or.inr rfl) (And.intro (Or.inr rfl) (And.intro (Or.inr rfl) (And.intro (Or.inr rfl) (And.intro (Or.inr rfl) (And.intro (Or.inr rfl) (And.intro (Or.inr rfl) (And.intro (Or.inr rfl) (And.intro (Or.inr rfl) (trivial))))))))))))))))))))))))) (h1.1 c2)))))) (fun c2 => And.intro rfl (h1.2 c2))))
/-- L_law ([I)Z, 205 -/
theorem sg_43_205 {post : Int32 → tp_St → Prop} {σ : tp_St} (a8 : Int32) (a9 : Int32)  (h : (2 ≤ a9 →
tp_E 43 154 [.ref 90, .ref 0, .ref 58, .ref 59, .ref 60, .ref 61, .ref 62, .ref 63, .int (a8 + 1), .null, .null, .null, .null, .null, .null, .null, .null, .null, .null, .null, .null, .null, .null, .null] [] σ post) ∧ (¬ 2 ≤ a9 →
62 < σ.2.1 ∧
vp_in ((2 * a8) + a9) 8 ∧
tp_E 41 0 [.ref 90, .int ((8 + (2 * a8)) + a9)] [] (tp_set σ 62 (((2 * a8) + a9)).toNatClampNeg (50 * a8)) (fun r1 σ1 =>
tp_E 40 0 [.int r1, .int 10] [] σ1 (fun r2 σ2 =>
63 < σ2.2.1 ∧
vp_in ((2 * a8) + a9) 8 ∧
62 < σ2.2.1 ∧
vp_in ((2 * a8) + a9) 8 ∧
63 < σ2.2.1 ∧
vp_in ((2 * a8) + a9) 8 ∧
62 < σ2.2.1 ∧
vp_in ((2 * a8) + a9) 8 ∧
tp_E 20 0 [.ref 0, .int a8, .int a9, .int (σ2.1 62 (((2 * a8) + a9)).toNatClampNeg), .int (((tp_set σ2 63 (((2 * a8) + a9)).toNatClampNeg (((50 * a8) + 3) + r2)).1 63 (((2 * a8) + a9)).toNatClampNeg) - (σ2.1 62 (((2 * a8) + a9)).toNatClampNeg)), .null] [] (tp_set σ2 63 (((2 * a8) + a9)).toNatClampNeg (((50 * a8) + 3) + r2)) (fun r3 σ3 =>
(r3 = 0 →
tp_E 43 205 [.ref 90, .ref 0, .ref 58, .ref 59, .ref 60, .ref 61, .ref 62, .ref 63, .int a8, .int (a9 + 1), .null, .null, .null, .null, .null, .null, .null, .null, .null, .null, .null, .null, .null, .null] [] σ3 post) ∧ (¬ r3 = 0 →
post 0 σ3)))))) : tp_E 43 205 [.ref 90, .ref 0, .ref 58, .ref 59, .ref 60, .ref 61, .ref 62, .ref 63, .int a8, .int a9, .null, .null, .null, .null, .null, .null, .null, .null, .null, .null, .null, .null, .null, .null] [] σ post := tp_E_step (And.intro (fun c4 => Exists.intro _ (And.intro (tp_wk_rf _) (tp_E_step (Exists.intro [.ref 90, .ref 0, .ref 58, .ref 59, .ref 60, .ref 61, .ref 62, .ref 63, .int (a8 + 1), .null, .null, .null, .null, .null, .null, .null, .null, .null, .null, .null, .null, .null, .null, .null] (And.intro (And.intro (Or.inr rfl) (And.intro (Or.inr rfl) (And.intro (Or.inr rfl) (And.intro (Or.inr rfl) (And.intro (Or.inr rfl) (And.intro (Or.inr rfl) (And.intro (Or.inr rfl) (And.intro (Or.inr rfl) (And.intro (Or.inr rfl) (And.intro (Or.inl rfl) (And.intro (Or.inr rfl) (And.intro (Or.inr rfl) (And.intro (Or.inr rfl) (And.intro (Or.inr rfl) (And.intro (Or.inr rfl) (And.intro (Or.inr rfl) (And.intro (Or.inr rfl) (And.intro (Or.inr rfl) (And.intro (Or.inr rfl) (And.intro (Or.inr rfl) (And.intro (Or.inr rfl) (And.intro (Or.inr rfl) (And.intro (Or.inr rfl) (And.intro (Or.inr rfl) (trivial))))))))))))))))))))))))) (h.1 c4)))))) (fun c4 => And.intro (Or.inr (Or.inl (h.2 c4).1)) (And.intro (h.2 c4).2.1 (tp_Em (h.2 c4).2.2 (fun r1 σ1 h1 => tp_Em h1 (fun r2 σ2 h2 => And.intro (Or.inr (Or.inl h2.1)) (And.intro h2.2.1 (And.intro (Or.inr (Or.inl h2.2.2.1)) (And.intro h2.2.2.2.1 (And.intro (Or.inr (Or.inl h2.2.2.2.2.1)) (And.intro h2.2.2.2.2.2.1 (And.intro (Or.inr (Or.inl h2.2.2.2.2.2.2.1)) (And.intro h2.2.2.2.2.2.2.2.1 (tp_Em h2.2.2.2.2.2.2.2.2 (fun r3 σ3 h3 => And.intro (fun c5 => Exists.intro _ (And.intro (tp_wk_rf _) (tp_E_step (Exists.intro [.ref 90, .ref 0, .ref 58, .ref 59, .ref 60, .ref 61, .ref 62, .ref 63, .int a8, .int (a9 + 1), .null, .null, .null, .null, .null, .null, .null, .null, .null, .null, .null, .null, .null, .null] (And.intro (And.intro (Or.inr rfl) (And.intro (Or.inr rfl) (And.intro (Or.inr rfl) (And.intro (Or.inr rfl) (And.intro (Or.inr rfl) (And.intro (Or.inr rfl) (And.intro (Or.inr rfl) (And.intro (Or.inr rfl) (And.intro (Or.inr rfl) (And.intro (Or.inr rfl) (And.intro (Or.inr rfl) (And.intro (Or.inr rfl) (And.intro (Or.inr rfl) (And.intro (Or.inr rfl) (And.intro (Or.inr rfl) (And.intro (Or.inr rfl) (And.intro (Or.inr rfl) (And.intro (Or.inr rfl) (And.intro (Or.inr rfl) (And.intro (Or.inr rfl) (And.intro (Or.inr rfl) (And.intro (Or.inr rfl) (And.intro (Or.inr rfl) (And.intro (Or.inr rfl) (trivial))))))))))))))))))))))))) (h3.1 c5)))))) (fun c5 => And.intro rfl (h3.2 c5)))))))))))))))))
/-- L_law ([I)Z, 323 -/
theorem sg_43_323 {post : Int32 → tp_St → Prop} {σ : tp_St}   (h : tp_E 42 0 [.ref 0, .ref 90, .int 20, .int 4, .int 2, .ref 60, .ref 64, .ref 62, .ref 63, .ref 61, .null, .null, .null, .null, .null, .null, .null, .null, .null, .null, .null] [] σ (fun r1 σ1 =>
(0 ≤ r1 →
tp_E 43 359 [.null, .ref 0, .ref 58, .ref 59, .ref 60, .null, .null, .null, .ref 64, .int r1, .int 0, .int 0, .null, .null, .null, .null, .null, .null, .null, .null, .null, .null, .null, .null] [] σ1 post) ∧ (¬ 0 ≤ r1 →
post 0 σ1))) : tp_E 43 323 [.ref 90, .ref 0, .ref 58, .ref 59, .ref 60, .ref 61, .ref 62, .ref 63, .null, .null, .null, .null, .null, .null, .null, .null, .null, .null, .null, .null, .null, .null, .null, .null] [.ref 64] σ post := tp_E_step (tp_Em h (fun r1 σ1 h1 => And.intro (fun c2 => Exists.intro _ (And.intro (tp_wk_rf _) (tp_E_step (Exists.intro [.null, .ref 0, .ref 58, .ref 59, .ref 60, .null, .null, .null, .ref 64, .int r1, .int 0, .int 0, .null, .null, .null, .null, .null, .null, .null, .null, .null, .null, .null, .null] (And.intro (And.intro (Or.inl rfl) (And.intro (Or.inr rfl) (And.intro (Or.inr rfl) (And.intro (Or.inr rfl) (And.intro (Or.inr rfl) (And.intro (Or.inl rfl) (And.intro (Or.inl rfl) (And.intro (Or.inl rfl) (And.intro (Or.inr rfl) (And.intro (Or.inr rfl) (And.intro (Or.inr rfl) (And.intro (Or.inr rfl) (And.intro (Or.inr rfl) (And.intro (Or.inr rfl) (And.intro (Or.inr rfl) (And.intro (Or.inr rfl) (And.intro (Or.inr rfl) (And.intro (Or.inr rfl) (And.intro (Or.inr rfl) (And.intro (Or.inr rfl) (And.intro (Or.inr rfl) (And.intro (Or.inr rfl) (And.intro (Or.inr rfl) (And.intro (Or.inr rfl) (trivial))))))))))))))))))))))))) (h1.1 c2)))))) (fun c2 => And.intro rfl (h1.2 c2))))
/-- L_law ([I)Z, 359 -/
theorem sg_43_359 {post : Int32 → tp_St → Prop} {σ : tp_St} (a9 : Int32) (a10 : Int32) (a11 : Int32)  (h : (a9 ≤ a11 →
tp_E 43 394 [.null, .ref 0, .null, .ref 59, .ref 60, .null, .null, .null, .ref 64, .int a9, .int a10, .int 0, .int 0, .null, .null, .null, .null, .null, .null, .null, .null, .null, .null, .null] [] σ post) ∧ (¬ a9 ≤ a11 →
64 < σ.2.1 ∧
vp_in ((4 * a11) + 2) 60 ∧
58 < σ.2.1 ∧
vp_in (σ.1 64 (((4 * a11) + 2)).toNatClampNeg) 2 ∧
tp_E 43 359 [.null, .ref 0, .ref 58, .ref 59, .ref 60, .null, .null, .null, .ref 64, .int a9, .int (a10 + (σ.1 58 ((σ.1 64 (((4 * a11) + 2)).toNatClampNeg)).toNatClampNeg)), .int (a11 + 1), .null, .null, .null, .null, .null, .null, .null, .null, .null, .null, .null, .null] [] σ post)) : tp_E 43 359 [.null, .ref 0, .ref 58, .ref 59, .ref 60, .null, .null, .null, .ref 64, .int a9, .int a10, .int a11, .null, .null, .null, .null, .null, .null, .null, .null, .null, .null, .null, .null] [] σ post := tp_E_step (And.intro (fun c1 => Exists.intro _ (And.intro (tp_wk_rf _) (tp_E_step (Exists.intro [.null, .ref 0, .null, .ref 59, .ref 60, .null, .null, .null, .ref 64, .int a9, .int a10, .int 0, .int 0, .null, .null, .null, .null, .null, .null, .null, .null, .null, .null, .null] (And.intro (And.intro (Or.inr rfl) (And.intro (Or.inr rfl) (And.intro (Or.inl rfl) (And.intro (Or.inr rfl) (And.intro (Or.inr rfl) (And.intro (Or.inr rfl) (And.intro (Or.inr rfl) (And.intro (Or.inr rfl) (And.intro (Or.inr rfl) (And.intro (Or.inr rfl) (And.intro (Or.inr rfl) (And.intro (Or.inr rfl) (And.intro (Or.inr rfl) (And.intro (Or.inr rfl) (And.intro (Or.inr rfl) (And.intro (Or.inr rfl) (And.intro (Or.inr rfl) (And.intro (Or.inr rfl) (And.intro (Or.inr rfl) (And.intro (Or.inr rfl) (And.intro (Or.inr rfl) (And.intro (Or.inr rfl) (And.intro (Or.inr rfl) (And.intro (Or.inr rfl) (trivial))))))))))))))))))))))))) (h.1 c1)))))) (fun c1 => And.intro (Or.inr (Or.inl (h.2 c1).1)) (And.intro (h.2 c1).2.1 (And.intro (Or.inr (Or.inl (h.2 c1).2.2.1)) (And.intro (h.2 c1).2.2.2.1 (Exists.intro [.null, .ref 0, .ref 58, .ref 59, .ref 60, .null, .null, .null, .ref 64, .int a9, .int (a10 + (σ.1 58 ((σ.1 64 (((4 * a11) + 2)).toNatClampNeg)).toNatClampNeg)), .int (a11 + 1), .null, .null, .null, .null, .null, .null, .null, .null, .null, .null, .null, .null] (And.intro (And.intro (Or.inr rfl) (And.intro (Or.inr rfl) (And.intro (Or.inr rfl) (And.intro (Or.inr rfl) (And.intro (Or.inr rfl) (And.intro (Or.inr rfl) (And.intro (Or.inr rfl) (And.intro (Or.inr rfl) (And.intro (Or.inr rfl) (And.intro (Or.inr rfl) (And.intro (Or.inr rfl) (And.intro (Or.inr rfl) (And.intro (Or.inr rfl) (And.intro (Or.inr rfl) (And.intro (Or.inr rfl) (And.intro (Or.inr rfl) (And.intro (Or.inr rfl) (And.intro (Or.inr rfl) (And.intro (Or.inr rfl) (And.intro (Or.inr rfl) (And.intro (Or.inr rfl) (And.intro (Or.inr rfl) (And.intro (Or.inr rfl) (And.intro (Or.inr rfl) (trivial))))))))))))))))))))))))) (h.2 c1).2.2.2.2)))))))
/-- L_law ([I)Z, 394 -/
theorem sg_43_394 {post : Int32 → tp_St → Prop} {σ : tp_St} (a9 : Int32) (a10 : Int32) (a11 : Int32) (a12 : Int32)  (h : (4 ≤ a12 →
(a11 = a10 →
tp_E 43 429 [.null, .ref 0, .null, .ref 59, .ref 60, .null, .null, .null, .ref 64, .int a9, .null, .null, .int 0, .null, .null, .null, .null, .null, .null, .null, .null, .null, .null, .null] [] σ post) ∧ (¬ a11 = a10 →
post 0 σ)) ∧ (¬ 4 ≤ a12 →
tp_E 26 0 [.ref 0, .int a12] [] σ (fun r1 σ1 =>
tp_E 43 394 [.null, .ref 0, .null, .ref 59, .ref 60, .null, .null, .null, .ref 64, .int a9, .int a10, .int (a11 + r1), .int (a12 + 1), .null, .null, .null, .null, .null, .null, .null, .null, .null, .null, .null] [] σ1 post))) : tp_E 43 394 [.null, .ref 0, .null, .ref 59, .ref 60, .null, .null, .null, .ref 64, .int a9, .int a10, .int a11, .int a12, .null, .null, .null, .null, .null, .null, .null, .null, .null, .null, .null] [] σ post := tp_E_step (And.intro (fun c2 => Exists.intro _ (And.intro (tp_wk_rf _) (tp_E_step (And.intro (fun c3 => Exists.intro _ (And.intro (tp_wk_rf _) (tp_E_step (Exists.intro [.null, .ref 0, .null, .ref 59, .ref 60, .null, .null, .null, .ref 64, .int a9, .null, .null, .int 0, .null, .null, .null, .null, .null, .null, .null, .null, .null, .null, .null] (And.intro (And.intro (Or.inr rfl) (And.intro (Or.inr rfl) (And.intro (Or.inr rfl) (And.intro (Or.inr rfl) (And.intro (Or.inr rfl) (And.intro (Or.inr rfl) (And.intro (Or.inr rfl) (And.intro (Or.inr rfl) (And.intro (Or.inr rfl) (And.intro (Or.inr rfl) (And.intro (Or.inl rfl) (And.intro (Or.inl rfl) (And.intro (Or.inr rfl) (And.intro (Or.inr rfl) (And.intro (Or.inr rfl) (And.intro (Or.inr rfl) (And.intro (Or.inr rfl) (And.intro (Or.inr rfl) (And.intro (Or.inr rfl) (And.intro (Or.inr rfl) (And.intro (Or.inr rfl) (And.intro (Or.inr rfl) (And.intro (Or.inr rfl) (And.intro (Or.inr rfl) (trivial))))))))))))))))))))))))) ((h.1 c2).1 c3)))))) (fun c3 => And.intro rfl ((h.1 c2).2 c3)))))) (fun c2 => tp_Em (h.2 c2) (fun r1 σ1 h1 => Exists.intro [.null, .ref 0, .null, .ref 59, .ref 60, .null, .null, .null, .ref 64, .int a9, .int a10, .int (a11 + r1), .int (a12 + 1), .null, .null, .null, .null, .null, .null, .null, .null, .null, .null, .null] (And.intro (And.intro (Or.inr rfl) (And.intro (Or.inr rfl) (And.intro (Or.inr rfl) (And.intro (Or.inr rfl) (And.intro (Or.inr rfl) (And.intro (Or.inr rfl) (And.intro (Or.inr rfl) (And.intro (Or.inr rfl) (And.intro (Or.inr rfl) (And.intro (Or.inr rfl) (And.intro (Or.inr rfl) (And.intro (Or.inr rfl) (And.intro (Or.inr rfl) (And.intro (Or.inr rfl) (And.intro (Or.inr rfl) (And.intro (Or.inr rfl) (And.intro (Or.inr rfl) (And.intro (Or.inr rfl) (And.intro (Or.inr rfl) (And.intro (Or.inr rfl) (And.intro (Or.inr rfl) (And.intro (Or.inr rfl) (And.intro (Or.inr rfl) (And.intro (Or.inr rfl) (trivial))))))))))))))))))))))))) h1))))
/-- L_law ([I)Z, 429 -/
theorem sg_43_429 {post : Int32 → tp_St → Prop} {σ : tp_St} (a9 : Int32) (a12 : Int32)  (h : (9 ≤ a12 →
tp_E 43 903 [.null, .ref 0, .null, .null, .null, .null, .null, .null, .ref 64, .null, .null, .null, .int (a9 - 1), .null, .null, .null, .null, .null, .null, .null, .null, .null, .null, .null] [] σ post) ∧ (¬ 9 ≤ a12 →
tp_E 43 439 [.null, .ref 0, .null, .ref 59, .ref 60, .null, .null, .null, .ref 64, .int a9, .null, .null, .int a12, .int 0, .null, .null, .null, .null, .null, .null, .null, .null, .null, .null] [] σ post)) : tp_E 43 429 [.null, .ref 0, .null, .ref 59, .ref 60, .null, .null, .null, .ref 64, .int a9, .null, .null, .int a12, .null, .null, .null, .null, .null, .null, .null, .null, .null, .null, .null] [] σ post := tp_E_step (And.intro (fun c1 => Exists.intro _ (And.intro (tp_wk_rf _) (tp_E_step (Exists.intro [.null, .ref 0, .null, .null, .null, .null, .null, .null, .ref 64, .null, .null, .null, .int (a9 - 1), .null, .null, .null, .null, .null, .null, .null, .null, .null, .null, .null] (And.intro (And.intro (Or.inr rfl) (And.intro (Or.inr rfl) (And.intro (Or.inr rfl) (And.intro (Or.inl rfl) (And.intro (Or.inl rfl) (And.intro (Or.inr rfl) (And.intro (Or.inr rfl) (And.intro (Or.inr rfl) (And.intro (Or.inr rfl) (And.intro (Or.inl rfl) (And.intro (Or.inr rfl) (And.intro (Or.inr rfl) (And.intro (Or.inr rfl) (And.intro (Or.inr rfl) (And.intro (Or.inr rfl) (And.intro (Or.inr rfl) (And.intro (Or.inr rfl) (And.intro (Or.inr rfl) (And.intro (Or.inr rfl) (And.intro (Or.inr rfl) (And.intro (Or.inr rfl) (And.intro (Or.inr rfl) (And.intro (Or.inr rfl) (And.intro (Or.inr rfl) (trivial))))))))))))))))))))))))) (h.1 c1)))))) (fun c1 => Exists.intro [.null, .ref 0, .null, .ref 59, .ref 60, .null, .null, .null, .ref 64, .int a9, .null, .null, .int a12, .int 0, .null, .null, .null, .null, .null, .null, .null, .null, .null, .null] (And.intro (And.intro (Or.inr rfl) (And.intro (Or.inr rfl) (And.intro (Or.inr rfl) (And.intro (Or.inr rfl) (And.intro (Or.inr rfl) (And.intro (Or.inr rfl) (And.intro (Or.inr rfl) (And.intro (Or.inr rfl) (And.intro (Or.inr rfl) (And.intro (Or.inr rfl) (And.intro (Or.inr rfl) (And.intro (Or.inr rfl) (And.intro (Or.inr rfl) (And.intro (Or.inr rfl) (And.intro (Or.inr rfl) (And.intro (Or.inr rfl) (And.intro (Or.inr rfl) (And.intro (Or.inr rfl) (And.intro (Or.inr rfl) (And.intro (Or.inr rfl) (And.intro (Or.inr rfl) (And.intro (Or.inr rfl) (And.intro (Or.inr rfl) (And.intro (Or.inr rfl) (trivial))))))))))))))))))))))))) (h.2 c1))))
/-- L_law ([I)Z, 439 -/
theorem sg_43_439 {post : Int32 → tp_St → Prop} {σ : tp_St} (a9 : Int32) (a12 : Int32) (a13 : Int32)  (h : (2 ≤ a13 →
tp_E 43 429 [.null, .ref 0, .null, .ref 59, .ref 60, .null, .null, .null, .ref 64, .int a9, .null, .null, .int (a12 + 1), .null, .null, .null, .null, .null, .null, .null, .null, .null, .null, .null] [] σ post) ∧ (¬ 2 ≤ a13 →
tp_E 43 454 [.null, .ref 0, .null, .ref 59, .ref 60, .null, .null, .null, .ref 64, .int a9, .null, .null, .int a12, .int a13, .int 0, .int 0, .int 0, .null, .null, .null, .null, .null, .null, .null] [] σ post)) : tp_E 43 439 [.null, .ref 0, .null, .ref 59, .ref 60, .null, .null, .null, .ref 64, .int a9, .null, .null, .int a12, .int a13, .null, .null, .null, .null, .null, .null, .null, .null, .null, .null] [] σ post := tp_E_step (And.intro (fun c1 => Exists.intro _ (And.intro (tp_wk_rf _) (tp_E_step (Exists.intro [.null, .ref 0, .null, .ref 59, .ref 60, .null, .null, .null, .ref 64, .int a9, .null, .null, .int (a12 + 1), .null, .null, .null, .null, .null, .null, .null, .null, .null, .null, .null] (And.intro (And.intro (Or.inr rfl) (And.intro (Or.inr rfl) (And.intro (Or.inr rfl) (And.intro (Or.inr rfl) (And.intro (Or.inr rfl) (And.intro (Or.inr rfl) (And.intro (Or.inr rfl) (And.intro (Or.inr rfl) (And.intro (Or.inr rfl) (And.intro (Or.inr rfl) (And.intro (Or.inr rfl) (And.intro (Or.inr rfl) (And.intro (Or.inr rfl) (And.intro (Or.inl rfl) (And.intro (Or.inr rfl) (And.intro (Or.inr rfl) (And.intro (Or.inr rfl) (And.intro (Or.inr rfl) (And.intro (Or.inr rfl) (And.intro (Or.inr rfl) (And.intro (Or.inr rfl) (And.intro (Or.inr rfl) (And.intro (Or.inr rfl) (And.intro (Or.inr rfl) (trivial))))))))))))))))))))))))) (h.1 c1)))))) (fun c1 => Exists.intro [.null, .ref 0, .null, .ref 59, .ref 60, .null, .null, .null, .ref 64, .int a9, .null, .null, .int a12, .int a13, .int 0, .int 0, .int 0, .null, .null, .null, .null, .null, .null, .null] (And.intro (And.intro (Or.inr rfl) (And.intro (Or.inr rfl) (And.intro (Or.inr rfl) (And.intro (Or.inr rfl) (And.intro (Or.inr rfl) (And.intro (Or.inr rfl) (And.intro (Or.inr rfl) (And.intro (Or.inr rfl) (And.intro (Or.inr rfl) (And.intro (Or.inr rfl) (And.intro (Or.inr rfl) (And.intro (Or.inr rfl) (And.intro (Or.inr rfl) (And.intro (Or.inr rfl) (And.intro (Or.inr rfl) (And.intro (Or.inr rfl) (And.intro (Or.inr rfl) (And.intro (Or.inr rfl) (And.intro (Or.inr rfl) (And.intro (Or.inr rfl) (And.intro (Or.inr rfl) (And.intro (Or.inr rfl) (And.intro (Or.inr rfl) (And.intro (Or.inr rfl) (trivial))))))))))))))))))))))))) (h.2 c1))))
/-- L_law ([I)Z, 454 -/
theorem sg_43_454 {post : Int32 → tp_St → Prop} {σ : tp_St} (a9 : Int32) (a12 : Int32) (a13 : Int32) (a14 : Int32) (a15 : Int32) (a16 : Int32)  (h : (4 ≤ a16 →
(a13 = 0 →
tp_E 43 850 [.null, .ref 0, .null, .ref 59, .ref 60, .null, .null, .null, .ref 64, .int a9, .null, .null, .int a12, .int a13, .int a14, .int a15, .null, .null, .null, .null, .null, .null, .null, .null] [.int 1, .ref 0] σ post) ∧ (¬ a13 = 0 →
tp_E 43 850 [.null, .ref 0, .null, .ref 59, .ref 60, .null, .null, .null, .ref 64, .int a9, .null, .null, .int a12, .int a13, .int a14, .int a15, .null, .null, .null, .null, .null, .null, .null, .null] [.int 0, .ref 0] σ post)) ∧ (¬ 4 ≤ a16 →
60 < σ.2.1 ∧
vp_in a16 4 ∧
((σ.1 60 (a16).toNatClampNeg) = 1 →
tp_E 43 474 [.null, .ref 0, .null, .ref 59, .ref 60, .null, .null, .null, .ref 64, .int a9, .null, .null, .int a12, .int a13, .int a14, .int a15, .int a16, .null, .null, .null, .null, .null, .null, .null] [.int 1] σ post) ∧ (¬ (σ.1 60 (a16).toNatClampNeg) = 1 →
tp_E 43 474 [.null, .ref 0, .null, .ref 59, .ref 60, .null, .null, .null, .ref 64, .int a9, .null, .null, .int a12, .int a13, .int a14, .int a15, .int a16, .null, .null, .null, .null, .null, .null, .null] [.int 0] σ post))) : tp_E 43 454 [.null, .ref 0, .null, .ref 59, .ref 60, .null, .null, .null, .ref 64, .int a9, .null, .null, .int a12, .int a13, .int a14, .int a15, .int a16, .null, .null, .null, .null, .null, .null, .null] [] σ post := tp_E_step (And.intro (fun c1 => Exists.intro _ (And.intro (tp_wk_rf _) (tp_E_step (And.intro (fun c2 => Exists.intro [.null, .ref 0, .null, .ref 59, .ref 60, .null, .null, .null, .ref 64, .int a9, .null, .null, .int a12, .int a13, .int a14, .int a15, .null, .null, .null, .null, .null, .null, .null, .null] (And.intro (And.intro (Or.inr rfl) (And.intro (Or.inr rfl) (And.intro (Or.inr rfl) (And.intro (Or.inr rfl) (And.intro (Or.inr rfl) (And.intro (Or.inr rfl) (And.intro (Or.inr rfl) (And.intro (Or.inr rfl) (And.intro (Or.inr rfl) (And.intro (Or.inr rfl) (And.intro (Or.inr rfl) (And.intro (Or.inr rfl) (And.intro (Or.inr rfl) (And.intro (Or.inr rfl) (And.intro (Or.inr rfl) (And.intro (Or.inr rfl) (And.intro (Or.inl rfl) (And.intro (Or.inr rfl) (And.intro (Or.inr rfl) (And.intro (Or.inr rfl) (And.intro (Or.inr rfl) (And.intro (Or.inr rfl) (And.intro (Or.inr rfl) (And.intro (Or.inr rfl) (trivial))))))))))))))))))))))))) ((h.1 c1).1 c2))) (fun c2 => Exists.intro _ (And.intro (tp_wk_rf _) (tp_E_step (Exists.intro [.null, .ref 0, .null, .ref 59, .ref 60, .null, .null, .null, .ref 64, .int a9, .null, .null, .int a12, .int a13, .int a14, .int a15, .null, .null, .null, .null, .null, .null, .null, .null] (And.intro (And.intro (Or.inr rfl) (And.intro (Or.inr rfl) (And.intro (Or.inr rfl) (And.intro (Or.inr rfl) (And.intro (Or.inr rfl) (And.intro (Or.inr rfl) (And.intro (Or.inr rfl) (And.intro (Or.inr rfl) (And.intro (Or.inr rfl) (And.intro (Or.inr rfl) (And.intro (Or.inr rfl) (And.intro (Or.inr rfl) (And.intro (Or.inr rfl) (And.intro (Or.inr rfl) (And.intro (Or.inr rfl) (And.intro (Or.inr rfl) (And.intro (Or.inl rfl) (And.intro (Or.inr rfl) (And.intro (Or.inr rfl) (And.intro (Or.inr rfl) (And.intro (Or.inr rfl) (And.intro (Or.inr rfl) (And.intro (Or.inr rfl) (And.intro (Or.inr rfl) (trivial))))))))))))))))))))))))) ((h.1 c1).2 c2)))))))))) (fun c1 => And.intro (Or.inr (Or.inl (h.2 c1).1)) (And.intro (h.2 c1).2.1 (And.intro (fun c3 => Exists.intro [.null, .ref 0, .null, .ref 59, .ref 60, .null, .null, .null, .ref 64, .int a9, .null, .null, .int a12, .int a13, .int a14, .int a15, .int a16, .null, .null, .null, .null, .null, .null, .null] (And.intro (And.intro (Or.inr rfl) (And.intro (Or.inr rfl) (And.intro (Or.inr rfl) (And.intro (Or.inr rfl) (And.intro (Or.inr rfl) (And.intro (Or.inr rfl) (And.intro (Or.inr rfl) (And.intro (Or.inr rfl) (And.intro (Or.inr rfl) (And.intro (Or.inr rfl) (And.intro (Or.inr rfl) (And.intro (Or.inr rfl) (And.intro (Or.inr rfl) (And.intro (Or.inr rfl) (And.intro (Or.inr rfl) (And.intro (Or.inr rfl) (And.intro (Or.inr rfl) (And.intro (Or.inr rfl) (And.intro (Or.inr rfl) (And.intro (Or.inr rfl) (And.intro (Or.inr rfl) (And.intro (Or.inr rfl) (And.intro (Or.inr rfl) (And.intro (Or.inr rfl) (trivial))))))))))))))))))))))))) ((h.2 c1).2.2.1 c3))) (fun c3 => Exists.intro _ (And.intro (tp_wk_rf _) (tp_E_step (Exists.intro [.null, .ref 0, .null, .ref 59, .ref 60, .null, .null, .null, .ref 64, .int a9, .null, .null, .int a12, .int a13, .int a14, .int a15, .int a16, .null, .null, .null, .null, .null, .null, .null] (And.intro (And.intro (Or.inr rfl) (And.intro (Or.inr rfl) (And.intro (Or.inr rfl) (And.intro (Or.inr rfl) (And.intro (Or.inr rfl) (And.intro (Or.inr rfl) (And.intro (Or.inr rfl) (And.intro (Or.inr rfl) (And.intro (Or.inr rfl) (And.intro (Or.inr rfl) (And.intro (Or.inr rfl) (And.intro (Or.inr rfl) (And.intro (Or.inr rfl) (And.intro (Or.inr rfl) (And.intro (Or.inr rfl) (And.intro (Or.inr rfl) (And.intro (Or.inr rfl) (And.intro (Or.inr rfl) (And.intro (Or.inr rfl) (And.intro (Or.inr rfl) (And.intro (Or.inr rfl) (And.intro (Or.inr rfl) (And.intro (Or.inr rfl) (And.intro (Or.inr rfl) (trivial))))))))))))))))))))))))) ((h.2 c1).2.2.2 c3))))))))))
/-- L_law ([I)Z, 474 -/
theorem sg_43_474 {post : Int32 → tp_St → Prop} {σ : tp_St} (a9 : Int32) (a12 : Int32) (a13 : Int32) (a14 : Int32) (a15 : Int32) (a16 : Int32) (s0 : Int32)  (h : (a13 = 0 →
tp_E 43 484 [.null, .ref 0, .null, .ref 59, .ref 60, .null, .null, .null, .ref 64, .int a9, .null, .null, .int a12, .int a13, .int a14, .int a15, .int a16, .null, .null, .null, .null, .null, .null, .null] [.int 1, .int s0] σ post) ∧ (¬ a13 = 0 →
tp_E 43 484 [.null, .ref 0, .null, .ref 59, .ref 60, .null, .null, .null, .ref 64, .int a9, .null, .null, .int a12, .int a13, .int a14, .int a15, .int a16, .null, .null, .null, .null, .null, .null, .null] [.int 0, .int s0] σ post)) : tp_E 43 474 [.null, .ref 0, .null, .ref 59, .ref 60, .null, .null, .null, .ref 64, .int a9, .null, .null, .int a12, .int a13, .int a14, .int a15, .int a16, .null, .null, .null, .null, .null, .null, .null] [.int s0] σ post := tp_E_step (And.intro (fun c1 => Exists.intro [.null, .ref 0, .null, .ref 59, .ref 60, .null, .null, .null, .ref 64, .int a9, .null, .null, .int a12, .int a13, .int a14, .int a15, .int a16, .null, .null, .null, .null, .null, .null, .null] (And.intro (And.intro (Or.inr rfl) (And.intro (Or.inr rfl) (And.intro (Or.inr rfl) (And.intro (Or.inr rfl) (And.intro (Or.inr rfl) (And.intro (Or.inr rfl) (And.intro (Or.inr rfl) (And.intro (Or.inr rfl) (And.intro (Or.inr rfl) (And.intro (Or.inr rfl) (And.intro (Or.inr rfl) (And.intro (Or.inr rfl) (And.intro (Or.inr rfl) (And.intro (Or.inr rfl) (And.intro (Or.inr rfl) (And.intro (Or.inr rfl) (And.intro (Or.inr rfl) (And.intro (Or.inr rfl) (And.intro (Or.inr rfl) (And.intro (Or.inr rfl) (And.intro (Or.inr rfl) (And.intro (Or.inr rfl) (And.intro (Or.inr rfl) (And.intro (Or.inr rfl) (trivial))))))))))))))))))))))))) (h.1 c1))) (fun c1 => Exists.intro _ (And.intro (tp_wk_rf _) (tp_E_step (Exists.intro [.null, .ref 0, .null, .ref 59, .ref 60, .null, .null, .null, .ref 64, .int a9, .null, .null, .int a12, .int a13, .int a14, .int a15, .int a16, .null, .null, .null, .null, .null, .null, .null] (And.intro (And.intro (Or.inr rfl) (And.intro (Or.inr rfl) (And.intro (Or.inr rfl) (And.intro (Or.inr rfl) (And.intro (Or.inr rfl) (And.intro (Or.inr rfl) (And.intro (Or.inr rfl) (And.intro (Or.inr rfl) (And.intro (Or.inr rfl) (And.intro (Or.inr rfl) (And.intro (Or.inr rfl) (And.intro (Or.inr rfl) (And.intro (Or.inr rfl) (And.intro (Or.inr rfl) (And.intro (Or.inr rfl) (And.intro (Or.inr rfl) (And.intro (Or.inr rfl) (And.intro (Or.inr rfl) (And.intro (Or.inr rfl) (And.intro (Or.inr rfl) (And.intro (Or.inr rfl) (And.intro (Or.inr rfl) (And.intro (Or.inr rfl) (And.intro (Or.inr rfl) (trivial))))))))))))))))))))))))) (h.2 c1)))))))
/-- L_law ([I)Z, 484 -/
theorem sg_43_484 {post : Int32 → tp_St → Prop} {σ : tp_St} (a9 : Int32) (a12 : Int32) (a13 : Int32) (a14 : Int32) (a15 : Int32) (a16 : Int32) (s0 : Int32) (s1 : Int32)  (h : (s0 = s1 →
tp_E 27 0 [.ref 0, .int a16, .int a12, .int 0] [] σ (fun r1 σ1 =>
tp_E 27 0 [.ref 0, .int a16, .int a12, .int 1] [] σ1 (fun r2 σ2 =>
60 < σ2.2.1 ∧
vp_in a16 4 ∧
((σ2.1 60 (a16).toNatClampNeg) = 1 →
tp_E 43 538 [.null, .ref 0, .null, .ref 59, .ref 60, .null, .null, .null, .ref 64, .int a9, .null, .null, .int a12, .int a13, .int (a14 + r1), .int (a15 + r2), .int a16, .null, .null, .null, .null, .null, .null, .null] [.int (a12 - 1)] σ2 post) ∧ (¬ (σ2.1 60 (a16).toNatClampNeg) = 1 →
tp_E 43 538 [.null, .ref 0, .null, .ref 59, .ref 60, .null, .null, .null, .ref 64, .int a9, .null, .null, .int a12, .int a13, .int (a14 + r1), .int (a15 + r2), .int a16, .null, .null, .null, .null, .null, .null, .null] [.int (a12 + 1)] σ2 post)))) ∧ (¬ s0 = s1 →
tp_E 43 833 [.null, .ref 0, .null, .ref 59, .ref 60, .null, .null, .null, .ref 64, .int a9, .null, .null, .int a12, .int a13, .int a14, .int a15, .int a16, .null, .null, .null, .null, .null, .null, .null] [] σ post)) : tp_E 43 484 [.null, .ref 0, .null, .ref 59, .ref 60, .null, .null, .null, .ref 64, .int a9, .null, .null, .int a12, .int a13, .int a14, .int a15, .int a16, .null, .null, .null, .null, .null, .null, .null] [.int s1, .int s0] σ post := tp_E_step (And.intro (fun c1 => Exists.intro _ (And.intro (tp_wk_rf _) (tp_E_step (tp_Em (h.1 c1) (fun r2 σ2 h2 => tp_Em h2 (fun r3 σ3 h3 => And.intro (Or.inr (Or.inl h3.1)) (And.intro h3.2.1 (And.intro (fun c4 => Exists.intro [.null, .ref 0, .null, .ref 59, .ref 60, .null, .null, .null, .ref 64, .int a9, .null, .null, .int a12, .int a13, .int (a14 + r2), .int (a15 + r3), .int a16, .null, .null, .null, .null, .null, .null, .null] (And.intro (And.intro (Or.inr rfl) (And.intro (Or.inr rfl) (And.intro (Or.inr rfl) (And.intro (Or.inr rfl) (And.intro (Or.inr rfl) (And.intro (Or.inr rfl) (And.intro (Or.inr rfl) (And.intro (Or.inr rfl) (And.intro (Or.inr rfl) (And.intro (Or.inr rfl) (And.intro (Or.inr rfl) (And.intro (Or.inr rfl) (And.intro (Or.inr rfl) (And.intro (Or.inr rfl) (And.intro (Or.inr rfl) (And.intro (Or.inr rfl) (And.intro (Or.inr rfl) (And.intro (Or.inr rfl) (And.intro (Or.inr rfl) (And.intro (Or.inr rfl) (And.intro (Or.inr rfl) (And.intro (Or.inr rfl) (And.intro (Or.inr rfl) (And.intro (Or.inr rfl) (trivial))))))))))))))))))))))))) (h3.2.2.1 c4))) (fun c4 => Exists.intro _ (And.intro (tp_wk_rf _) (tp_E_step (Exists.intro [.null, .ref 0, .null, .ref 59, .ref 60, .null, .null, .null, .ref 64, .int a9, .null, .null, .int a12, .int a13, .int (a14 + r2), .int (a15 + r3), .int a16, .null, .null, .null, .null, .null, .null, .null] (And.intro (And.intro (Or.inr rfl) (And.intro (Or.inr rfl) (And.intro (Or.inr rfl) (And.intro (Or.inr rfl) (And.intro (Or.inr rfl) (And.intro (Or.inr rfl) (And.intro (Or.inr rfl) (And.intro (Or.inr rfl) (And.intro (Or.inr rfl) (And.intro (Or.inr rfl) (And.intro (Or.inr rfl) (And.intro (Or.inr rfl) (And.intro (Or.inr rfl) (And.intro (Or.inr rfl) (And.intro (Or.inr rfl) (And.intro (Or.inr rfl) (And.intro (Or.inr rfl) (And.intro (Or.inr rfl) (And.intro (Or.inr rfl) (And.intro (Or.inr rfl) (And.intro (Or.inr rfl) (And.intro (Or.inr rfl) (And.intro (Or.inr rfl) (And.intro (Or.inr rfl) (trivial))))))))))))))))))))))))) (h3.2.2.2 c4)))))))))))))) (fun c1 => Exists.intro [.null, .ref 0, .null, .ref 59, .ref 60, .null, .null, .null, .ref 64, .int a9, .null, .null, .int a12, .int a13, .int a14, .int a15, .int a16, .null, .null, .null, .null, .null, .null, .null] (And.intro (And.intro (Or.inr rfl) (And.intro (Or.inr rfl) (And.intro (Or.inr rfl) (And.intro (Or.inr rfl) (And.intro (Or.inr rfl) (And.intro (Or.inr rfl) (And.intro (Or.inr rfl) (And.intro (Or.inr rfl) (And.intro (Or.inr rfl) (And.intro (Or.inr rfl) (And.intro (Or.inr rfl) (And.intro (Or.inr rfl) (And.intro (Or.inr rfl) (And.intro (Or.inr rfl) (And.intro (Or.inr rfl) (And.intro (Or.inr rfl) (And.intro (Or.inr rfl) (And.intro (Or.inr rfl) (And.intro (Or.inr rfl) (And.intro (Or.inr rfl) (And.intro (Or.inr rfl) (And.intro (Or.inr rfl) (And.intro (Or.inr rfl) (And.intro (Or.inr rfl) (trivial))))))))))))))))))))))))) (h.2 c1))))
/-- L_law ([I)Z, 538 -/
theorem sg_43_538 {post : Int32 → tp_St → Prop} {σ : tp_St} (a9 : Int32) (a12 : Int32) (a13 : Int32) (a14 : Int32) (a15 : Int32) (a16 : Int32) (s0 : Int32)  (h : (s0 < 0 →
tp_E 43 552 [.null, .ref 0, .null, .ref 59, .ref 60, .null, .null, .null, .ref 64, .int a9, .null, .null, .int a12, .int a13, .int a14, .int a15, .int a16, .null, .null, .null, .null, .null, .null, .null] [] σ post) ∧ (¬ s0 < 0 →
(s0 ≤ 8 →
tp_E 27 0 [.ref 0, .int a16, .int s0, .int 1] [] σ (fun r1 σ1 =>
tp_E 43 565 [.null, .ref 0, .null, .ref 59, .ref 60, .null, .null, .null, .ref 64, .int a9, .null, .null, .int a12, .int a13, .int a14, .int a15, .int a16, .null, .null, .null, .null, .null, .null, .null] [.int r1] σ1 post)) ∧ (¬ s0 ≤ 8 →
tp_E 43 552 [.null, .ref 0, .null, .ref 59, .ref 60, .null, .null, .null, .ref 64, .int a9, .null, .null, .int a12, .int a13, .int a14, .int a15, .int a16, .null, .null, .null, .null, .null, .null, .null] [] σ post))) : tp_E 43 538 [.null, .ref 0, .null, .ref 59, .ref 60, .null, .null, .null, .ref 64, .int a9, .null, .null, .int a12, .int a13, .int a14, .int a15, .int a16, .null, .null, .null, .null, .null, .null, .null] [.int s0] σ post := tp_E_step (And.intro (fun c1 => Exists.intro [.null, .ref 0, .null, .ref 59, .ref 60, .null, .null, .null, .ref 64, .int a9, .null, .null, .int a12, .int a13, .int a14, .int a15, .int a16, .null, .null, .null, .null, .null, .null, .null] (And.intro (And.intro (Or.inr rfl) (And.intro (Or.inr rfl) (And.intro (Or.inr rfl) (And.intro (Or.inr rfl) (And.intro (Or.inr rfl) (And.intro (Or.inr rfl) (And.intro (Or.inr rfl) (And.intro (Or.inr rfl) (And.intro (Or.inr rfl) (And.intro (Or.inr rfl) (And.intro (Or.inr rfl) (And.intro (Or.inr rfl) (And.intro (Or.inr rfl) (And.intro (Or.inr rfl) (And.intro (Or.inr rfl) (And.intro (Or.inr rfl) (And.intro (Or.inr rfl) (And.intro (Or.inl rfl) (And.intro (Or.inr rfl) (And.intro (Or.inr rfl) (And.intro (Or.inr rfl) (And.intro (Or.inr rfl) (And.intro (Or.inr rfl) (And.intro (Or.inr rfl) (trivial))))))))))))))))))))))))) (h.1 c1))) (fun c1 => And.intro (fun c2 => Exists.intro _ (And.intro (tp_wk_rf _) (tp_E_step (tp_Em ((h.2 c1).1 c2) (fun r3 σ3 h3 => Exists.intro [.null, .ref 0, .null, .ref 59, .ref 60, .null, .null, .null, .ref 64, .int a9, .null, .null, .int a12, .int a13, .int a14, .int a15, .int a16, .null, .null, .null, .null, .null, .null, .null] (And.intro (And.intro (Or.inr rfl) (And.intro (Or.inr rfl) (And.intro (Or.inr rfl) (And.intro (Or.inr rfl) (And.intro (Or.inr rfl) (And.intro (Or.inr rfl) (And.intro (Or.inr rfl) (And.intro (Or.inr rfl) (And.intro (Or.inr rfl) (And.intro (Or.inr rfl) (And.intro (Or.inr rfl) (And.intro (Or.inr rfl) (And.intro (Or.inr rfl) (And.intro (Or.inr rfl) (And.intro (Or.inr rfl) (And.intro (Or.inr rfl) (And.intro (Or.inr rfl) (And.intro (Or.inl rfl) (And.intro (Or.inr rfl) (And.intro (Or.inr rfl) (And.intro (Or.inr rfl) (And.intro (Or.inr rfl) (And.intro (Or.inr rfl) (And.intro (Or.inr rfl) (trivial))))))))))))))))))))))))) h3)))))) (fun c2 => Exists.intro [.null, .ref 0, .null, .ref 59, .ref 60, .null, .null, .null, .ref 64, .int a9, .null, .null, .int a12, .int a13, .int a14, .int a15, .int a16, .null, .null, .null, .null, .null, .null, .null] (And.intro (And.intro (Or.inr rfl) (And.intro (Or.inr rfl) (And.intro (Or.inr rfl) (And.intro (Or.inr rfl) (And.intro (Or.inr rfl) (And.intro (Or.inr rfl) (And.intro (Or.inr rfl) (And.intro (Or.inr rfl) (And.intro (Or.inr rfl) (And.intro (Or.inr rfl) (And.intro (Or.inr rfl) (And.intro (Or.inr rfl) (And.intro (Or.inr rfl) (And.intro (Or.inr rfl) (And.intro (Or.inr rfl) (And.intro (Or.inr rfl) (And.intro (Or.inr rfl) (And.intro (Or.inl rfl) (And.intro (Or.inr rfl) (And.intro (Or.inr rfl) (And.intro (Or.inr rfl) (And.intro (Or.inr rfl) (And.intro (Or.inr rfl) (And.intro (Or.inr rfl) (trivial))))))))))))))))))))))))) ((h.2 c1).2 c2)))))
/-- L_law ([I)Z, 552 -/
theorem sg_43_552 {post : Int32 → tp_St → Prop} {σ : tp_St} (a9 : Int32) (a12 : Int32) (a13 : Int32) (a14 : Int32) (a15 : Int32) (a16 : Int32)  (h : tp_E 43 565 [.null, .ref 0, .null, .ref 59, .ref 60, .null, .null, .null, .ref 64, .int a9, .null, .null, .int a12, .int a13, .int a14, .int a15, .int a16, .null, .null, .null, .null, .null, .null, .null] [.int 0] σ post) : tp_E 43 552 [.null, .ref 0, .null, .ref 59, .ref 60, .null, .null, .null, .ref 64, .int a9, .null, .null, .int a12, .int a13, .int a14, .int a15, .int a16, .null, .null, .null, .null, .null, .null, .null] [] σ post := tp_E_step (Exists.intro [.null, .ref 0, .null, .ref 59, .ref 60, .null, .null, .null, .ref 64, .int a9, .null, .null, .int a12, .int a13, .int a14, .int a15, .int a16, .null, .null, .null, .null, .null, .null, .null] (And.intro (And.intro (Or.inr rfl) (And.intro (Or.inr rfl) (And.intro (Or.inr rfl) (And.intro (Or.inr rfl) (And.intro (Or.inr rfl) (And.intro (Or.inr rfl) (And.intro (Or.inr rfl) (And.intro (Or.inr rfl) (And.intro (Or.inr rfl) (And.intro (Or.inr rfl) (And.intro (Or.inr rfl) (And.intro (Or.inr rfl) (And.intro (Or.inr rfl) (And.intro (Or.inr rfl) (And.intro (Or.inr rfl) (And.intro (Or.inr rfl) (And.intro (Or.inr rfl) (And.intro (Or.inr rfl) (And.intro (Or.inr rfl) (And.intro (Or.inr rfl) (And.intro (Or.inr rfl) (And.intro (Or.inr rfl) (And.intro (Or.inr rfl) (And.intro (Or.inr rfl) (trivial))))))))))))))))))))))))) h))
/-- L_law ([I)Z, 565 -/
theorem sg_43_565 {post : Int32 → tp_St → Prop} {σ : tp_St} (a9 : Int32) (a12 : Int32) (a13 : Int32) (a14 : Int32) (a15 : Int32) (a16 : Int32) (s0 : Int32)  (h : tp_E 43 576 [.null, .ref 0, .null, .ref 59, .ref 60, .null, .null, .null, .ref 64, .int a9, .null, .null, .int a12, .int a13, .int a14, .int a15, .int a16, .null, .int s0, .int 0, .int 0, .int 0, .null, .null] [] σ post) : tp_E 43 565 [.null, .ref 0, .null, .ref 59, .ref 60, .null, .null, .null, .ref 64, .int a9, .null, .null, .int a12, .int a13, .int a14, .int a15, .int a16, .null, .null, .null, .null, .null, .null, .null] [.int s0] σ post := tp_E_step (Exists.intro [.null, .ref 0, .null, .ref 59, .ref 60, .null, .null, .null, .ref 64, .int a9, .null, .null, .int a12, .int a13, .int a14, .int a15, .int a16, .null, .int s0, .int 0, .int 0, .int 0, .null, .null] (And.intro (And.intro (Or.inr rfl) (And.intro (Or.inr rfl) (And.intro (Or.inr rfl) (And.intro (Or.inr rfl) (And.intro (Or.inr rfl) (And.intro (Or.inr rfl) (And.intro (Or.inr rfl) (And.intro (Or.inr rfl) (And.intro (Or.inr rfl) (And.intro (Or.inr rfl) (And.intro (Or.inr rfl) (And.intro (Or.inr rfl) (And.intro (Or.inr rfl) (And.intro (Or.inr rfl) (And.intro (Or.inr rfl) (And.intro (Or.inr rfl) (And.intro (Or.inr rfl) (And.intro (Or.inr rfl) (And.intro (Or.inr rfl) (And.intro (Or.inr rfl) (And.intro (Or.inr rfl) (And.intro (Or.inr rfl) (And.intro (Or.inr rfl) (And.intro (Or.inr rfl) (trivial))))))))))))))))))))))))) h))
/-- L_law ([I)Z, 576 -/
theorem sg_43_576 {post : Int32 → tp_St → Prop} {σ : tp_St} (a9 : Int32) (a12 : Int32) (a13 : Int32) (a14 : Int32) (a15 : Int32) (a16 : Int32) (a18 : Int32) (a19 : Int32) (a20 : Int32) (a21 : Int32)  (h : (a9 ≤ a21 →
tp_E 27 0 [.ref 0, .int a16, .int a12, .int 1] [] σ (fun r1 σ1 =>
tp_E 27 0 [.ref 0, .int a16, .int a12, .int 0] [] σ1 (fun r2 σ2 =>
(r1 = ((a18 + r2) - a19) →
tp_E 27 0 [.ref 0, .int a16, .int a12, .int 1] [] σ2 (fun r3 σ3 =>
(a20 = r3 →
tp_E 43 764 [.null, .ref 0, .null, .ref 59, .ref 60, .null, .null, .null, .ref 64, .int a9, .null, .null, .int a12, .int a13, .int a14, .int a15, .int a16, .null, .null, .null, .null, .int 0, .null, .null] [] σ3 post) ∧ (¬ a20 = r3 →
tp_E 43 759 [.null, .null, .null, .null, .null, .null, .null, .null, .null, .null, .null, .null, .null, .null, .null, .null, .null, .null, .null, .null, .null, .null, .null, .null] [] σ3 post))) ∧ (¬ r1 = ((a18 + r2) - a19) →
tp_E 43 759 [.null, .null, .null, .null, .null, .null, .null, .null, .null, .null, .null, .null, .null, .null, .null, .null, .null, .null, .null, .null, .null, .null, .null, .null] [] σ2 post)))) ∧ (¬ a9 ≤ a21 →
64 < σ.2.1 ∧
vp_in ((4 * a21) + 1) 60 ∧
((σ.1 64 (((4 * a21) + 1)).toNatClampNeg) = a16 →
64 < σ.2.1 ∧
vp_in ((4 * a21) + 4) 60 ∧
64 < σ.2.1 ∧
vp_in ((4 * a21) + 2) 60 ∧
59 < σ.2.1 ∧
vp_in (σ.1 64 (((4 * a21) + 2)).toNatClampNeg) 2 ∧
60 < σ.2.1 ∧
vp_in a16 4 ∧
((σ.1 60 (a16).toNatClampNeg) = 1 →
(((σ.1 64 (((4 * a21) + 4)).toNatClampNeg) + (σ.1 59 ((σ.1 64 (((4 * a21) + 2)).toNatClampNeg)).toNatClampNeg)) = a12 →
tp_E 43 670 [.null, .ref 0, .null, .ref 59, .ref 60, .null, .null, .null, .ref 64, .int a9, .null, .null, .int a12, .int a13, .int a14, .int a15, .int a16, .null, .int a18, .null, .int a20, .int a21, .null, .null] [.int 1, .int a19] σ post) ∧ (¬ ((σ.1 64 (((4 * a21) + 4)).toNatClampNeg) + (σ.1 59 ((σ.1 64 (((4 * a21) + 2)).toNatClampNeg)).toNatClampNeg)) = a12 →
tp_E 43 670 [.null, .ref 0, .null, .ref 59, .ref 60, .null, .null, .null, .ref 64, .int a9, .null, .null, .int a12, .int a13, .int a14, .int a15, .int a16, .null, .int a18, .null, .int a20, .int a21, .null, .null] [.int 0, .int a19] σ post)) ∧ (¬ (σ.1 60 (a16).toNatClampNeg) = 1 →
(((σ.1 64 (((4 * a21) + 4)).toNatClampNeg) - (σ.1 59 ((σ.1 64 (((4 * a21) + 2)).toNatClampNeg)).toNatClampNeg)) = (a12 + 1) →
tp_E 43 670 [.null, .ref 0, .null, .ref 59, .ref 60, .null, .null, .null, .ref 64, .int a9, .null, .null, .int a12, .int a13, .int a14, .int a15, .int a16, .null, .int a18, .null, .int a20, .int a21, .null, .null] [.int 1, .int a19] σ post) ∧ (¬ ((σ.1 64 (((4 * a21) + 4)).toNatClampNeg) - (σ.1 59 ((σ.1 64 (((4 * a21) + 2)).toNatClampNeg)).toNatClampNeg)) = (a12 + 1) →
tp_E 43 670 [.null, .ref 0, .null, .ref 59, .ref 60, .null, .null, .null, .ref 64, .int a9, .null, .null, .int a12, .int a13, .int a14, .int a15, .int a16, .null, .int a18, .null, .int a20, .int a21, .null, .null] [.int 0, .int a19] σ post))) ∧ (¬ (σ.1 64 (((4 * a21) + 1)).toNatClampNeg) = a16 →
tp_E 43 712 [.null, .ref 0, .null, .ref 59, .ref 60, .null, .null, .null, .ref 64, .int a9, .null, .null, .int a12, .int a13, .int a14, .int a15, .int a16, .null, .int a18, .int a19, .int a20, .int a21, .null, .null] [] σ post))) : tp_E 43 576 [.null, .ref 0, .null, .ref 59, .ref 60, .null, .null, .null, .ref 64, .int a9, .null, .null, .int a12, .int a13, .int a14, .int a15, .int a16, .null, .int a18, .int a19, .int a20, .int a21, .null, .null] [] σ post := tp_E_step (And.intro (fun c1 => Exists.intro _ (And.intro (tp_wk_rf _) (tp_E_step (tp_Em (h.1 c1) (fun r2 σ2 h2 => tp_Em h2 (fun r3 σ3 h3 => And.intro (fun c5 => tp_Em (h3.1 c5) (fun r4 σ4 h4 => And.intro (fun c6 => Exists.intro _ (And.intro (tp_wk_rf _) (tp_E_step (Exists.intro [.null, .ref 0, .null, .ref 59, .ref 60, .null, .null, .null, .ref 64, .int a9, .null, .null, .int a12, .int a13, .int a14, .int a15, .int a16, .null, .null, .null, .null, .int 0, .null, .null] (And.intro (And.intro (Or.inr rfl) (And.intro (Or.inr rfl) (And.intro (Or.inr rfl) (And.intro (Or.inr rfl) (And.intro (Or.inr rfl) (And.intro (Or.inr rfl) (And.intro (Or.inr rfl) (And.intro (Or.inr rfl) (And.intro (Or.inr rfl) (And.intro (Or.inr rfl) (And.intro (Or.inr rfl) (And.intro (Or.inr rfl) (And.intro (Or.inr rfl) (And.intro (Or.inr rfl) (And.intro (Or.inr rfl) (And.intro (Or.inr rfl) (And.intro (Or.inr rfl) (And.intro (Or.inr rfl) (And.intro (Or.inl rfl) (And.intro (Or.inl rfl) (And.intro (Or.inl rfl) (And.intro (Or.inr rfl) (And.intro (Or.inr rfl) (And.intro (Or.inr rfl) (trivial))))))))))))))))))))))))) (h4.1 c6)))))) (fun c6 => Exists.intro [.null, .null, .null, .null, .null, .null, .null, .null, .null, .null, .null, .null, .null, .null, .null, .null, .null, .null, .null, .null, .null, .null, .null, .null] (And.intro (And.intro (Or.inr rfl) (And.intro (Or.inl rfl) (And.intro (Or.inr rfl) (And.intro (Or.inl rfl) (And.intro (Or.inl rfl) (And.intro (Or.inr rfl) (And.intro (Or.inr rfl) (And.intro (Or.inr rfl) (And.intro (Or.inl rfl) (And.intro (Or.inl rfl) (And.intro (Or.inr rfl) (And.intro (Or.inr rfl) (And.intro (Or.inl rfl) (And.intro (Or.inl rfl) (And.intro (Or.inl rfl) (And.intro (Or.inl rfl) (And.intro (Or.inl rfl) (And.intro (Or.inr rfl) (And.intro (Or.inl rfl) (And.intro (Or.inl rfl) (And.intro (Or.inl rfl) (And.intro (Or.inl rfl) (And.intro (Or.inr rfl) (And.intro (Or.inr rfl) (trivial))))))))))))))))))))))))) (h4.2 c6))))) (fun c5 => Exists.intro [.null, .null, .null, .null, .null, .null, .null, .null, .null, .null, .null, .null, .null, .null, .null, .null, .null, .null, .null, .null, .null, .null, .null, .null] (And.intro (And.intro (Or.inr rfl) (And.intro (Or.inl rfl) (And.intro (Or.inr rfl) (And.intro (Or.inl rfl) (And.intro (Or.inl rfl) (And.intro (Or.inr rfl) (And.intro (Or.inr rfl) (And.intro (Or.inr rfl) (And.intro (Or.inl rfl) (And.intro (Or.inl rfl) (And.intro (Or.inr rfl) (And.intro (Or.inr rfl) (And.intro (Or.inl rfl) (And.intro (Or.inl rfl) (And.intro (Or.inl rfl) (And.intro (Or.inl rfl) (And.intro (Or.inl rfl) (And.intro (Or.inr rfl) (And.intro (Or.inl rfl) (And.intro (Or.inl rfl) (And.intro (Or.inl rfl) (And.intro (Or.inl rfl) (And.intro (Or.inr rfl) (And.intro (Or.inr rfl) (trivial))))))))))))))))))))))))) (h3.2 c5))))))))) (fun c1 => And.intro (Or.inr (Or.inl (h.2 c1).1)) (And.intro (h.2 c1).2.1 (And.intro (fun c7 => Exists.intro _ (And.intro (tp_wk_rf _) (tp_E_step (And.intro (Or.inr (Or.inl ((h.2 c1).2.2.1 c7).1)) (And.intro ((h.2 c1).2.2.1 c7).2.1 (And.intro (Or.inr (Or.inl ((h.2 c1).2.2.1 c7).2.2.1)) (And.intro ((h.2 c1).2.2.1 c7).2.2.2.1 (And.intro (Or.inr (Or.inl ((h.2 c1).2.2.1 c7).2.2.2.2.1)) (And.intro ((h.2 c1).2.2.1 c7).2.2.2.2.2.1 (And.intro (Or.inr (Or.inl ((h.2 c1).2.2.1 c7).2.2.2.2.2.2.1)) (And.intro ((h.2 c1).2.2.1 c7).2.2.2.2.2.2.2.1 (And.intro (fun c8 => And.intro (fun c9 => Exists.intro [.null, .ref 0, .null, .ref 59, .ref 60, .null, .null, .null, .ref 64, .int a9, .null, .null, .int a12, .int a13, .int a14, .int a15, .int a16, .null, .int a18, .null, .int a20, .int a21, .null, .null] (And.intro (And.intro (Or.inr rfl) (And.intro (Or.inr rfl) (And.intro (Or.inr rfl) (And.intro (Or.inr rfl) (And.intro (Or.inr rfl) (And.intro (Or.inr rfl) (And.intro (Or.inr rfl) (And.intro (Or.inr rfl) (And.intro (Or.inr rfl) (And.intro (Or.inr rfl) (And.intro (Or.inr rfl) (And.intro (Or.inr rfl) (And.intro (Or.inr rfl) (And.intro (Or.inr rfl) (And.intro (Or.inr rfl) (And.intro (Or.inr rfl) (And.intro (Or.inr rfl) (And.intro (Or.inr rfl) (And.intro (Or.inr rfl) (And.intro (Or.inl rfl) (And.intro (Or.inr rfl) (And.intro (Or.inr rfl) (And.intro (Or.inl rfl) (And.intro (Or.inl rfl) (trivial))))))))))))))))))))))))) ((((h.2 c1).2.2.1 c7).2.2.2.2.2.2.2.2.1 c8).1 c9))) (fun c9 => Exists.intro _ (And.intro (tp_wk_rf _) (tp_E_step (Exists.intro [.null, .ref 0, .null, .ref 59, .ref 60, .null, .null, .null, .ref 64, .int a9, .null, .null, .int a12, .int a13, .int a14, .int a15, .int a16, .null, .int a18, .null, .int a20, .int a21, .null, .null] (And.intro (And.intro (Or.inr rfl) (And.intro (Or.inr rfl) (And.intro (Or.inr rfl) (And.intro (Or.inr rfl) (And.intro (Or.inr rfl) (And.intro (Or.inr rfl) (And.intro (Or.inr rfl) (And.intro (Or.inr rfl) (And.intro (Or.inr rfl) (And.intro (Or.inr rfl) (And.intro (Or.inr rfl) (And.intro (Or.inr rfl) (And.intro (Or.inr rfl) (And.intro (Or.inr rfl) (And.intro (Or.inr rfl) (And.intro (Or.inr rfl) (And.intro (Or.inr rfl) (And.intro (Or.inr rfl) (And.intro (Or.inr rfl) (And.intro (Or.inl rfl) (And.intro (Or.inr rfl) (And.intro (Or.inr rfl) (And.intro (Or.inl rfl) (And.intro (Or.inl rfl) (trivial))))))))))))))))))))))))) ((((h.2 c1).2.2.1 c7).2.2.2.2.2.2.2.2.1 c8).2 c9))))))) (fun c8 => Exists.intro _ (And.intro (tp_wk_rf _) (tp_E_step (And.intro (fun c10 => Exists.intro [.null, .ref 0, .null, .ref 59, .ref 60, .null, .null, .null, .ref 64, .int a9, .null, .null, .int a12, .int a13, .int a14, .int a15, .int a16, .null, .int a18, .null, .int a20, .int a21, .null, .null] (And.intro (And.intro (Or.inr rfl) (And.intro (Or.inr rfl) (And.intro (Or.inr rfl) (And.intro (Or.inr rfl) (And.intro (Or.inr rfl) (And.intro (Or.inr rfl) (And.intro (Or.inr rfl) (And.intro (Or.inr rfl) (And.intro (Or.inr rfl) (And.intro (Or.inr rfl) (And.intro (Or.inr rfl) (And.intro (Or.inr rfl) (And.intro (Or.inr rfl) (And.intro (Or.inr rfl) (And.intro (Or.inr rfl) (And.intro (Or.inr rfl) (And.intro (Or.inr rfl) (And.intro (Or.inr rfl) (And.intro (Or.inr rfl) (And.intro (Or.inl rfl) (And.intro (Or.inr rfl) (And.intro (Or.inr rfl) (And.intro (Or.inl rfl) (And.intro (Or.inl rfl) (trivial))))))))))))))))))))))))) ((((h.2 c1).2.2.1 c7).2.2.2.2.2.2.2.2.2 c8).1 c10))) (fun c10 => Exists.intro _ (And.intro (tp_wk_rf _) (tp_E_step (Exists.intro [.null, .ref 0, .null, .ref 59, .ref 60, .null, .null, .null, .ref 64, .int a9, .null, .null, .int a12, .int a13, .int a14, .int a15, .int a16, .null, .int a18, .null, .int a20, .int a21, .null, .null] (And.intro (And.intro (Or.inr rfl) (And.intro (Or.inr rfl) (And.intro (Or.inr rfl) (And.intro (Or.inr rfl) (And.intro (Or.inr rfl) (And.intro (Or.inr rfl) (And.intro (Or.inr rfl) (And.intro (Or.inr rfl) (And.intro (Or.inr rfl) (And.intro (Or.inr rfl) (And.intro (Or.inr rfl) (And.intro (Or.inr rfl) (And.intro (Or.inr rfl) (And.intro (Or.inr rfl) (And.intro (Or.inr rfl) (And.intro (Or.inr rfl) (And.intro (Or.inr rfl) (And.intro (Or.inr rfl) (And.intro (Or.inr rfl) (And.intro (Or.inl rfl) (And.intro (Or.inr rfl) (And.intro (Or.inr rfl) (And.intro (Or.inl rfl) (And.intro (Or.inl rfl) (trivial))))))))))))))))))))))))) ((((h.2 c1).2.2.1 c7).2.2.2.2.2.2.2.2.2 c8).2 c10)))))))))))))))))))))) (fun c7 => Exists.intro [.null, .ref 0, .null, .ref 59, .ref 60, .null, .null, .null, .ref 64, .int a9, .null, .null, .int a12, .int a13, .int a14, .int a15, .int a16, .null, .int a18, .int a19, .int a20, .int a21, .null, .null] (And.intro (And.intro (Or.inr rfl) (And.intro (Or.inr rfl) (And.intro (Or.inr rfl) (And.intro (Or.inr rfl) (And.intro (Or.inr rfl) (And.intro (Or.inr rfl) (And.intro (Or.inr rfl) (And.intro (Or.inr rfl) (And.intro (Or.inr rfl) (And.intro (Or.inr rfl) (And.intro (Or.inr rfl) (And.intro (Or.inr rfl) (And.intro (Or.inr rfl) (And.intro (Or.inr rfl) (And.intro (Or.inr rfl) (And.intro (Or.inr rfl) (And.intro (Or.inr rfl) (And.intro (Or.inr rfl) (And.intro (Or.inr rfl) (And.intro (Or.inr rfl) (And.intro (Or.inr rfl) (And.intro (Or.inr rfl) (And.intro (Or.inr rfl) (And.intro (Or.inr rfl) (trivial))))))))))))))))))))))))) ((h.2 c1).2.2.2 c7)))))))
/-- L_law ([I)Z, 670 -/
theorem sg_43_670 {post : Int32 → tp_St → Prop} {σ : tp_St} (a9 : Int32) (a12 : Int32) (a13 : Int32) (a14 : Int32) (a15 : Int32) (a16 : Int32) (a18 : Int32) (a20 : Int32) (a21 : Int32) (s0 : Int32) (s1 : Int32)  (h : 64 < σ.2.1 ∧
vp_in ((4 * a21) + 2) 60 ∧
64 < σ.2.1 ∧
vp_in ((4 * a21) + 3) 60 ∧
tp_E 29 0 [.ref 0, .int a16, .int a12, .int (σ.1 64 (((4 * a21) + 2)).toNatClampNeg), .int (σ.1 64 (((4 * a21) + 3)).toNatClampNeg), .null, .null] [] σ (fun r1 σ1 =>
(r1 = 0 →
tp_E 43 709 [.null, .ref 0, .null, .ref 59, .ref 60, .null, .null, .null, .ref 64, .int a9, .null, .null, .int a12, .int a13, .int a14, .int a15, .int a16, .null, .int a18, .int (s0 + s1), .null, .int a21, .null, .null] [.int 1, .int a20] σ1 post) ∧ (¬ r1 = 0 →
tp_E 43 709 [.null, .ref 0, .null, .ref 59, .ref 60, .null, .null, .null, .ref 64, .int a9, .null, .null, .int a12, .int a13, .int a14, .int a15, .int a16, .null, .int a18, .int (s0 + s1), .null, .int a21, .null, .null] [.int 0, .int a20] σ1 post))) : tp_E 43 670 [.null, .ref 0, .null, .ref 59, .ref 60, .null, .null, .null, .ref 64, .int a9, .null, .null, .int a12, .int a13, .int a14, .int a15, .int a16, .null, .int a18, .null, .int a20, .int a21, .null, .null] [.int s1, .int s0] σ post := tp_E_step (And.intro (Or.inr (Or.inl h.1)) (And.intro h.2.1 (And.intro (Or.inr (Or.inl h.2.2.1)) (And.intro h.2.2.2.1 (tp_Em h.2.2.2.2 (fun r1 σ1 h1 => And.intro (fun c2 => Exists.intro [.null, .ref 0, .null, .ref 59, .ref 60, .null, .null, .null, .ref 64, .int a9, .null, .null, .int a12, .int a13, .int a14, .int a15, .int a16, .null, .int a18, .int (s0 + s1), .null, .int a21, .null, .null] (And.intro (And.intro (Or.inr rfl) (And.intro (Or.inr rfl) (And.intro (Or.inr rfl) (And.intro (Or.inr rfl) (And.intro (Or.inr rfl) (And.intro (Or.inr rfl) (And.intro (Or.inr rfl) (And.intro (Or.inr rfl) (And.intro (Or.inr rfl) (And.intro (Or.inr rfl) (And.intro (Or.inr rfl) (And.intro (Or.inr rfl) (And.intro (Or.inr rfl) (And.intro (Or.inr rfl) (And.intro (Or.inr rfl) (And.intro (Or.inr rfl) (And.intro (Or.inr rfl) (And.intro (Or.inr rfl) (And.intro (Or.inr rfl) (And.intro (Or.inr rfl) (And.intro (Or.inl rfl) (And.intro (Or.inr rfl) (And.intro (Or.inr rfl) (And.intro (Or.inr rfl) (trivial))))))))))))))))))))))))) (h1.1 c2))) (fun c2 => Exists.intro _ (And.intro (tp_wk_rf _) (tp_E_step (Exists.intro [.null, .ref 0, .null, .ref 59, .ref 60, .null, .null, .null, .ref 64, .int a9, .null, .null, .int a12, .int a13, .int a14, .int a15, .int a16, .null, .int a18, .int (s0 + s1), .null, .int a21, .null, .null] (And.intro (And.intro (Or.inr rfl) (And.intro (Or.inr rfl) (And.intro (Or.inr rfl) (And.intro (Or.inr rfl) (And.intro (Or.inr rfl) (And.intro (Or.inr rfl) (And.intro (Or.inr rfl) (And.intro (Or.inr rfl) (And.intro (Or.inr rfl) (And.intro (Or.inr rfl) (And.intro (Or.inr rfl) (And.intro (Or.inr rfl) (And.intro (Or.inr rfl) (And.intro (Or.inr rfl) (And.intro (Or.inr rfl) (And.intro (Or.inr rfl) (And.intro (Or.inr rfl) (And.intro (Or.inr rfl) (And.intro (Or.inr rfl) (And.intro (Or.inr rfl) (And.intro (Or.inl rfl) (And.intro (Or.inr rfl) (And.intro (Or.inr rfl) (And.intro (Or.inr rfl) (trivial))))))))))))))))))))))))) (h1.2 c2))))))))))))
/-- L_law ([I)Z, 709 -/
theorem sg_43_709 {post : Int32 → tp_St → Prop} {σ : tp_St} (a9 : Int32) (a12 : Int32) (a13 : Int32) (a14 : Int32) (a15 : Int32) (a16 : Int32) (a18 : Int32) (a19 : Int32) (a21 : Int32) (s0 : Int32) (s1 : Int32)  (h : tp_E 43 712 [.null, .ref 0, .null, .ref 59, .ref 60, .null, .null, .null, .ref 64, .int a9, .null, .null, .int a12, .int a13, .int a14, .int a15, .int a16, .null, .int a18, .int a19, .int (s0 + s1), .int a21, .null, .null] [] σ post) : tp_E 43 709 [.null, .ref 0, .null, .ref 59, .ref 60, .null, .null, .null, .ref 64, .int a9, .null, .null, .int a12, .int a13, .int a14, .int a15, .int a16, .null, .int a18, .int a19, .null, .int a21, .null, .null] [.int s1, .int s0] σ post := tp_E_step (Exists.intro [.null, .ref 0, .null, .ref 59, .ref 60, .null, .null, .null, .ref 64, .int a9, .null, .null, .int a12, .int a13, .int a14, .int a15, .int a16, .null, .int a18, .int a19, .int (s0 + s1), .int a21, .null, .null] (And.intro (And.intro (Or.inr rfl) (And.intro (Or.inr rfl) (And.intro (Or.inr rfl) (And.intro (Or.inr rfl) (And.intro (Or.inr rfl) (And.intro (Or.inr rfl) (And.intro (Or.inr rfl) (And.intro (Or.inr rfl) (And.intro (Or.inr rfl) (And.intro (Or.inr rfl) (And.intro (Or.inr rfl) (And.intro (Or.inr rfl) (And.intro (Or.inr rfl) (And.intro (Or.inr rfl) (And.intro (Or.inr rfl) (And.intro (Or.inr rfl) (And.intro (Or.inr rfl) (And.intro (Or.inr rfl) (And.intro (Or.inr rfl) (And.intro (Or.inr rfl) (And.intro (Or.inr rfl) (And.intro (Or.inr rfl) (And.intro (Or.inr rfl) (And.intro (Or.inr rfl) (trivial))))))))))))))))))))))))) h))
/-- L_law ([I)Z, 712 -/
theorem sg_43_712 {post : Int32 → tp_St → Prop} {σ : tp_St} (a9 : Int32) (a12 : Int32) (a13 : Int32) (a14 : Int32) (a15 : Int32) (a16 : Int32) (a18 : Int32) (a19 : Int32) (a20 : Int32) (a21 : Int32)  (h : tp_E 43 576 [.null, .ref 0, .null, .ref 59, .ref 60, .null, .null, .null, .ref 64, .int a9, .null, .null, .int a12, .int a13, .int a14, .int a15, .int a16, .null, .int a18, .int a19, .int a20, .int (a21 + 1), .null, .null] [] σ post) : tp_E 43 712 [.null, .ref 0, .null, .ref 59, .ref 60, .null, .null, .null, .ref 64, .int a9, .null, .null, .int a12, .int a13, .int a14, .int a15, .int a16, .null, .int a18, .int a19, .int a20, .int a21, .null, .null] [] σ post := tp_E_step (Exists.intro [.null, .ref 0, .null, .ref 59, .ref 60, .null, .null, .null, .ref 64, .int a9, .null, .null, .int a12, .int a13, .int a14, .int a15, .int a16, .null, .int a18, .int a19, .int a20, .int (a21 + 1), .null, .null] (And.intro (And.intro (Or.inr rfl) (And.intro (Or.inr rfl) (And.intro (Or.inr rfl) (And.intro (Or.inr rfl) (And.intro (Or.inr rfl) (And.intro (Or.inr rfl) (And.intro (Or.inr rfl) (And.intro (Or.inr rfl) (And.intro (Or.inr rfl) (And.intro (Or.inr rfl) (And.intro (Or.inr rfl) (And.intro (Or.inr rfl) (And.intro (Or.inr rfl) (And.intro (Or.inr rfl) (And.intro (Or.inr rfl) (And.intro (Or.inr rfl) (And.intro (Or.inr rfl) (And.intro (Or.inr rfl) (And.intro (Or.inr rfl) (And.intro (Or.inr rfl) (And.intro (Or.inr rfl) (And.intro (Or.inr rfl) (And.intro (Or.inr rfl) (And.intro (Or.inr rfl) (trivial))))))))))))))))))))))))) h))
/-- L_law ([I)Z, 759 -/
theorem sg_43_759 {post : Int32 → tp_St → Prop} {σ : tp_St}   (h : post 0 σ) : tp_E 43 759 [.null, .null, .null, .null, .null, .null, .null, .null, .null, .null, .null, .null, .null, .null, .null, .null, .null, .null, .null, .null, .null, .null, .null, .null] [] σ post := tp_E_step (And.intro rfl h)
/-- L_law ([I)Z, 764 -/
theorem sg_43_764 {post : Int32 → tp_St → Prop} {σ : tp_St} (a9 : Int32) (a12 : Int32) (a13 : Int32) (a14 : Int32) (a15 : Int32) (a16 : Int32) (a21 : Int32)  (h : (16 ≤ a21 →
tp_E 43 833 [.null, .ref 0, .null, .ref 59, .ref 60, .null, .null, .null, .ref 64, .int a9, .null, .null, .int a12, .int a13, .int a14, .int a15, .int a16, .null, .null, .null, .null, .null, .null, .null] [] σ post) ∧ (¬ 16 ≤ a21 →
tp_E 30 0 [.ref 0, .int a16, .int a12, .int a21, .null, .null] [] σ (fun r1 σ1 =>
(r1 = 0 →
tp_E 43 789 [.null, .ref 0, .null, .ref 59, .ref 60, .null, .null, .null, .ref 64, .int a9, .null, .null, .int a12, .int a13, .int a14, .int a15, .int a16, .null, .null, .null, .null, .int a21, .null, .null] [.int 1] σ1 post) ∧ (¬ r1 = 0 →
tp_E 43 789 [.null, .ref 0, .null, .ref 59, .ref 60, .null, .null, .null, .ref 64, .int a9, .null, .null, .int a12, .int a13, .int a14, .int a15, .int a16, .null, .null, .null, .null, .int a21, .null, .null] [.int 0] σ1 post)))) : tp_E 43 764 [.null, .ref 0, .null, .ref 59, .ref 60, .null, .null, .null, .ref 64, .int a9, .null, .null, .int a12, .int a13, .int a14, .int a15, .int a16, .null, .null, .null, .null, .int a21, .null, .null] [] σ post := tp_E_step (And.intro (fun c2 => Exists.intro [.null, .ref 0, .null, .ref 59, .ref 60, .null, .null, .null, .ref 64, .int a9, .null, .null, .int a12, .int a13, .int a14, .int a15, .int a16, .null, .null, .null, .null, .null, .null, .null] (And.intro (And.intro (Or.inr rfl) (And.intro (Or.inr rfl) (And.intro (Or.inr rfl) (And.intro (Or.inr rfl) (And.intro (Or.inr rfl) (And.intro (Or.inr rfl) (And.intro (Or.inr rfl) (And.intro (Or.inr rfl) (And.intro (Or.inr rfl) (And.intro (Or.inr rfl) (And.intro (Or.inr rfl) (And.intro (Or.inr rfl) (And.intro (Or.inr rfl) (And.intro (Or.inr rfl) (And.intro (Or.inr rfl) (And.intro (Or.inr rfl) (And.intro (Or.inr rfl) (And.intro (Or.inr rfl) (And.intro (Or.inr rfl) (And.intro (Or.inr rfl) (And.intro (Or.inr rfl) (And.intro (Or.inl rfl) (And.intro (Or.inr rfl) (And.intro (Or.inr rfl) (trivial))))))))))))))))))))))))) (h.1 c2))) (fun c2 => tp_Em (h.2 c2) (fun r1 σ1 h1 => And.intro (fun c3 => Exists.intro [.null, .ref 0, .null, .ref 59, .ref 60, .null, .null, .null, .ref 64, .int a9, .null, .null, .int a12, .int a13, .int a14, .int a15, .int a16, .null, .null, .null, .null, .int a21, .null, .null] (And.intro (And.intro (Or.inr rfl) (And.intro (Or.inr rfl) (And.intro (Or.inr rfl) (And.intro (Or.inr rfl) (And.intro (Or.inr rfl) (And.intro (Or.inr rfl) (And.intro (Or.inr rfl) (And.intro (Or.inr rfl) (And.intro (Or.inr rfl) (And.intro (Or.inr rfl) (And.intro (Or.inr rfl) (And.intro (Or.inr rfl) (And.intro (Or.inr rfl) (And.intro (Or.inr rfl) (And.intro (Or.inr rfl) (And.intro (Or.inr rfl) (And.intro (Or.inr rfl) (And.intro (Or.inr rfl) (And.intro (Or.inr rfl) (And.intro (Or.inr rfl) (And.intro (Or.inr rfl) (And.intro (Or.inr rfl) (And.intro (Or.inr rfl) (And.intro (Or.inr rfl) (trivial))))))))))))))))))))))))) (h1.1 c3))) (fun c3 => Exists.intro _ (And.intro (tp_wk_rf _) (tp_E_step (Exists.intro [.null, .ref 0, .null, .ref 59, .ref 60, .null, .null, .null, .ref 64, .int a9, .null, .null, .int a12, .int a13, .int a14, .int a15, .int a16, .null, .null, .null, .null, .int a21, .null, .null] (And.intro (And.intro (Or.inr rfl) (And.intro (Or.inr rfl) (And.intro (Or.inr rfl) (And.intro (Or.inr rfl) (And.intro (Or.inr rfl) (And.intro (Or.inr rfl) (And.intro (Or.inr rfl) (And.intro (Or.inr rfl) (And.intro (Or.inr rfl) (And.intro (Or.inr rfl) (And.intro (Or.inr rfl) (And.intro (Or.inr rfl) (And.intro (Or.inr rfl) (And.intro (Or.inr rfl) (And.intro (Or.inr rfl) (And.intro (Or.inr rfl) (And.intro (Or.inr rfl) (And.intro (Or.inr rfl) (And.intro (Or.inr rfl) (And.intro (Or.inr rfl) (And.intro (Or.inr rfl) (And.intro (Or.inr rfl) (And.intro (Or.inr rfl) (And.intro (Or.inr rfl) (trivial))))))))))))))))))))))))) (h1.2 c3)))))))))
/-- L_law ([I)Z, 789 -/
theorem sg_43_789 {post : Int32 → tp_St → Prop} {σ : tp_St} (a9 : Int32) (a12 : Int32) (a13 : Int32) (a14 : Int32) (a15 : Int32) (a16 : Int32) (a21 : Int32) (s0 : Int32)  (h : tp_E 27 0 [.ref 0, .int a16, .int a12, .int 0] [] σ (fun r1 σ1 =>
(a21 < r1 →
tp_E 43 821 [.null, .ref 0, .null, .ref 59, .ref 60, .null, .null, .null, .ref 64, .int a9, .null, .null, .int a12, .int a13, .int a14, .int a15, .int a16, .null, .null, .null, .null, .int a21, .null, .null] [.int s0] σ1 post) ∧ (¬ a21 < r1 →
tp_E 27 0 [.ref 0, .int a16, .int a12, .int 1] [] σ1 (fun r2 σ2 =>
(r2 < a21 →
tp_E 43 821 [.null, .ref 0, .null, .ref 59, .ref 60, .null, .null, .null, .ref 64, .int a9, .null, .null, .int a12, .int a13, .int a14, .int a15, .int a16, .null, .null, .null, .null, .int a21, .null, .null] [.int s0] σ2 post) ∧ (¬ r2 < a21 →
tp_E 43 822 [.null, .ref 0, .null, .ref 59, .ref 60, .null, .null, .null, .ref 64, .int a9, .null, .null, .int a12, .int a13, .int a14, .int a15, .int a16, .null, .null, .null, .null, .int a21, .null, .null] [.int 1, .int s0] σ2 post))))) : tp_E 43 789 [.null, .ref 0, .null, .ref 59, .ref 60, .null, .null, .null, .ref 64, .int a9, .null, .null, .int a12, .int a13, .int a14, .int a15, .int a16, .null, .null, .null, .null, .int a21, .null, .null] [.int s0] σ post := tp_E_step (tp_Em h (fun r1 σ1 h1 => And.intro (fun c3 => Exists.intro [.null, .ref 0, .null, .ref 59, .ref 60, .null, .null, .null, .ref 64, .int a9, .null, .null, .int a12, .int a13, .int a14, .int a15, .int a16, .null, .null, .null, .null, .int a21, .null, .null] (And.intro (And.intro (Or.inr rfl) (And.intro (Or.inr rfl) (And.intro (Or.inr rfl) (And.intro (Or.inr rfl) (And.intro (Or.inr rfl) (And.intro (Or.inr rfl) (And.intro (Or.inr rfl) (And.intro (Or.inr rfl) (And.intro (Or.inr rfl) (And.intro (Or.inr rfl) (And.intro (Or.inr rfl) (And.intro (Or.inr rfl) (And.intro (Or.inr rfl) (And.intro (Or.inr rfl) (And.intro (Or.inr rfl) (And.intro (Or.inr rfl) (And.intro (Or.inr rfl) (And.intro (Or.inr rfl) (And.intro (Or.inr rfl) (And.intro (Or.inr rfl) (And.intro (Or.inr rfl) (And.intro (Or.inr rfl) (And.intro (Or.inr rfl) (And.intro (Or.inr rfl) (trivial))))))))))))))))))))))))) (h1.1 c3))) (fun c3 => tp_Em (h1.2 c3) (fun r2 σ2 h2 => And.intro (fun c4 => Exists.intro [.null, .ref 0, .null, .ref 59, .ref 60, .null, .null, .null, .ref 64, .int a9, .null, .null, .int a12, .int a13, .int a14, .int a15, .int a16, .null, .null, .null, .null, .int a21, .null, .null] (And.intro (And.intro (Or.inr rfl) (And.intro (Or.inr rfl) (And.intro (Or.inr rfl) (And.intro (Or.inr rfl) (And.intro (Or.inr rfl) (And.intro (Or.inr rfl) (And.intro (Or.inr rfl) (And.intro (Or.inr rfl) (And.intro (Or.inr rfl) (And.intro (Or.inr rfl) (And.intro (Or.inr rfl) (And.intro (Or.inr rfl) (And.intro (Or.inr rfl) (And.intro (Or.inr rfl) (And.intro (Or.inr rfl) (And.intro (Or.inr rfl) (And.intro (Or.inr rfl) (And.intro (Or.inr rfl) (And.intro (Or.inr rfl) (And.intro (Or.inr rfl) (And.intro (Or.inr rfl) (And.intro (Or.inr rfl) (And.intro (Or.inr rfl) (And.intro (Or.inr rfl) (trivial))))))))))))))))))))))))) (h2.1 c4))) (fun c4 => Exists.intro [.null, .ref 0, .null, .ref 59, .ref 60, .null, .null, .null, .ref 64, .int a9, .null, .null, .int a12, .int a13, .int a14, .int a15, .int a16, .null, .null, .null, .null, .int a21, .null, .null] (And.intro (And.intro (Or.inr rfl) (And.intro (Or.inr rfl) (And.intro (Or.inr rfl) (And.intro (Or.inr rfl) (And.intro (Or.inr rfl) (And.intro (Or.inr rfl) (And.intro (Or.inr rfl) (And.intro (Or.inr rfl) (And.intro (Or.inr rfl) (And.intro (Or.inr rfl) (And.intro (Or.inr rfl) (And.intro (Or.inr rfl) (And.intro (Or.inr rfl) (And.intro (Or.inr rfl) (And.intro (Or.inr rfl) (And.intro (Or.inr rfl) (And.intro (Or.inr rfl) (And.intro (Or.inr rfl) (And.intro (Or.inr rfl) (And.intro (Or.inr rfl) (And.intro (Or.inr rfl) (And.intro (Or.inr rfl) (And.intro (Or.inr rfl) (And.intro (Or.inr rfl) (trivial))))))))))))))))))))))))) (h2.2 c4)))))))
/-- L_law ([I)Z, 821 -/
theorem sg_43_821 {post : Int32 → tp_St → Prop} {σ : tp_St} (a9 : Int32) (a12 : Int32) (a13 : Int32) (a14 : Int32) (a15 : Int32) (a16 : Int32) (a21 : Int32) (s0 : Int32)  (h : tp_E 43 822 [.null, .ref 0, .null, .ref 59, .ref 60, .null, .null, .null, .ref 64, .int a9, .null, .null, .int a12, .int a13, .int a14, .int a15, .int a16, .null, .null, .null, .null, .int a21, .null, .null] [.int 0, .int s0] σ post) : tp_E 43 821 [.null, .ref 0, .null, .ref 59, .ref 60, .null, .null, .null, .ref 64, .int a9, .null, .null, .int a12, .int a13, .int a14, .int a15, .int a16, .null, .null, .null, .null, .int a21, .null, .null] [.int s0] σ post := tp_E_step (Exists.intro [.null, .ref 0, .null, .ref 59, .ref 60, .null, .null, .null, .ref 64, .int a9, .null, .null, .int a12, .int a13, .int a14, .int a15, .int a16, .null, .null, .null, .null, .int a21, .null, .null] (And.intro (And.intro (Or.inr rfl) (And.intro (Or.inr rfl) (And.intro (Or.inr rfl) (And.intro (Or.inr rfl) (And.intro (Or.inr rfl) (And.intro (Or.inr rfl) (And.intro (Or.inr rfl) (And.intro (Or.inr rfl) (And.intro (Or.inr rfl) (And.intro (Or.inr rfl) (And.intro (Or.inr rfl) (And.intro (Or.inr rfl) (And.intro (Or.inr rfl) (And.intro (Or.inr rfl) (And.intro (Or.inr rfl) (And.intro (Or.inr rfl) (And.intro (Or.inr rfl) (And.intro (Or.inr rfl) (And.intro (Or.inr rfl) (And.intro (Or.inr rfl) (And.intro (Or.inr rfl) (And.intro (Or.inr rfl) (And.intro (Or.inr rfl) (And.intro (Or.inr rfl) (trivial))))))))))))))))))))))))) h))
/-- L_law ([I)Z, 822 -/
theorem sg_43_822 {post : Int32 → tp_St → Prop} {σ : tp_St} (a9 : Int32) (a12 : Int32) (a13 : Int32) (a14 : Int32) (a15 : Int32) (a16 : Int32) (a21 : Int32) (s0 : Int32) (s1 : Int32)  (h : (s0 = s1 →
tp_E 43 764 [.null, .ref 0, .null, .ref 59, .ref 60, .null, .null, .null, .ref 64, .int a9, .null, .null, .int a12, .int a13, .int a14, .int a15, .int a16, .null, .null, .null, .null, .int (a21 + 1), .null, .null] [] σ post) ∧ (¬ s0 = s1 →
post 0 σ)) : tp_E 43 822 [.null, .ref 0, .null, .ref 59, .ref 60, .null, .null, .null, .ref 64, .int a9, .null, .null, .int a12, .int a13, .int a14, .int a15, .int a16, .null, .null, .null, .null, .int a21, .null, .null] [.int s1, .int s0] σ post := tp_E_step (And.intro (fun c1 => Exists.intro _ (And.intro (tp_wk_rf _) (tp_E_step (Exists.intro [.null, .ref 0, .null, .ref 59, .ref 60, .null, .null, .null, .ref 64, .int a9, .null, .null, .int a12, .int a13, .int a14, .int a15, .int a16, .null, .null, .null, .null, .int (a21 + 1), .null, .null] (And.intro (And.intro (Or.inr rfl) (And.intro (Or.inr rfl) (And.intro (Or.inr rfl) (And.intro (Or.inr rfl) (And.intro (Or.inr rfl) (And.intro (Or.inr rfl) (And.intro (Or.inr rfl) (And.intro (Or.inr rfl) (And.intro (Or.inr rfl) (And.intro (Or.inr rfl) (And.intro (Or.inr rfl) (And.intro (Or.inr rfl) (And.intro (Or.inr rfl) (And.intro (Or.inr rfl) (And.intro (Or.inr rfl) (And.intro (Or.inr rfl) (And.intro (Or.inr rfl) (And.intro (Or.inr rfl) (And.intro (Or.inr rfl) (And.intro (Or.inr rfl) (And.intro (Or.inr rfl) (And.intro (Or.inr rfl) (And.intro (Or.inr rfl) (And.intro (Or.inr rfl) (trivial))))))))))))))))))))))))) (h.1 c1)))))) (fun c1 => And.intro rfl (h.2 c1)))
/-- L_law ([I)Z, 833 -/
theorem sg_43_833 {post : Int32 → tp_St → Prop} {σ : tp_St} (a9 : Int32) (a12 : Int32) (a13 : Int32) (a14 : Int32) (a15 : Int32) (a16 : Int32)  (h : tp_E 43 454 [.null, .ref 0, .null, .ref 59, .ref 60, .null, .null, .null, .ref 64, .int a9, .null, .null, .int a12, .int a13, .int a14, .int a15, .int (a16 + 1), .null, .null, .null, .null, .null, .null, .null] [] σ post) : tp_E 43 833 [.null, .ref 0, .null, .ref 59, .ref 60, .null, .null, .null, .ref 64, .int a9, .null, .null, .int a12, .int a13, .int a14, .int a15, .int a16, .null, .null, .null, .null, .null, .null, .null] [] σ post := tp_E_step (Exists.intro [.null, .ref 0, .null, .ref 59, .ref 60, .null, .null, .null, .ref 64, .int a9, .null, .null, .int a12, .int a13, .int a14, .int a15, .int (a16 + 1), .null, .null, .null, .null, .null, .null, .null] (And.intro (And.intro (Or.inr rfl) (And.intro (Or.inr rfl) (And.intro (Or.inr rfl) (And.intro (Or.inr rfl) (And.intro (Or.inr rfl) (And.intro (Or.inr rfl) (And.intro (Or.inr rfl) (And.intro (Or.inr rfl) (And.intro (Or.inr rfl) (And.intro (Or.inr rfl) (And.intro (Or.inr rfl) (And.intro (Or.inr rfl) (And.intro (Or.inr rfl) (And.intro (Or.inr rfl) (And.intro (Or.inr rfl) (And.intro (Or.inr rfl) (And.intro (Or.inr rfl) (And.intro (Or.inr rfl) (And.intro (Or.inr rfl) (And.intro (Or.inr rfl) (And.intro (Or.inr rfl) (And.intro (Or.inr rfl) (And.intro (Or.inr rfl) (And.intro (Or.inr rfl) (trivial))))))))))))))))))))))))) h))
/-- L_law ([I)Z, 850 -/
theorem sg_43_850 {post : Int32 → tp_St → Prop} {σ : tp_St} (a9 : Int32) (a12 : Int32) (a13 : Int32) (a14 : Int32) (a15 : Int32) (s1 : Int32)  (h : tp_E 28 0 [.ref 0, .int s1, .int a12, .int 0, .null, .null] [] σ (fun r1 σ1 =>
(r1 = a14 →
(a13 = 0 →
tp_E 43 872 [.null, .ref 0, .null, .ref 59, .ref 60, .null, .null, .null, .ref 64, .int a9, .null, .null, .int a12, .int a13, .null, .int a15, .null, .null, .null, .null, .null, .null, .null, .null] [.int 1, .ref 0] σ1 post) ∧ (¬ a13 = 0 →
tp_E 43 872 [.null, .ref 0, .null, .ref 59, .ref 60, .null, .null, .null, .ref 64, .int a9, .null, .null, .int a12, .int a13, .null, .int a15, .null, .null, .null, .null, .null, .null, .null, .null] [.int 0, .ref 0] σ1 post)) ∧ (¬ r1 = a14 →
tp_E 43 883 [.null, .null, .null, .null, .null, .null, .null, .null, .null, .null, .null, .null, .null, .null, .null, .null, .null, .null, .null, .null, .null, .null, .null, .null] [] σ1 post))) : tp_E 43 850 [.null, .ref 0, .null, .ref 59, .ref 60, .null, .null, .null, .ref 64, .int a9, .null, .null, .int a12, .int a13, .int a14, .int a15, .null, .null, .null, .null, .null, .null, .null, .null] [.int s1, .ref 0] σ post := tp_E_step (tp_Em h (fun r1 σ1 h1 => And.intro (fun c2 => And.intro (fun c3 => Exists.intro [.null, .ref 0, .null, .ref 59, .ref 60, .null, .null, .null, .ref 64, .int a9, .null, .null, .int a12, .int a13, .null, .int a15, .null, .null, .null, .null, .null, .null, .null, .null] (And.intro (And.intro (Or.inr rfl) (And.intro (Or.inr rfl) (And.intro (Or.inr rfl) (And.intro (Or.inr rfl) (And.intro (Or.inr rfl) (And.intro (Or.inr rfl) (And.intro (Or.inr rfl) (And.intro (Or.inr rfl) (And.intro (Or.inr rfl) (And.intro (Or.inr rfl) (And.intro (Or.inr rfl) (And.intro (Or.inr rfl) (And.intro (Or.inr rfl) (And.intro (Or.inr rfl) (And.intro (Or.inl rfl) (And.intro (Or.inr rfl) (And.intro (Or.inr rfl) (And.intro (Or.inr rfl) (And.intro (Or.inr rfl) (And.intro (Or.inr rfl) (And.intro (Or.inr rfl) (And.intro (Or.inr rfl) (And.intro (Or.inr rfl) (And.intro (Or.inr rfl) (trivial))))))))))))))))))))))))) ((h1.1 c2).1 c3))) (fun c3 => Exists.intro _ (And.intro (tp_wk_rf _) (tp_E_step (Exists.intro [.null, .ref 0, .null, .ref 59, .ref 60, .null, .null, .null, .ref 64, .int a9, .null, .null, .int a12, .int a13, .null, .int a15, .null, .null, .null, .null, .null, .null, .null, .null] (And.intro (And.intro (Or.inr rfl) (And.intro (Or.inr rfl) (And.intro (Or.inr rfl) (And.intro (Or.inr rfl) (And.intro (Or.inr rfl) (And.intro (Or.inr rfl) (And.intro (Or.inr rfl) (And.intro (Or.inr rfl) (And.intro (Or.inr rfl) (And.intro (Or.inr rfl) (And.intro (Or.inr rfl) (And.intro (Or.inr rfl) (And.intro (Or.inr rfl) (And.intro (Or.inr rfl) (And.intro (Or.inl rfl) (And.intro (Or.inr rfl) (And.intro (Or.inr rfl) (And.intro (Or.inr rfl) (And.intro (Or.inr rfl) (And.intro (Or.inr rfl) (And.intro (Or.inr rfl) (And.intro (Or.inr rfl) (And.intro (Or.inr rfl) (And.intro (Or.inr rfl) (trivial))))))))))))))))))))))))) ((h1.1 c2).2 c3))))))) (fun c2 => Exists.intro [.null, .null, .null, .null, .null, .null, .null, .null, .null, .null, .null, .null, .null, .null, .null, .null, .null, .null, .null, .null, .null, .null, .null, .null] (And.intro (And.intro (Or.inr rfl) (And.intro (Or.inl rfl) (And.intro (Or.inr rfl) (And.intro (Or.inl rfl) (And.intro (Or.inl rfl) (And.intro (Or.inr rfl) (And.intro (Or.inr rfl) (And.intro (Or.inr rfl) (And.intro (Or.inl rfl) (And.intro (Or.inl rfl) (And.intro (Or.inr rfl) (And.intro (Or.inr rfl) (And.intro (Or.inl rfl) (And.intro (Or.inl rfl) (And.intro (Or.inl rfl) (And.intro (Or.inl rfl) (And.intro (Or.inr rfl) (And.intro (Or.inr rfl) (And.intro (Or.inr rfl) (And.intro (Or.inr rfl) (And.intro (Or.inr rfl) (And.intro (Or.inr rfl) (And.intro (Or.inr rfl) (And.intro (Or.inr rfl) (trivial))))))))))))))))))))))))) (h1.2 c2)))))
/-- L_law ([I)Z, 872 -/
theorem sg_43_872 {post : Int32 → tp_St → Prop} {σ : tp_St} (a9 : Int32) (a12 : Int32) (a13 : Int32) (a15 : Int32) (s1 : Int32)  (h : tp_E 28 0 [.ref 0, .int s1, .int a12, .int 1, .null, .null] [] σ (fun r1 σ1 =>
(r1 = a15 →
tp_E 43 439 [.null, .ref 0, .null, .ref 59, .ref 60, .null, .null, .null, .ref 64, .int a9, .null, .null, .int a12, .int (a13 + 1), .null, .null, .null, .null, .null, .null, .null, .null, .null, .null] [] σ1 post) ∧ (¬ r1 = a15 →
tp_E 43 883 [.null, .null, .null, .null, .null, .null, .null, .null, .null, .null, .null, .null, .null, .null, .null, .null, .null, .null, .null, .null, .null, .null, .null, .null] [] σ1 post))) : tp_E 43 872 [.null, .ref 0, .null, .ref 59, .ref 60, .null, .null, .null, .ref 64, .int a9, .null, .null, .int a12, .int a13, .null, .int a15, .null, .null, .null, .null, .null, .null, .null, .null] [.int s1, .ref 0] σ post := tp_E_step (tp_Em h (fun r1 σ1 h1 => And.intro (fun c2 => Exists.intro _ (And.intro (tp_wk_rf _) (tp_E_step (Exists.intro [.null, .ref 0, .null, .ref 59, .ref 60, .null, .null, .null, .ref 64, .int a9, .null, .null, .int a12, .int (a13 + 1), .null, .null, .null, .null, .null, .null, .null, .null, .null, .null] (And.intro (And.intro (Or.inr rfl) (And.intro (Or.inr rfl) (And.intro (Or.inr rfl) (And.intro (Or.inr rfl) (And.intro (Or.inr rfl) (And.intro (Or.inr rfl) (And.intro (Or.inr rfl) (And.intro (Or.inr rfl) (And.intro (Or.inr rfl) (And.intro (Or.inr rfl) (And.intro (Or.inr rfl) (And.intro (Or.inr rfl) (And.intro (Or.inr rfl) (And.intro (Or.inr rfl) (And.intro (Or.inr rfl) (And.intro (Or.inl rfl) (And.intro (Or.inr rfl) (And.intro (Or.inr rfl) (And.intro (Or.inr rfl) (And.intro (Or.inr rfl) (And.intro (Or.inr rfl) (And.intro (Or.inr rfl) (And.intro (Or.inr rfl) (And.intro (Or.inr rfl) (trivial))))))))))))))))))))))))) (h1.1 c2)))))) (fun c2 => Exists.intro [.null, .null, .null, .null, .null, .null, .null, .null, .null, .null, .null, .null, .null, .null, .null, .null, .null, .null, .null, .null, .null, .null, .null, .null] (And.intro (And.intro (Or.inr rfl) (And.intro (Or.inl rfl) (And.intro (Or.inr rfl) (And.intro (Or.inl rfl) (And.intro (Or.inl rfl) (And.intro (Or.inr rfl) (And.intro (Or.inr rfl) (And.intro (Or.inr rfl) (And.intro (Or.inl rfl) (And.intro (Or.inl rfl) (And.intro (Or.inr rfl) (And.intro (Or.inr rfl) (And.intro (Or.inl rfl) (And.intro (Or.inl rfl) (And.intro (Or.inr rfl) (And.intro (Or.inl rfl) (And.intro (Or.inr rfl) (And.intro (Or.inr rfl) (And.intro (Or.inr rfl) (And.intro (Or.inr rfl) (And.intro (Or.inr rfl) (And.intro (Or.inr rfl) (And.intro (Or.inr rfl) (And.intro (Or.inr rfl) (trivial))))))))))))))))))))))))) (h1.2 c2)))))
/-- L_law ([I)Z, 883 -/
theorem sg_43_883 {post : Int32 → tp_St → Prop} {σ : tp_St}   (h : post 0 σ) : tp_E 43 883 [.null, .null, .null, .null, .null, .null, .null, .null, .null, .null, .null, .null, .null, .null, .null, .null, .null, .null, .null, .null, .null, .null, .null, .null] [] σ post := tp_E_step (And.intro rfl h)
/-- L_law ([I)Z, 903 -/
theorem sg_43_903 {post : Int32 → tp_St → Prop} {σ : tp_St} (a12 : Int32)  (h : (a12 < 0 →
tp_E 43 997 [.null, .ref 0, .null, .null, .null, .null, .null, .null, .null, .null, .null, .null, .int 0, .null, .null, .null, .null, .null, .null, .null, .null, .null, .null, .null] [] σ post) ∧ (¬ a12 < 0 →
tp_E 25 0 [.ref 0, .null, .null, .null] [] σ (fun r1 σ1 =>
(r1 = a12 →
64 < σ1.2.1 ∧
vp_in ((4 * a12) + 1) 60 ∧
64 < σ1.2.1 ∧
vp_in ((4 * a12) + 2) 60 ∧
tp_E 21 0 [.ref 0, .int (σ1.1 64 (((4 * a12) + 1)).toNatClampNeg), .int (σ1.1 64 (((4 * a12) + 2)).toNatClampNeg), .int 0, .null] [] σ1 (fun r2 σ2 =>
64 < σ2.2.1 ∧
vp_in ((4 * a12) + 3) 60 ∧
(r2 = (σ2.1 64 (((4 * a12) + 3)).toNatClampNeg) →
64 < σ2.2.1 ∧
vp_in ((4 * a12) + 2) 60 ∧
64 < σ2.2.1 ∧
vp_in ((4 * a12) + 3) 60 ∧
tp_E 29 0 [.ref 0, .int 0, .int 0, .int (σ2.1 64 (((4 * a12) + 2)).toNatClampNeg), .int (σ2.1 64 (((4 * a12) + 3)).toNatClampNeg), .null, .null] [] σ2 (fun r3 σ3 =>
(r3 = 1 →
tp_E 43 903 [.null, .ref 0, .null, .null, .null, .null, .null, .null, .ref 64, .null, .null, .null, .int (a12 + (-1)), .null, .null, .null, .null, .null, .null, .null, .null, .null, .null, .null] [] σ3 post) ∧ (¬ r3 = 1 →
tp_E 43 986 [.null, .null, .null, .null, .null, .null, .null, .null, .null, .null, .null, .null, .null, .null, .null, .null, .null, .null, .null, .null, .null, .null, .null, .null] [] σ3 post))) ∧ (¬ r2 = (σ2.1 64 (((4 * a12) + 3)).toNatClampNeg) →
tp_E 43 986 [.null, .null, .null, .null, .null, .null, .null, .null, .null, .null, .null, .null, .null, .null, .null, .null, .null, .null, .null, .null, .null, .null, .null, .null] [] σ2 post))) ∧ (¬ r1 = a12 →
post 0 σ1)))) : tp_E 43 903 [.null, .ref 0, .null, .null, .null, .null, .null, .null, .ref 64, .null, .null, .null, .int a12, .null, .null, .null, .null, .null, .null, .null, .null, .null, .null, .null] [] σ post := tp_E_step (And.intro (fun c2 => Exists.intro _ (And.intro (tp_wk_rf _) (tp_E_step (Exists.intro [.null, .ref 0, .null, .null, .null, .null, .null, .null, .null, .null, .null, .null, .int 0, .null, .null, .null, .null, .null, .null, .null, .null, .null, .null, .null] (And.intro (And.intro (Or.inr rfl) (And.intro (Or.inr rfl) (And.intro (Or.inr rfl) (And.intro (Or.inr rfl) (And.intro (Or.inr rfl) (And.intro (Or.inr rfl) (And.intro (Or.inr rfl) (And.intro (Or.inr rfl) (And.intro (Or.inl rfl) (And.intro (Or.inr rfl) (And.intro (Or.inr rfl) (And.intro (Or.inr rfl) (And.intro (Or.inr rfl) (And.intro (Or.inr rfl) (And.intro (Or.inr rfl) (And.intro (Or.inr rfl) (And.intro (Or.inr rfl) (And.intro (Or.inr rfl) (And.intro (Or.inr rfl) (And.intro (Or.inr rfl) (And.intro (Or.inr rfl) (And.intro (Or.inr rfl) (And.intro (Or.inr rfl) (And.intro (Or.inr rfl) (trivial))))))))))))))))))))))))) (h.1 c2)))))) (fun c2 => tp_Em (h.2 c2) (fun r1 σ1 h1 => And.intro (fun c3 => Exists.intro _ (And.intro (tp_wk_rf _) (tp_E_step (And.intro (Or.inr (Or.inl (h1.1 c3).1)) (And.intro (h1.1 c3).2.1 (And.intro (Or.inr (Or.inl (h1.1 c3).2.2.1)) (And.intro (h1.1 c3).2.2.2.1 (tp_Em (h1.1 c3).2.2.2.2 (fun r4 σ4 h4 => And.intro (Or.inr (Or.inl h4.1)) (And.intro h4.2.1 (And.intro (fun c6 => And.intro (Or.inr (Or.inl (h4.2.2.1 c6).1)) (And.intro (h4.2.2.1 c6).2.1 (And.intro (Or.inr (Or.inl (h4.2.2.1 c6).2.2.1)) (And.intro (h4.2.2.1 c6).2.2.2.1 (tp_Em (h4.2.2.1 c6).2.2.2.2 (fun r5 σ5 h5 => And.intro (fun c7 => Exists.intro _ (And.intro (tp_wk_rf _) (tp_E_step (Exists.intro [.null, .ref 0, .null, .null, .null, .null, .null, .null, .ref 64, .null, .null, .null, .int (a12 + (-1)), .null, .null, .null, .null, .null, .null, .null, .null, .null, .null, .null] (And.intro (And.intro (Or.inr rfl) (And.intro (Or.inr rfl) (And.intro (Or.inr rfl) (And.intro (Or.inr rfl) (And.intro (Or.inr rfl) (And.intro (Or.inr rfl) (And.intro (Or.inr rfl) (And.intro (Or.inr rfl) (And.intro (Or.inr rfl) (And.intro (Or.inr rfl) (And.intro (Or.inr rfl) (And.intro (Or.inr rfl) (And.intro (Or.inr rfl) (And.intro (Or.inl rfl) (And.intro (Or.inr rfl) (And.intro (Or.inr rfl) (And.intro (Or.inr rfl) (And.intro (Or.inr rfl) (And.intro (Or.inr rfl) (And.intro (Or.inr rfl) (And.intro (Or.inr rfl) (And.intro (Or.inr rfl) (And.intro (Or.inr rfl) (And.intro (Or.inr rfl) (trivial))))))))))))))))))))))))) (h5.1 c7)))))) (fun c7 => Exists.intro [.null, .null, .null, .null, .null, .null, .null, .null, .null, .null, .null, .null, .null, .null, .null, .null, .null, .null, .null, .null, .null, .null, .null, .null] (And.intro (And.intro (Or.inr rfl) (And.intro (Or.inl rfl) (And.intro (Or.inr rfl) (And.intro (Or.inr rfl) (And.intro (Or.inr rfl) (And.intro (Or.inr rfl) (And.intro (Or.inr rfl) (And.intro (Or.inr rfl) (And.intro (Or.inl rfl) (And.intro (Or.inr rfl) (And.intro (Or.inr rfl) (And.intro (Or.inr rfl) (And.intro (Or.inl rfl) (And.intro (Or.inl rfl) (And.intro (Or.inr rfl) (And.intro (Or.inr rfl) (And.intro (Or.inr rfl) (And.intro (Or.inr rfl) (And.intro (Or.inr rfl) (And.intro (Or.inr rfl) (And.intro (Or.inr rfl) (And.intro (Or.inr rfl) (And.intro (Or.inr rfl) (And.intro (Or.inr rfl) (trivial))))))))))))))))))))))))) (h5.2 c7))))))))) (fun c6 => Exists.intro [.null, .null, .null, .null, .null, .null, .null, .null, .null, .null, .null, .null, .null, .null, .null, .null, .null, .null, .null, .null, .null, .null, .null, .null] (And.intro (And.intro (Or.inr rfl) (And.intro (Or.inl rfl) (And.intro (Or.inr rfl) (And.intro (Or.inr rfl) (And.intro (Or.inr rfl) (And.intro (Or.inr rfl) (And.intro (Or.inr rfl) (And.intro (Or.inr rfl) (And.intro (Or.inl rfl) (And.intro (Or.inr rfl) (And.intro (Or.inr rfl) (And.intro (Or.inr rfl) (And.intro (Or.inl rfl) (And.intro (Or.inl rfl) (And.intro (Or.inr rfl) (And.intro (Or.inr rfl) (And.intro (Or.inr rfl) (And.intro (Or.inr rfl) (And.intro (Or.inr rfl) (And.intro (Or.inr rfl) (And.intro (Or.inr rfl) (And.intro (Or.inr rfl) (And.intro (Or.inr rfl) (And.intro (Or.inr rfl) (trivial))))))))))))))))))))))))) (h4.2.2.2 c6)))))))))))))) (fun c3 => And.intro rfl (h1.2 c3)))))
/-- L_law ([I)Z, 986 -/
theorem sg_43_986 {post : Int32 → tp_St → Prop} {σ : tp_St}   (h : post 0 σ) : tp_E 43 986 [.null, .null, .null, .null, .null, .null, .null, .null, .null, .null, .null, .null, .null, .null, .null, .null, .null, .null, .null, .null, .null, .null, .null, .null] [] σ post := tp_E_step (And.intro rfl h)
/-- L_law ([I)Z, 997 -/
theorem sg_43_997 {post : Int32 → tp_St → Prop} {σ : tp_St} (a12 : Int32)  (h : (4 ≤ a12 →
tp_E 25 0 [.ref 0, .null, .null, .null] [] σ (fun r3 σ3 =>
(r3 = (-4) →
tp_E 31 0 [.ref 0, .int 0, .null, .null, .null, .null] [] σ3 (fun r4 σ4 =>
(r4 = (-4) →
tp_E 31 0 [.ref 0, .int 1, .null, .null, .null, .null] [] σ4 (fun r5 σ5 =>
(r5 = (-4) →
tp_E 43 1063 [.null, .null, .null, .null, .null, .null, .null, .null, .null, .null, .null, .null, .null, .null, .null, .null, .null, .null, .null, .null, .null, .null, .null, .null] [.int 1] σ5 post) ∧ (¬ r5 = (-4) →
tp_E 43 1062 [.null, .null, .null, .null, .null, .null, .null, .null, .null, .null, .null, .null, .null, .null, .null, .null, .null, .null, .null, .null, .null, .null, .null, .null] [] σ5 post))) ∧ (¬ r4 = (-4) →
tp_E 43 1062 [.null, .null, .null, .null, .null, .null, .null, .null, .null, .null, .null, .null, .null, .null, .null, .null, .null, .null, .null, .null, .null, .null, .null, .null] [] σ4 post))) ∧ (¬ r3 = (-4) →
tp_E 43 1062 [.null, .null, .null, .null, .null, .null, .null, .null, .null, .null, .null, .null, .null, .null, .null, .null, .null, .null, .null, .null, .null, .null, .null, .null] [] σ3 post))) ∧ (¬ 4 ≤ a12 →
tp_E 26 0 [.ref 0, .int a12] [] σ (fun r1 σ1 =>
(r1 = 0 →
tp_E 23 0 [.ref 0, .int a12] [] σ1 (fun r2 σ2 =>
(r2 = 0 →
tp_E 43 997 [.null, .ref 0, .null, .null, .null, .null, .null, .null, .null, .null, .null, .null, .int (a12 + 1), .null, .null, .null, .null, .null, .null, .null, .null, .null, .null, .null] [] σ2 post) ∧ (¬ r2 = 0 →
tp_E 43 1021 [.null, .null, .null, .null, .null, .null, .null, .null, .null, .null, .null, .null, .null, .null, .null, .null, .null, .null, .null, .null, .null, .null, .null, .null] [] σ2 post))) ∧ (¬ r1 = 0 →
tp_E 43 1021 [.null, .null, .null, .null, .null, .null, .null, .null, .null, .null, .null, .null, .null, .null, .null, .null, .null, .null, .null, .null, .null, .null, .null, .null] [] σ1 post)))) : tp_E 43 997 [.null, .ref 0, .null, .null, .null, .null, .null, .null, .null, .null, .null, .null, .int a12, .null, .null, .null, .null, .null, .null, .null, .null, .null, .null, .null] [] σ post := tp_E_step (And.intro (fun c3 => Exists.intro _ (And.intro (tp_wk_rf _) (tp_E_step (tp_Em (h.1 c3) (fun r4 σ4 h4 => And.intro (fun c7 => tp_Em (h4.1 c7) (fun r5 σ5 h5 => And.intro (fun c8 => tp_Em (h5.1 c8) (fun r6 σ6 h6 => And.intro (fun c9 => Exists.intro [.null, .null, .null, .null, .null, .null, .null, .null, .null, .null, .null, .null, .null, .null, .null, .null, .null, .null, .null, .null, .null, .null, .null, .null] (And.intro (And.intro (Or.inr rfl) (And.intro (Or.inl rfl) (And.intro (Or.inr rfl) (And.intro (Or.inr rfl) (And.intro (Or.inr rfl) (And.intro (Or.inr rfl) (And.intro (Or.inr rfl) (And.intro (Or.inr rfl) (And.intro (Or.inr rfl) (And.intro (Or.inr rfl) (And.intro (Or.inr rfl) (And.intro (Or.inr rfl) (And.intro (Or.inl rfl) (And.intro (Or.inr rfl) (And.intro (Or.inr rfl) (And.intro (Or.inr rfl) (And.intro (Or.inr rfl) (And.intro (Or.inr rfl) (And.intro (Or.inr rfl) (And.intro (Or.inr rfl) (And.intro (Or.inr rfl) (And.intro (Or.inr rfl) (And.intro (Or.inr rfl) (And.intro (Or.inr rfl) (trivial))))))))))))))))))))))))) (h6.1 c9))) (fun c9 => Exists.intro [.null, .null, .null, .null, .null, .null, .null, .null, .null, .null, .null, .null, .null, .null, .null, .null, .null, .null, .null, .null, .null, .null, .null, .null] (And.intro (And.intro (Or.inr rfl) (And.intro (Or.inl rfl) (And.intro (Or.inr rfl) (And.intro (Or.inr rfl) (And.intro (Or.inr rfl) (And.intro (Or.inr rfl) (And.intro (Or.inr rfl) (And.intro (Or.inr rfl) (And.intro (Or.inr rfl) (And.intro (Or.inr rfl) (And.intro (Or.inr rfl) (And.intro (Or.inr rfl) (And.intro (Or.inl rfl) (And.intro (Or.inr rfl) (And.intro (Or.inr rfl) (And.intro (Or.inr rfl) (And.intro (Or.inr rfl) (And.intro (Or.inr rfl) (And.intro (Or.inr rfl) (And.intro (Or.inr rfl) (And.intro (Or.inr rfl) (And.intro (Or.inr rfl) (And.intro (Or.inr rfl) (And.intro (Or.inr rfl) (trivial))))))))))))))))))))))))) (h6.2 c9))))) (fun c8 => Exists.intro [.null, .null, .null, .null, .null, .null, .null, .null, .null, .null, .null, .null, .null, .null, .null, .null, .null, .null, .null, .null, .null, .null, .null, .null] (And.intro (And.intro (Or.inr rfl) (And.intro (Or.inl rfl) (And.intro (Or.inr rfl) (And.intro (Or.inr rfl) (And.intro (Or.inr rfl) (And.intro (Or.inr rfl) (And.intro (Or.inr rfl) (And.intro (Or.inr rfl) (And.intro (Or.inr rfl) (And.intro (Or.inr rfl) (And.intro (Or.inr rfl) (And.intro (Or.inr rfl) (And.intro (Or.inl rfl) (And.intro (Or.inr rfl) (And.intro (Or.inr rfl) (And.intro (Or.inr rfl) (And.intro (Or.inr rfl) (And.intro (Or.inr rfl) (And.intro (Or.inr rfl) (And.intro (Or.inr rfl) (And.intro (Or.inr rfl) (And.intro (Or.inr rfl) (And.intro (Or.inr rfl) (And.intro (Or.inr rfl) (trivial))))))))))))))))))))))))) (h5.2 c8))))) (fun c7 => Exists.intro [.null, .null, .null, .null, .null, .null, .null, .null, .null, .null, .null, .null, .null, .null, .null, .null, .null, .null, .null, .null, .null, .null, .null, .null] (And.intro (And.intro (Or.inr rfl) (And.intro (Or.inl rfl) (And.intro (Or.inr rfl) (And.intro (Or.inr rfl) (And.intro (Or.inr rfl) (And.intro (Or.inr rfl) (And.intro (Or.inr rfl) (And.intro (Or.inr rfl) (And.intro (Or.inr rfl) (And.intro (Or.inr rfl) (And.intro (Or.inr rfl) (And.intro (Or.inr rfl) (And.intro (Or.inl rfl) (And.intro (Or.inr rfl) (And.intro (Or.inr rfl) (And.intro (Or.inr rfl) (And.intro (Or.inr rfl) (And.intro (Or.inr rfl) (And.intro (Or.inr rfl) (And.intro (Or.inr rfl) (And.intro (Or.inr rfl) (And.intro (Or.inr rfl) (And.intro (Or.inr rfl) (And.intro (Or.inr rfl) (trivial))))))))))))))))))))))))) (h4.2 c7)))))))) (fun c3 => tp_Em (h.2 c3) (fun r1 σ1 h1 => And.intro (fun c10 => tp_Em (h1.1 c10) (fun r2 σ2 h2 => And.intro (fun c11 => Exists.intro _ (And.intro (tp_wk_rf _) (tp_E_step (Exists.intro [.null, .ref 0, .null, .null, .null, .null, .null, .null, .null, .null, .null, .null, .int (a12 + 1), .null, .null, .null, .null, .null, .null, .null, .null, .null, .null, .null] (And.intro (And.intro (Or.inr rfl) (And.intro (Or.inr rfl) (And.intro (Or.inr rfl) (And.intro (Or.inr rfl) (And.intro (Or.inr rfl) (And.intro (Or.inr rfl) (And.intro (Or.inr rfl) (And.intro (Or.inr rfl) (And.intro (Or.inr rfl) (And.intro (Or.inr rfl) (And.intro (Or.inr rfl) (And.intro (Or.inr rfl) (And.intro (Or.inr rfl) (And.intro (Or.inr rfl) (And.intro (Or.inr rfl) (And.intro (Or.inr rfl) (And.intro (Or.inr rfl) (And.intro (Or.inr rfl) (And.intro (Or.inr rfl) (And.intro (Or.inr rfl) (And.intro (Or.inr rfl) (And.intro (Or.inr rfl) (And.intro (Or.inr rfl) (And.intro (Or.inr rfl) (trivial))))))))))))))))))))))))) (h2.1 c11)))))) (fun c11 => Exists.intro [.null, .null, .null, .null, .null, .null, .null, .null, .null, .null, .null, .null, .null, .null, .null, .null, .null, .null, .null, .null, .null, .null, .null, .null] (And.intro (And.intro (Or.inr rfl) (And.intro (Or.inl rfl) (And.intro (Or.inr rfl) (And.intro (Or.inr rfl) (And.intro (Or.inr rfl) (And.intro (Or.inr rfl) (And.intro (Or.inr rfl) (And.intro (Or.inr rfl) (And.intro (Or.inr rfl) (And.intro (Or.inr rfl) (And.intro (Or.inr rfl) (And.intro (Or.inr rfl) (And.intro (Or.inl rfl) (And.intro (Or.inr rfl) (And.intro (Or.inr rfl) (And.intro (Or.inr rfl) (And.intro (Or.inr rfl) (And.intro (Or.inr rfl) (And.intro (Or.inr rfl) (And.intro (Or.inr rfl) (And.intro (Or.inr rfl) (And.intro (Or.inr rfl) (And.intro (Or.inr rfl) (And.intro (Or.inr rfl) (trivial))))))))))))))))))))))))) (h2.2 c11))))) (fun c10 => Exists.intro [.null, .null, .null, .null, .null, .null, .null, .null, .null, .null, .null, .null, .null, .null, .null, .null, .null, .null, .null, .null, .null, .null, .null, .null] (And.intro (And.intro (Or.inr rfl) (And.intro (Or.inl rfl) (And.intro (Or.inr rfl) (And.intro (Or.inr rfl) (And.intro (Or.inr rfl) (And.intro (Or.inr rfl) (And.intro (Or.inr rfl) (And.intro (Or.inr rfl) (And.intro (Or.inr rfl) (And.intro (Or.inr rfl) (And.intro (Or.inr rfl) (And.intro (Or.inr rfl) (And.intro (Or.inl rfl) (And.intro (Or.inr rfl) (And.intro (Or.inr rfl) (And.intro (Or.inr rfl) (And.intro (Or.inr rfl) (And.intro (Or.inr rfl) (And.intro (Or.inr rfl) (And.intro (Or.inr rfl) (And.intro (Or.inr rfl) (And.intro (Or.inr rfl) (And.intro (Or.inr rfl) (And.intro (Or.inr rfl) (trivial))))))))))))))))))))))))) (h1.2 c10))))))
/-- L_law ([I)Z, 1021 -/
theorem sg_43_1021 {post : Int32 → tp_St → Prop} {σ : tp_St}   (h : post 0 σ) : tp_E 43 1021 [.null, .null, .null, .null, .null, .null, .null, .null, .null, .null, .null, .null, .null, .null, .null, .null, .null, .null, .null, .null, .null, .null, .null, .null] [] σ post := tp_E_step (And.intro rfl h)
/-- L_law ([I)Z, 1062 -/
theorem sg_43_1062 {post : Int32 → tp_St → Prop} {σ : tp_St}   (h : tp_E 43 1063 [.null, .null, .null, .null, .null, .null, .null, .null, .null, .null, .null, .null, .null, .null, .null, .null, .null, .null, .null, .null, .null, .null, .null, .null] [.int 0] σ post) : tp_E 43 1062 [.null, .null, .null, .null, .null, .null, .null, .null, .null, .null, .null, .null, .null, .null, .null, .null, .null, .null, .null, .null, .null, .null, .null, .null] [] σ post := tp_E_step (Exists.intro [.null, .null, .null, .null, .null, .null, .null, .null, .null, .null, .null, .null, .null, .null, .null, .null, .null, .null, .null, .null, .null, .null, .null, .null] (And.intro (And.intro (Or.inr rfl) (And.intro (Or.inr rfl) (And.intro (Or.inr rfl) (And.intro (Or.inr rfl) (And.intro (Or.inr rfl) (And.intro (Or.inr rfl) (And.intro (Or.inr rfl) (And.intro (Or.inr rfl) (And.intro (Or.inr rfl) (And.intro (Or.inr rfl) (And.intro (Or.inr rfl) (And.intro (Or.inr rfl) (And.intro (Or.inr rfl) (And.intro (Or.inr rfl) (And.intro (Or.inr rfl) (And.intro (Or.inr rfl) (And.intro (Or.inr rfl) (And.intro (Or.inr rfl) (And.intro (Or.inr rfl) (And.intro (Or.inr rfl) (And.intro (Or.inr rfl) (And.intro (Or.inr rfl) (And.intro (Or.inr rfl) (And.intro (Or.inr rfl) (trivial))))))))))))))))))))))))) h))
/-- L_law ([I)Z, 1063 -/
theorem sg_43_1063 {post : Int32 → tp_St → Prop} {σ : tp_St} (s0 : Int32)  (h : narrow .boolean (.int s0) = .int s0 ∧ post s0 σ) : tp_E 43 1063 [.null, .null, .null, .null, .null, .null, .null, .null, .null, .null, .null, .null, .null, .null, .null, .null, .null, .null, .null, .null, .null, .null, .null, .null] [.int s0] σ post := tp_E_step (h)
end
section
abbrev H_42_0 (a2 : Int32) (a3 : Int32) (a4 : Int32) (σ : tp_St) (post : Int32 → tp_St → Prop) : Prop := tp_E 42 0 [.ref 0, .ref 90, .int a2, .int a3, .int a4, .ref 60, .ref 64, .ref 62, .ref 63, .ref 61, .null, .null, .null, .null, .null, .null, .null, .null, .null, .null, .null] [] σ post
abbrev H_42_3 (a2 : Int32) (a3 : Int32) (a4 : Int32) (a10 : Int32) (σ : tp_St) (post : Int32 → tp_St → Prop) : Prop := tp_E 42 3 [.ref 0, .ref 90, .int a2, .int a3, .int a4, .ref 60, .ref 64, .ref 62, .ref 63, .ref 61, .int a10, .null, .null, .null, .null, .null, .null, .null, .null, .null, .null] [] σ post
abbrev H_42_45 (a2 : Int32) (a3 : Int32) (a4 : Int32) (a10 : Int32) (a11 : Int32) (a12 : Int32) (a13 : Int32) (a14 : Int32) (a15 : Int32) (σ : tp_St) (post : Int32 → tp_St → Prop) : Prop := tp_E 42 45 [.ref 0, .ref 90, .int a2, .int a3, .int a4, .ref 60, .ref 64, .ref 62, .ref 63, .ref 61, .int a10, .int a11, .int a12, .int a13, .int a14, .int a15, .null, .null, .null, .null, .null] [] σ post
abbrev H_42_79 (a2 : Int32) (a3 : Int32) (a4 : Int32) (a10 : Int32) (a11 : Int32) (a12 : Int32) (a13 : Int32) (a14 : Int32) (a15 : Int32) (σ : tp_St) (post : Int32 → tp_St → Prop) : Prop := tp_E 42 79 [.ref 0, .ref 90, .int a2, .int a3, .int a4, .ref 60, .ref 64, .ref 62, .ref 63, .ref 61, .int a10, .int a11, .int a12, .int a13, .int a14, .int a15, .null, .null, .null, .null, .null] [] σ post
abbrev H_42_141 (a2 : Int32) (a3 : Int32) (a4 : Int32) (a10 : Int32) (a11 : Int32) (a12 : Int32) (a13 : Int32) (a14 : Int32) (s0 : Int32) (σ : tp_St) (post : Int32 → tp_St → Prop) : Prop := tp_E 42 141 [.ref 0, .ref 90, .int a2, .int a3, .int a4, .ref 60, .ref 64, .ref 62, .ref 63, .ref 61, .int a10, .int a11, .int a12, .int a13, .int a14, .null, .null, .null, .null, .null, .null] [.int s0] σ post
abbrev H_42_168 (a2 : Int32) (a3 : Int32) (a4 : Int32) (a10 : Int32) (a12 : Int32) (a13 : Int32) (a14 : Int32) (a15 : Int32) (σ : tp_St) (post : Int32 → tp_St → Prop) : Prop := tp_E 42 168 [.ref 0, .ref 90, .int a2, .int a3, .int a4, .ref 60, .ref 64, .ref 62, .ref 63, .ref 61, .int a10, .null, .int a12, .int a13, .int a14, .int a15, .null, .null, .null, .null, .null] [] σ post
abbrev H_42_182 (a2 : Int32) (a3 : Int32) (a4 : Int32) (a10 : Int32) (a12 : Int32) (a13 : Int32) (a14 : Int32) (s0 : Int32) (σ : tp_St) (post : Int32 → tp_St → Prop) : Prop := tp_E 42 182 [.ref 0, .ref 90, .int a2, .int a3, .int a4, .ref 60, .ref 64, .ref 62, .ref 63, .ref 61, .int a10, .null, .int a12, .int a13, .int a14, .null, .null, .null, .null, .null, .null] [.int s0] σ post
abbrev H_42_203 (a2 : Int32) (a3 : Int32) (a4 : Int32) (a10 : Int32) (a12 : Int32) (a13 : Int32) (a14 : Int32) (a15 : Int32) (s0 : Int32) (σ : tp_St) (post : Int32 → tp_St → Prop) : Prop := tp_E 42 203 [.ref 0, .ref 90, .int a2, .int a3, .int a4, .ref 60, .ref 64, .ref 62, .ref 63, .ref 61, .int a10, .null, .int a12, .int a13, .int a14, .int a15, .null, .null, .null, .null, .null] [.int s0] σ post
abbrev H_42_233 (a2 : Int32) (a3 : Int32) (a4 : Int32) (a10 : Int32) (a12 : Int32) (a13 : Int32) (a15 : Int32) (a16 : Int32) (s0 : Int32) (σ : tp_St) (post : Int32 → tp_St → Prop) : Prop := tp_E 42 233 [.ref 0, .ref 90, .int a2, .int a3, .int a4, .ref 60, .ref 64, .ref 62, .ref 63, .ref 61, .int a10, .null, .int a12, .int a13, .null, .int a15, .int a16, .null, .null, .null, .null] [.int s0] σ post
abbrev H_42_261 (a2 : Int32) (a3 : Int32) (a4 : Int32) (a10 : Int32) (a12 : Int32) (a13 : Int32) (a16 : Int32) (a18 : Int32) (σ : tp_St) (post : Int32 → tp_St → Prop) : Prop := tp_E 42 261 [.ref 0, .ref 90, .int a2, .int a3, .int a4, .ref 60, .ref 64, .ref 62, .ref 63, .ref 61, .int a10, .null, .int a12, .int a13, .null, .null, .int a16, .null, .int a18, .null, .null] [] σ post
abbrev H_42_289 (a2 : Int32) (a3 : Int32) (a4 : Int32) (a10 : Int32) (a12 : Int32) (a13 : Int32) (a16 : Int32) (a18 : Int32) (s0 : Int32) (σ : tp_St) (post : Int32 → tp_St → Prop) : Prop := tp_E 42 289 [.ref 0, .ref 90, .int a2, .int a3, .int a4, .ref 60, .ref 64, .ref 62, .ref 63, .ref 61, .int a10, .null, .int a12, .int a13, .null, .null, .int a16, .null, .int a18, .null, .null] [.int s0] σ post
abbrev H_42_374 (a2 : Int32) (a3 : Int32) (a4 : Int32) (a10 : Int32) (σ : tp_St) (post : Int32 → tp_St → Prop) : Prop := tp_E 42 374 [.ref 0, .ref 90, .int a2, .int a3, .int a4, .ref 60, .ref 64, .ref 62, .ref 63, .ref 61, .int a10, .null, .null, .null, .null, .null, .null, .null, .null, .null, .null] [] σ post
abbrev H_43_11  (σ : tp_St) (post : Int32 → tp_St → Prop) : Prop := tp_E 43 11 [.ref 90, .ref 0, .null, .null, .null, .null, .null, .null, .null, .null, .null, .null, .null, .null, .null, .null, .null, .null, .null, .null, .null, .null, .null, .null] [.ref 58] σ post
abbrev H_43_45  (σ : tp_St) (post : Int32 → tp_St → Prop) : Prop := tp_E 43 45 [.ref 90, .ref 0, .ref 58, .null, .null, .null, .null, .null, .null, .null, .null, .null, .null, .null, .null, .null, .null, .null, .null, .null, .null, .null, .null, .null] [.ref 59] σ post
abbrev H_43_78 (a4 : Int32) (σ : tp_St) (post : Int32 → tp_St → Prop) : Prop := tp_E 43 78 [.ref 90, .ref 0, .ref 58, .ref 59, .int a4, .null, .null, .null, .null, .null, .null, .null, .null, .null, .null, .null, .null, .null, .null, .null, .null, .null, .null, .null] [] σ post
abbrev H_43_112  (σ : tp_St) (post : Int32 → tp_St → Prop) : Prop := tp_E 43 112 [.ref 90, .ref 0, .ref 58, .ref 59, .null, .null, .null, .null, .null, .null, .null, .null, .null, .null, .null, .null, .null, .null, .null, .null, .null, .null, .null, .null] [.ref 60] σ post
abbrev H_43_117  (σ : tp_St) (post : Int32 → tp_St → Prop) : Prop := tp_E 43 117 [.ref 90, .ref 0, .ref 58, .ref 59, .ref 60, .null, .null, .null, .null, .null, .null, .null, .null, .null, .null, .null, .null, .null, .null, .null, .null, .null, .null, .null] [.ref 61] σ post
abbrev H_43_143  (σ : tp_St) (post : Int32 → tp_St → Prop) : Prop := tp_E 43 143 [.ref 90, .ref 0, .ref 58, .ref 59, .ref 60, .ref 61, .null, .null, .null, .null, .null, .null, .null, .null, .null, .null, .null, .null, .null, .null, .null, .null, .null, .null] [.ref 62] σ post
abbrev H_43_149  (σ : tp_St) (post : Int32 → tp_St → Prop) : Prop := tp_E 43 149 [.ref 90, .ref 0, .ref 58, .ref 59, .ref 60, .ref 61, .ref 62, .null, .null, .null, .null, .null, .null, .null, .null, .null, .null, .null, .null, .null, .null, .null, .null, .null] [.ref 63] σ post
abbrev H_43_154 (a8 : Int32) (σ : tp_St) (post : Int32 → tp_St → Prop) : Prop := tp_E 43 154 [.ref 90, .ref 0, .ref 58, .ref 59, .ref 60, .ref 61, .ref 62, .ref 63, .int a8, .null, .null, .null, .null, .null, .null, .null, .null, .null, .null, .null, .null, .null, .null, .null] [] σ post
abbrev H_43_192 (a8 : Int32) (s1 : Int32) (s2 : Int32) (σ : tp_St) (post : Int32 → tp_St → Prop) : Prop := tp_E 43 192 [.ref 90, .ref 0, .ref 58, .ref 59, .ref 60, .ref 61, .ref 62, .ref 63, .int a8, .null, .null, .null, .null, .null, .null, .null, .null, .null, .null, .null, .null, .null, .null, .null] [.int s2, .int s1, .ref 0] σ post
abbrev H_43_205 (a8 : Int32) (a9 : Int32) (σ : tp_St) (post : Int32 → tp_St → Prop) : Prop := tp_E 43 205 [.ref 90, .ref 0, .ref 58, .ref 59, .ref 60, .ref 61, .ref 62, .ref 63, .int a8, .int a9, .null, .null, .null, .null, .null, .null, .null, .null, .null, .null, .null, .null, .null, .null] [] σ post
abbrev H_43_323  (σ : tp_St) (post : Int32 → tp_St → Prop) : Prop := tp_E 43 323 [.ref 90, .ref 0, .ref 58, .ref 59, .ref 60, .ref 61, .ref 62, .ref 63, .null, .null, .null, .null, .null, .null, .null, .null, .null, .null, .null, .null, .null, .null, .null, .null] [.ref 64] σ post
abbrev H_43_359 (a9 : Int32) (a10 : Int32) (a11 : Int32) (σ : tp_St) (post : Int32 → tp_St → Prop) : Prop := tp_E 43 359 [.null, .ref 0, .ref 58, .ref 59, .ref 60, .null, .null, .null, .ref 64, .int a9, .int a10, .int a11, .null, .null, .null, .null, .null, .null, .null, .null, .null, .null, .null, .null] [] σ post
abbrev H_43_394 (a9 : Int32) (a10 : Int32) (a11 : Int32) (a12 : Int32) (σ : tp_St) (post : Int32 → tp_St → Prop) : Prop := tp_E 43 394 [.null, .ref 0, .null, .ref 59, .ref 60, .null, .null, .null, .ref 64, .int a9, .int a10, .int a11, .int a12, .null, .null, .null, .null, .null, .null, .null, .null, .null, .null, .null] [] σ post
abbrev H_43_429 (a9 : Int32) (a12 : Int32) (σ : tp_St) (post : Int32 → tp_St → Prop) : Prop := tp_E 43 429 [.null, .ref 0, .null, .ref 59, .ref 60, .null, .null, .null, .ref 64, .int a9, .null, .null, .int a12, .null, .null, .null, .null, .null, .null, .null, .null, .null, .null, .null] [] σ post
abbrev H_43_439 (a9 : Int32) (a12 : Int32) (a13 : Int32) (σ : tp_St) (post : Int32 → tp_St → Prop) : Prop := tp_E 43 439 [.null, .ref 0, .null, .ref 59, .ref 60, .null, .null, .null, .ref 64, .int a9, .null, .null, .int a12, .int a13, .null, .null, .null, .null, .null, .null, .null, .null, .null, .null] [] σ post
abbrev H_43_454 (a9 : Int32) (a12 : Int32) (a13 : Int32) (a14 : Int32) (a15 : Int32) (a16 : Int32) (σ : tp_St) (post : Int32 → tp_St → Prop) : Prop := tp_E 43 454 [.null, .ref 0, .null, .ref 59, .ref 60, .null, .null, .null, .ref 64, .int a9, .null, .null, .int a12, .int a13, .int a14, .int a15, .int a16, .null, .null, .null, .null, .null, .null, .null] [] σ post
abbrev H_43_474 (a9 : Int32) (a12 : Int32) (a13 : Int32) (a14 : Int32) (a15 : Int32) (a16 : Int32) (s0 : Int32) (σ : tp_St) (post : Int32 → tp_St → Prop) : Prop := tp_E 43 474 [.null, .ref 0, .null, .ref 59, .ref 60, .null, .null, .null, .ref 64, .int a9, .null, .null, .int a12, .int a13, .int a14, .int a15, .int a16, .null, .null, .null, .null, .null, .null, .null] [.int s0] σ post
abbrev H_43_484 (a9 : Int32) (a12 : Int32) (a13 : Int32) (a14 : Int32) (a15 : Int32) (a16 : Int32) (s0 : Int32) (s1 : Int32) (σ : tp_St) (post : Int32 → tp_St → Prop) : Prop := tp_E 43 484 [.null, .ref 0, .null, .ref 59, .ref 60, .null, .null, .null, .ref 64, .int a9, .null, .null, .int a12, .int a13, .int a14, .int a15, .int a16, .null, .null, .null, .null, .null, .null, .null] [.int s1, .int s0] σ post
abbrev H_43_538 (a9 : Int32) (a12 : Int32) (a13 : Int32) (a14 : Int32) (a15 : Int32) (a16 : Int32) (s0 : Int32) (σ : tp_St) (post : Int32 → tp_St → Prop) : Prop := tp_E 43 538 [.null, .ref 0, .null, .ref 59, .ref 60, .null, .null, .null, .ref 64, .int a9, .null, .null, .int a12, .int a13, .int a14, .int a15, .int a16, .null, .null, .null, .null, .null, .null, .null] [.int s0] σ post
abbrev H_43_552 (a9 : Int32) (a12 : Int32) (a13 : Int32) (a14 : Int32) (a15 : Int32) (a16 : Int32) (σ : tp_St) (post : Int32 → tp_St → Prop) : Prop := tp_E 43 552 [.null, .ref 0, .null, .ref 59, .ref 60, .null, .null, .null, .ref 64, .int a9, .null, .null, .int a12, .int a13, .int a14, .int a15, .int a16, .null, .null, .null, .null, .null, .null, .null] [] σ post
abbrev H_43_565 (a9 : Int32) (a12 : Int32) (a13 : Int32) (a14 : Int32) (a15 : Int32) (a16 : Int32) (s0 : Int32) (σ : tp_St) (post : Int32 → tp_St → Prop) : Prop := tp_E 43 565 [.null, .ref 0, .null, .ref 59, .ref 60, .null, .null, .null, .ref 64, .int a9, .null, .null, .int a12, .int a13, .int a14, .int a15, .int a16, .null, .null, .null, .null, .null, .null, .null] [.int s0] σ post
abbrev H_43_576 (a9 : Int32) (a12 : Int32) (a13 : Int32) (a14 : Int32) (a15 : Int32) (a16 : Int32) (a18 : Int32) (a19 : Int32) (a20 : Int32) (a21 : Int32) (σ : tp_St) (post : Int32 → tp_St → Prop) : Prop := tp_E 43 576 [.null, .ref 0, .null, .ref 59, .ref 60, .null, .null, .null, .ref 64, .int a9, .null, .null, .int a12, .int a13, .int a14, .int a15, .int a16, .null, .int a18, .int a19, .int a20, .int a21, .null, .null] [] σ post
abbrev H_43_670 (a9 : Int32) (a12 : Int32) (a13 : Int32) (a14 : Int32) (a15 : Int32) (a16 : Int32) (a18 : Int32) (a20 : Int32) (a21 : Int32) (s0 : Int32) (s1 : Int32) (σ : tp_St) (post : Int32 → tp_St → Prop) : Prop := tp_E 43 670 [.null, .ref 0, .null, .ref 59, .ref 60, .null, .null, .null, .ref 64, .int a9, .null, .null, .int a12, .int a13, .int a14, .int a15, .int a16, .null, .int a18, .null, .int a20, .int a21, .null, .null] [.int s1, .int s0] σ post
abbrev H_43_709 (a9 : Int32) (a12 : Int32) (a13 : Int32) (a14 : Int32) (a15 : Int32) (a16 : Int32) (a18 : Int32) (a19 : Int32) (a21 : Int32) (s0 : Int32) (s1 : Int32) (σ : tp_St) (post : Int32 → tp_St → Prop) : Prop := tp_E 43 709 [.null, .ref 0, .null, .ref 59, .ref 60, .null, .null, .null, .ref 64, .int a9, .null, .null, .int a12, .int a13, .int a14, .int a15, .int a16, .null, .int a18, .int a19, .null, .int a21, .null, .null] [.int s1, .int s0] σ post
abbrev H_43_712 (a9 : Int32) (a12 : Int32) (a13 : Int32) (a14 : Int32) (a15 : Int32) (a16 : Int32) (a18 : Int32) (a19 : Int32) (a20 : Int32) (a21 : Int32) (σ : tp_St) (post : Int32 → tp_St → Prop) : Prop := tp_E 43 712 [.null, .ref 0, .null, .ref 59, .ref 60, .null, .null, .null, .ref 64, .int a9, .null, .null, .int a12, .int a13, .int a14, .int a15, .int a16, .null, .int a18, .int a19, .int a20, .int a21, .null, .null] [] σ post
abbrev H_43_759  (σ : tp_St) (post : Int32 → tp_St → Prop) : Prop := tp_E 43 759 [.null, .null, .null, .null, .null, .null, .null, .null, .null, .null, .null, .null, .null, .null, .null, .null, .null, .null, .null, .null, .null, .null, .null, .null] [] σ post
abbrev H_43_764 (a9 : Int32) (a12 : Int32) (a13 : Int32) (a14 : Int32) (a15 : Int32) (a16 : Int32) (a21 : Int32) (σ : tp_St) (post : Int32 → tp_St → Prop) : Prop := tp_E 43 764 [.null, .ref 0, .null, .ref 59, .ref 60, .null, .null, .null, .ref 64, .int a9, .null, .null, .int a12, .int a13, .int a14, .int a15, .int a16, .null, .null, .null, .null, .int a21, .null, .null] [] σ post
abbrev H_43_789 (a9 : Int32) (a12 : Int32) (a13 : Int32) (a14 : Int32) (a15 : Int32) (a16 : Int32) (a21 : Int32) (s0 : Int32) (σ : tp_St) (post : Int32 → tp_St → Prop) : Prop := tp_E 43 789 [.null, .ref 0, .null, .ref 59, .ref 60, .null, .null, .null, .ref 64, .int a9, .null, .null, .int a12, .int a13, .int a14, .int a15, .int a16, .null, .null, .null, .null, .int a21, .null, .null] [.int s0] σ post
abbrev H_43_821 (a9 : Int32) (a12 : Int32) (a13 : Int32) (a14 : Int32) (a15 : Int32) (a16 : Int32) (a21 : Int32) (s0 : Int32) (σ : tp_St) (post : Int32 → tp_St → Prop) : Prop := tp_E 43 821 [.null, .ref 0, .null, .ref 59, .ref 60, .null, .null, .null, .ref 64, .int a9, .null, .null, .int a12, .int a13, .int a14, .int a15, .int a16, .null, .null, .null, .null, .int a21, .null, .null] [.int s0] σ post
abbrev H_43_822 (a9 : Int32) (a12 : Int32) (a13 : Int32) (a14 : Int32) (a15 : Int32) (a16 : Int32) (a21 : Int32) (s0 : Int32) (s1 : Int32) (σ : tp_St) (post : Int32 → tp_St → Prop) : Prop := tp_E 43 822 [.null, .ref 0, .null, .ref 59, .ref 60, .null, .null, .null, .ref 64, .int a9, .null, .null, .int a12, .int a13, .int a14, .int a15, .int a16, .null, .null, .null, .null, .int a21, .null, .null] [.int s1, .int s0] σ post
abbrev H_43_833 (a9 : Int32) (a12 : Int32) (a13 : Int32) (a14 : Int32) (a15 : Int32) (a16 : Int32) (σ : tp_St) (post : Int32 → tp_St → Prop) : Prop := tp_E 43 833 [.null, .ref 0, .null, .ref 59, .ref 60, .null, .null, .null, .ref 64, .int a9, .null, .null, .int a12, .int a13, .int a14, .int a15, .int a16, .null, .null, .null, .null, .null, .null, .null] [] σ post
abbrev H_43_850 (a9 : Int32) (a12 : Int32) (a13 : Int32) (a14 : Int32) (a15 : Int32) (s1 : Int32) (σ : tp_St) (post : Int32 → tp_St → Prop) : Prop := tp_E 43 850 [.null, .ref 0, .null, .ref 59, .ref 60, .null, .null, .null, .ref 64, .int a9, .null, .null, .int a12, .int a13, .int a14, .int a15, .null, .null, .null, .null, .null, .null, .null, .null] [.int s1, .ref 0] σ post
abbrev H_43_872 (a9 : Int32) (a12 : Int32) (a13 : Int32) (a15 : Int32) (s1 : Int32) (σ : tp_St) (post : Int32 → tp_St → Prop) : Prop := tp_E 43 872 [.null, .ref 0, .null, .ref 59, .ref 60, .null, .null, .null, .ref 64, .int a9, .null, .null, .int a12, .int a13, .null, .int a15, .null, .null, .null, .null, .null, .null, .null, .null] [.int s1, .ref 0] σ post
abbrev H_43_883  (σ : tp_St) (post : Int32 → tp_St → Prop) : Prop := tp_E 43 883 [.null, .null, .null, .null, .null, .null, .null, .null, .null, .null, .null, .null, .null, .null, .null, .null, .null, .null, .null, .null, .null, .null, .null, .null] [] σ post
abbrev H_43_903 (a12 : Int32) (σ : tp_St) (post : Int32 → tp_St → Prop) : Prop := tp_E 43 903 [.null, .ref 0, .null, .null, .null, .null, .null, .null, .ref 64, .null, .null, .null, .int a12, .null, .null, .null, .null, .null, .null, .null, .null, .null, .null, .null] [] σ post
abbrev H_43_986  (σ : tp_St) (post : Int32 → tp_St → Prop) : Prop := tp_E 43 986 [.null, .null, .null, .null, .null, .null, .null, .null, .null, .null, .null, .null, .null, .null, .null, .null, .null, .null, .null, .null, .null, .null, .null, .null] [] σ post
abbrev H_43_997 (a12 : Int32) (σ : tp_St) (post : Int32 → tp_St → Prop) : Prop := tp_E 43 997 [.null, .ref 0, .null, .null, .null, .null, .null, .null, .null, .null, .null, .null, .int a12, .null, .null, .null, .null, .null, .null, .null, .null, .null, .null, .null] [] σ post
abbrev H_43_1021  (σ : tp_St) (post : Int32 → tp_St → Prop) : Prop := tp_E 43 1021 [.null, .null, .null, .null, .null, .null, .null, .null, .null, .null, .null, .null, .null, .null, .null, .null, .null, .null, .null, .null, .null, .null, .null, .null] [] σ post
abbrev H_43_1062  (σ : tp_St) (post : Int32 → tp_St → Prop) : Prop := tp_E 43 1062 [.null, .null, .null, .null, .null, .null, .null, .null, .null, .null, .null, .null, .null, .null, .null, .null, .null, .null, .null, .null, .null, .null, .null, .null] [] σ post
abbrev H_43_1063 (s0 : Int32) (σ : tp_St) (post : Int32 → tp_St → Prop) : Prop := tp_E 43 1063 [.null, .null, .null, .null, .null, .null, .null, .null, .null, .null, .null, .null, .null, .null, .null, .null, .null, .null, .null, .null, .null, .null, .null, .null] [.int s0] σ post
end
section
/-! PURE: words for what methods answer -/
/-- answers 1 or 0 by P, changes nothing -/
def tp_bool (i : Nat) (av : List Value) (σ : tp_St) (P : Prop) : Prop := ∀ post : Int32 → tp_St → Prop, (P → post 1 σ) → (¬ P → post 0 σ) → tp_E i 0 av [] σ post
/-- answers v, changes nothing -/
def tp_val (i : Nat) (av : List Value) (σ : tp_St) (v : Int32) : Prop := ∀ post : Int32 → tp_St → Prop, post v σ → tp_E i 0 av [] σ post
theorem tp_if {i : Nat} {av : List Value} {σ : tp_St} {P : Prop} {A B : tp_St → Prop} (hb : tp_bool i av σ P) (hT : P → B σ) (hF : ¬ P → A σ) : tp_E i 0 av [] σ (fun r σ1 => (r = 0 → A σ1) ∧ (¬ r = 0 → B σ1)) :=
  hb _ (fun h => ⟨fun q => absurd q (by decide), fun _ => hT h⟩) (fun h => ⟨fun _ => hF h, fun q => absurd rfl q⟩)
theorem tp_bool_iff {i : Nat} {av : List Value} {σ : tp_St} {P Q : Prop} (h : P ↔ Q) (hb : tp_bool i av σ P) : tp_bool i av σ Q := fun post h1 h0 => hb post (fun p => h1 (h.mp p)) (fun p => h0 (fun q => p (h.mpr q)))
theorem tp_lt {a b : Int32} : a < b ↔ a.toInt < b.toInt := Int32.lt_iff_toInt_lt
theorem tp_le {a b : Int32} : a ≤ b ↔ a.toInt ≤ b.toInt := Int32.le_iff_toInt_le
theorem tp_ei {a b : Int32} : a = b ↔ a.toInt = b.toInt := Int32.toInt_inj.symm
theorem tp_sg (σ : tp_St) (o k : Nat) (v : Int32) (o' k' : Nat) : (tp_set σ o k v).1 o' k' = if o' = o then (if k' = k then v else σ.1 o' k') else σ.1 o' k' := rfl
theorem tp_s2 (σ : tp_St) (o k : Nat) (v : Int32) : (tp_set σ o k v).2 = σ.2 := rfl
def tp_rg (lo hi : Int) (x : Int32) : Prop := lo ≤ x.toInt ∧ x.toInt ≤ hi
theorem tp_rg_nI {x : Int32} {hi : Nat} (h : tp_rg 0 hi x) (hh : hi < 2 ^ 31) : ∃ n : Nat, n ≤ hi ∧ x = nI n := by
  refine ⟨x.toInt.toNat, by have := h.1; have := h.2; omega, tp_ei.mpr ?_⟩
  have h1 := h.1
  have h2 := h.2
  rw [nI_toInt (by omega)]
  omega
theorem tp_vin {x : Int32} {n : Nat} : vp_in x n ↔ 0 ≤ x.toInt ∧ x.toInt < n := vp_in_iff
theorem tp_vin_nI {k n : Nat} (h : k < n) (hn : n < 2 ^ 31) : vp_in (nI k) n := vp_in_nI h hn
/-- a loop that counts up: its state at turn i is a function of i -/
theorem tp_up_loop {E : Nat → Prop} {n : Nat} (hs : ∀ i, i < n → E (i + 1) → E i) (hx : E n) : ∀ i, i ≤ n → E i := by
  intro i hi
  have key : ∀ d i, i + d = n → E i := by
    intro d
    induction d with
    | zero => intro i h; rw [show i = n by omega]; exact hx
    | succ d ih => intro i h; exact hs i (by omega) (ih (i + 1) (by omega))
  exact key (n - i) i (by omega)
/-- a loop that counts down -/
theorem tp_dn_loop {E : Nat → Prop} {n : Nat} (hs : ∀ i, i < n → E i → E (i + 1)) (hx : E 0) : E n := by
  have key : ∀ i, i ≤ n → E i := by
    intro i
    induction i with
    | zero => intro _; exact hx
    | succ i ih => intro h; exact hs i (by omega) (ih (by omega))
  exact key n (Nat.le_refl n)
def tp_fo {α : Type} (step : Nat → α → α) : Nat → α → α
  | 0, a => a
  | n + 1, a => step n (tp_fo step n a)
theorem tp_fo_congr {α : Type} {f g : Nat → α → α} {a : α} : ∀ {n : Nat}, (∀ i, i < n → ∀ x, f i x = g i x) → tp_fo f n a = tp_fo g n a
  | 0, _ => rfl
  | n + 1, h => by
    show f n (tp_fo f n a) = g n (tp_fo g n a)
    rw [tp_fo_congr (n := n) (fun i hi => h i (by omega)), h n (by omega)]
/-- a loop with a value that each turn changes -/
theorem tp_fold {α : Type} {E : Nat → α → Prop} {step : Nat → α → α} {n : Nat} {a : α} (hs : ∀ i x, i < n → E (i + 1) (step i x) → E i x) (hx : E n (tp_fo step n a)) : E 0 a := by
  have key := tp_up_loop (E := fun i => E i (tp_fo step i a)) (n := n) (fun i hi h => hs i _ hi h) hx
  exact key 0 (Nat.zero_le n)
theorem tp_sg_ne {σ : tp_St} {o k o' k' : Nat} {v : Int32} (h : ¬ (o' = o ∧ k' = k)) : (tp_set σ o k v).1 o' k' = σ.1 o' k' := by
  rw [tp_sg]
  split
  · rename_i h1
    split
    · rename_i h2
      exact absurd ⟨h1, h2⟩ h
    · rfl
  · rfl
theorem tp_sg_eq {σ : tp_St} {o k : Nat} {v : Int32} : (tp_set σ o k v).1 o k = v := by rw [tp_sg, if_pos rfl, if_pos rfl]
theorem tp_c {n : Nat} (h : n < 1000000) : (nI n).toNatClampNeg = n := nI_clamp (Nat.lt_trans h (by decide))
theorem tp_t {n : Nat} (h : n < 1000000) : (nI n).toInt = (n : Int) := nI_toInt (Nat.lt_trans h (by decide))
theorem tp_nle {a b : Nat} (h : a < b) (hb : b < 1000000) : ¬ nI b ≤ nI a := by rw [tp_le, tp_t hb, tp_t (by omega)]; omega
theorem tp_nlt {a b : Nat} (h : b ≤ a) (hb : a < 1000000) : ¬ nI a < nI b := by rw [tp_lt, tp_t hb, tp_t (by omega)]; omega
theorem tp_vi {k n : Nat} (h : k < n) (hn : n < 1000000) : vp_in (nI k) n := vp_in_nI h (Nat.lt_trans hn (by decide))
theorem tp_ne {a b : Nat} (ha : a < 1000000) (hb : b < 1000000) : nI a = nI b ↔ a = b := by rw [tp_ei, tp_t ha, tp_t hb]; omega
theorem tp_leN {a b : Nat} (ha : a < 1000000) (hb : b < 1000000) : nI a ≤ nI b ↔ a ≤ b := by rw [tp_le, tp_t ha, tp_t hb]; omega
theorem tp_ltN {a b : Nat} (ha : a < 1000000) (hb : b < 1000000) : nI a < nI b ↔ a < b := by rw [tp_lt, tp_t ha, tp_t hb]; omega
theorem tp_bz : vp_nar .boolean 0 = 0 := by decide +kernel
theorem tp_bo : vp_nar .boolean 1 = 1 := by decide +kernel
theorem tp_nb0 : narrow .boolean (.int 0) = .int 0 := by decide +kernel
theorem tp_nb1 : narrow .boolean (.int 1) = .int 1 := by decide +kernel
theorem tp_m1 {x : Int32} : x + (-1) = x - 1 := (Int32.sub_eq_add_neg x 1).symm
theorem tp_neg1 : (nI 0 - 1 : Int32) = -1 := by decide
theorem tp_sub0 {a b : Int32} (h : a - b = 0) : a = b := by rw [← Int32.sub_add_cancel a b, h, Int32.zero_add]
/-! small methods -/
theorem sp_32 {σ : tp_St} {a lo hi : Int32} {l h : Int} (hl : lo.toInt = l) (hh : hi.toInt = h) : tp_bool 32 [.int a, .int lo, .int hi] σ (a.toInt < l ∨ h < a.toInt) := by
  subst hl; subst hh
  intro post h1 h0
  refine sg_32_0 _ _ _ ⟨fun c => h1 (Or.inl (tp_lt.mp c)), fun c => ⟨fun d => h0 ?_, fun d => h1 ?_⟩⟩
  · rw [tp_lt] at c; rw [tp_le] at d; omega
  · rw [tp_le] at d; omega
/-- within: nothing is answered but 0 -/
theorem sp_in {σ : tp_St} {x lo hi : Int32} {n l h : Nat} {A B : tp_St → Prop} (hx : x = nI n) (hl : lo = nI l) (hh : hi = nI h) (h1 : l ≤ n) (h2 : n ≤ h) (hn : h < 1000000) (k : A σ) : tp_E 32 0 [.int x, .int lo, .int hi] [] σ (fun r σ1 => (r = 0 → A σ1) ∧ (¬ r = 0 → B σ1)) := by
  subst hx hl hh
  refine tp_if (sp_32 (l := l) (tp_t (by omega)) (h := h) (tp_t hn)) (fun q => ?_) (fun _ => k)
  rw [tp_t (by omega)] at q
  omega
theorem sp_12 {σ : tp_St} {x : Int32} {t : Nat} {A B : tp_St → Prop} (hn : σ.1 3 3 = nI 4) (hx : x = nI t) (h : t < 4) (k : B σ) : tp_E 12 0 [.ref 3, .int x] [] σ (fun r σ1 => (r = 0 → A σ1) ∧ (¬ r = 0 → B σ1)) := by
  subst hx
  refine sg_12_0 _ ⟨fun c => absurd c (nI_pos (by omega)), fun _ => ⟨fun d => ?_, fun _ => ⟨fun z => absurd z (by decide), fun _ => k⟩⟩⟩
  rw [hn] at d
  exact absurd d (tp_nle h (by omega))
theorem sp_17 {σ : tp_St} {x : Int32} {y : Nat} {A B : tp_St → Prop} (hn : σ.1 1 2 = nI 2) (hx : x = nI y) (h : y < 2) (k : B σ) : tp_E 17 0 [.ref 1, .int x] [] σ (fun r σ1 => (r = 0 → A σ1) ∧ (¬ r = 0 → B σ1)) := by
  subst hx
  refine sg_17_0 _ ⟨fun c => absurd c (nI_pos (by omega)), fun _ => ⟨fun d => ?_, fun _ => ⟨fun z => absurd z (by decide), fun _ => k⟩⟩⟩
  rw [hn] at d
  exact absurd d (tp_nle h (by omega))
theorem sp_33 {σ : tp_St} {x y : Int32} {t k : Nat} {A B : tp_St → Prop} (hn : σ.1 1 2 = nI 2) (hx : x = nI t) (hy : y = nI k) (ht : t < 6) (hk : k < 2) (g : B σ) : tp_E 33 0 [.ref 0, .int x, .int y] [] σ (fun r σ1 => (r = 0 → A σ1) ∧ (¬ r = 0 → B σ1)) := by
  refine sg_33_0 _ _ (sp_in (l := 0) (h := 5) hx rfl rfl (by omega) (by omega) (by omega) (sp_17 hn hy hk ⟨fun z => absurd z (by decide), fun _ => g⟩))
theorem sp_0 {σ : tp_St} {x z : Int32} {c y : Nat} (hx : x = nI c) (hz : z = nI y) (hc : c < 6) (hy : y < 5) : tp_val 0 [.ref 2, .int x, .int z] σ (σ.1 (52 + c) y - σ.1 (46 + c) y) := by
  subst hx hz
  intro post hp
  refine sg_0_0 _ _ ?_
  rw [tp_c (show c < 1000000 by omega), tp_c (show y < 1000000 by omega)]
  exact ⟨tp_vi hc (by omega), tp_vi hy (by omega), tp_vi hc (by omega), tp_vi hy (by omega), hp⟩
/-! the law's own helpers: part is within, cell is anything -/
theorem sp_40 {σ : tp_St} {a x : Int32} {c : Nat} {post : Int32 → tp_St → Prop} (hx : x = nI c) (h0 : 0 < c) (hc : c < 1000000) (k : ∀ r, r < c → post (nI r) σ) : tp_E 40 0 [.int a, .int x] [] σ post := by
  subst hx
  obtain ⟨j, hj, e⟩ := pk_andE a 31 (m := 2147483647) (by decide)
  refine sg_40_0 _ _ ⟨nI_ne0 h0 (by omega), ?_⟩
  rw [e, pk_rem (by omega) h0 (by omega)]
  exact k _ (Nat.mod_lt _ h0)
theorem sp_41 {σ : tp_St} {x : Int32} {j L : Nat} {post : Int32 → tp_St → Prop} (hL : σ.1 89 0 = nI L) (hl : L < 1000000) (hx : x = nI j) (hj : j < 1000000) (k : ∀ r, post r σ) : tp_E 41 0 [.ref 90, .int x] [] σ post := by
  subst hx
  have e : Int32.ofNat (σ.1 89 0).toNatClampNeg = nI L := by
    rw [hL, tp_c hl]
    rfl
  refine sg_41_0 _ ?_
  rw [e]
  refine ⟨fun _ => k _, fun h => ?_⟩
  have h0 : 0 < L := by
    rcases Nat.eq_zero_or_pos L with rfl | h0
    · exact absurd rfl h
    · exact h0
  rw [pk_rem (by omega) h0 (by omega), hL, tp_c hl]
  exact ⟨h, tp_vi (Nat.mod_lt _ h0) hl, h, k _⟩
end
section
/-! THE GHOST: what is sold, as naturals -/
def ct (p : Nat → Bool) : Nat → Nat
  | 0 => 0
  | n + 1 => if p n = true then ct p n + 1 else ct p n
theorem ct_le {p : Nat → Bool} : ∀ n, ct p n ≤ n
  | 0 => Nat.le_refl _
  | n + 1 => by
    unfold ct
    have := ct_le (p := p) n
    split <;> omega
def sm (f : Nat → Nat) : Nat → Nat
  | 0 => 0
  | n + 1 => sm f n + f n
theorem sm_add {f g : Nat → Nat} : ∀ n, sm (fun r => f r + g r) n = sm f n + sm g n
  | 0 => rfl
  | n + 1 => by
    unfold sm
    rw [sm_add n]
    omega
theorem sm_congr {f g : Nat → Nat} : ∀ {n}, (∀ r, r < n → f r = g r) → sm f n = sm g n
  | 0, _ => rfl
  | n + 1, h => by
    unfold sm
    rw [sm_congr (n := n) (fun r hr => h r (by omega)), h n (by omega)]
theorem sm_one {q : Bool} {t : Nat} : ∀ m, sm (fun r => if r = t ∧ q = true then 1 else 0) m = if t < m ∧ q = true then 1 else 0
  | 0 => by unfold sm; rw [if_neg (by omega)]
  | m + 1 => by
    unfold sm
    rw [sm_one m]
    cases q with
    | false => simp
    | true =>
      by_cases h : t < m
      · rw [if_pos ⟨h, rfl⟩, if_neg (by omega), if_pos ⟨by omega, rfl⟩]
      · by_cases h2 : m = t
        · rw [if_neg (fun z => h z.1), if_pos ⟨h2, rfl⟩, if_pos ⟨by omega, rfl⟩]
        · rw [if_neg (fun z => h z.1), if_neg (fun z => h2 z.1), if_neg (fun z => by omega)]
theorem sm_ct {q : Nat → Bool} {tr : Nat → Nat} {p : Nat → Bool} {m : Nat} : ∀ {n}, (∀ k, k < n → tr k < m) → sm (fun r => if q r = true then ct (fun k => decide (tr k = r) && p k) n else 0) m = ct (fun k => q (tr k) && p k) n
  | 0, _ => by
    unfold ct
    have : ∀ m, sm (fun r => if q r = true then (0 : Nat) else 0) m = 0 := by
      intro m
      induction m with
      | zero => rfl
      | succ m ih => unfold sm; rw [ih]; split <;> rfl
    exact this m
  | n + 1, h => by
    have ih := sm_ct (q := q) (tr := tr) (p := p) (m := m) (n := n) (fun k hk => h k (by omega))
    have e : sm (fun r => if q r = true then ct (fun k => decide (tr k = r) && p k) (n + 1) else 0) m = sm (fun r => (if q r = true then ct (fun k => decide (tr k = r) && p k) n else 0) + (if r = tr n ∧ (q (tr n) && p n) = true then 1 else 0)) m := by
      refine sm_congr (fun r _ => ?_)
      conv => lhs; unfold ct
      by_cases hq : q r = true
      · rw [if_pos hq, if_pos hq]
        by_cases hr : r = tr n
        · subst hr
          rw [hq]
          cases p n <;> simp
        · simp [hr, show ¬ tr n = r from fun z => hr z.symm]
      · rw [if_neg hq, if_neg hq]
        by_cases hr : r = tr n
        · subst hr
          simp [hq]
        · rw [if_neg (fun z => hr z.1)]
    rw [e, sm_add, ih, sm_one]
    conv => rhs; unfold ct
    have := h n (by omega)
    by_cases hq : (q (tr n) && p n) = true
    · rw [if_pos ⟨this, hq⟩, if_pos hq]
    · rw [if_neg (fun z => hq z.2), if_neg hq]; rfl
theorem ct_succ {p : Nat → Bool} {n : Nat} : ct p (n + 1) = if p n = true then ct p n + 1 else ct p n := rfl
theorem ct_congr {p q : Nat → Bool} : ∀ {n}, (∀ i, i < n → p i = q i) → ct p n = ct q n
  | 0, _ => rfl
  | n + 1, h => by rw [ct_succ, ct_succ, ct_congr (n := n) (fun i hi => h i (by omega)), h n (by omega)]
theorem ct_mono {p : Nat → Bool} {m : Nat} : ∀ d, ct p m ≤ ct p (m + d)
  | 0 => Nat.le_refl _
  | d + 1 => by
    have := ct_mono (p := p) (m := m) d
    rw [show m + (d + 1) = (m + d) + 1 by omega, ct_succ]
    split <;> omega
theorem ct_gt {p : Nat → Bool} {i n : Nat} (h : i < n) (hp : p i = true) : ct p i < ct p n := by
  have h1 := ct_mono (p := p) (m := i + 1) (n - (i + 1))
  rw [show i + 1 + (n - (i + 1)) = n by omega, ct_succ, if_pos hp] at h1
  omega
/-- so many of pack t, k among the first n -/
def g_p (tr ty : Nat → Nat) (t k : Nat) (j : Nat) : Bool := decide (tr j = t) && decide (ty j = k)
/-- the next number of the pack behind n sales -/
def g_nx (tr ty : Nat → Nat) (n t k : Nat) : Nat := 50 * t + ct (g_p tr ty t k) n
/-- the number of sale i -/
def g_no (tr ty : Nat → Nat) (i : Nat) : Nat := g_nx tr ty i (tr i) (ty i)
theorem g_no_ne {tr ty : Nat → Nat} {i j : Nat} (hij : i < j) (hj : j < 50) (hk : ty i = ty j) : ¬ g_no tr ty i = g_no tr ty j := by
  intro h
  unfold g_no g_nx at h
  have h1 := ct_le (p := g_p tr ty (tr i) (ty i)) i
  have h2 := ct_le (p := g_p tr ty (tr j) (ty j)) j
  have ht : tr i = tr j := by omega
  have h3 := ct_gt (p := g_p tr ty (tr j) (ty j)) hij (by unfold g_p; rw [ht, hk]; simp)
  rw [ht, hk] at h
  omega
theorem g_nx_succ {tr ty : Nat → Nat} {n t k : Nat} : g_nx tr ty (n + 1) t k = if tr n = t ∧ ty n = k then g_nx tr ty n t k + 1 else g_nx tr ty n t k := by
  unfold g_nx
  rw [ct_succ]
  unfold g_p
  by_cases h : tr n = t ∧ ty n = k
  · rw [if_pos h, if_pos (by simp [h.1, h.2])]
    omega
  · rw [if_neg h, if_neg (by simpa using h)]
def bI (b : Bool) : Int32 := if b = true then 1 else 0
theorem bI_0 {b : Bool} : bI b = 0 ↔ ¬ b = true := by cases b <;> decide
theorem bI_1 {b : Bool} : bI b = 1 ↔ b = true := by cases b <;> decide
theorem bI_eq {a b : Bool} : bI a = bI b ↔ a = b := by cases a <;> cases b <;> decide
/-- types and trips -/
def G0 (pr sp : Nat → Nat) (u : Nat → Bool) (σ : tp_St) : Prop := σ.1 1 2 = nI 2 ∧ (∀ k, k < 2 → σ.1 8 k = nI (pr k) ∧ σ.1 9 k = nI (sp k) ∧ (1 ≤ pr k ∧ pr k ≤ 30) ∧ 1 ≤ sp k ∧ sp k ≤ 9) ∧ σ.1 3 3 = nI 4 ∧ ∀ t, t < 4 → σ.1 12 t = nI t ∧ σ.1 13 t = bI (u t)
def GO (σ : tp_St) : Prop := ∀ t, t < 4 → σ.1 14 t = 1
/-- sales and packs -/
def GS (lim : Nat → Nat → Nat) (tr ty st : Nat → Nat) (n : Nat) (σ : tp_St) : Prop := n ≤ 14 ∧ σ.1 4 4 = nI n ∧ (∀ i, i < n → (tr i < 4 ∧ ty i < 2 ∧ st i ≤ 8) ∧ σ.1 15 i = nI (tr i) ∧ σ.1 16 i = nI (ty i) ∧ σ.1 17 i = nI (st i) ∧ σ.1 18 i = nI (g_no tr ty i)) ∧ ∀ t k, t < 4 → k < 2 → σ.1 (46 + t) k = nI (g_nx tr ty n t k) ∧ σ.1 (52 + t) k = nI (lim t k) ∧ g_nx tr ty n t k ≤ lim t k ∧ lim t k ≤ 50 * t + 12
theorem G0_fr {pr sp : Nat → Nat} {u : Nat → Bool} {σ σ' : tp_St} (h : G0 pr sp u σ) (e : ∀ o k, ((o = 1 ∧ k = 2) ∨ o = 8 ∨ o = 9 ∨ (o = 3 ∧ k = 3) ∨ o = 12 ∨ o = 13) → σ'.1 o k = σ.1 o k) : G0 pr sp u σ' := by
  obtain ⟨h1, h2, h3, h4⟩ := h
  refine ⟨by rw [e _ _ (by omega)]; exact h1, fun k hk => ?_, by rw [e _ _ (by omega)]; exact h3, fun t ht => ?_⟩
  · rw [e 8 k (by omega), e 9 k (by omega)]; exact h2 k hk
  · rw [e 12 t (by omega), e 13 t (by omega)]; exact h4 t ht
theorem GS_fr {lim : Nat → Nat → Nat} {tr ty st : Nat → Nat} {n : Nat} {σ σ' : tp_St} (h : GS lim tr ty st n σ) (e : ∀ o k, ((o = 4 ∧ k = 4) ∨ (15 ≤ o ∧ o ≤ 18) ∨ (46 ≤ o ∧ o < 58)) → σ'.1 o k = σ.1 o k) : GS lim tr ty st n σ' := by
  obtain ⟨h1, h2, h3, h4⟩ := h
  refine ⟨h1, by rw [e _ _ (by omega)]; exact h2, fun i hi => ?_, fun t k ht hk => ?_⟩
  · rw [e 15 i (by omega), e 16 i (by omega), e 17 i (by omega), e 18 i (by omega)]; exact h3 i hi
  · rw [e (46 + t) k (by omega), e (52 + t) k (by omega)]; exact h4 t k ht hk
/-! money -/
def g_tk (pr tr ty : Nat → Nat) (t : Nat) : Nat → Nat
  | 0 => 0
  | n + 1 => if tr n = t then g_tk pr tr ty t n + pr (ty n) else g_tk pr tr ty t n
def g_w (pr ty : Nat → Nat) : Nat → Nat
  | 0 => 0
  | n + 1 => g_w pr ty n + pr (ty n)
theorem g_tk_w {pr tr ty : Nat → Nat} : ∀ n, (∀ i, i < n → tr i < 4) → g_tk pr tr ty 0 n + g_tk pr tr ty 1 n + g_tk pr tr ty 2 n + g_tk pr tr ty 3 n = g_w pr ty n
  | 0, _ => rfl
  | n + 1, h => by
    have ih := g_tk_w (pr := pr) (tr := tr) (ty := ty) n (fun i hi => h i (by omega))
    have := h n (by omega)
    unfold g_tk g_w
    rcases (show tr n = 0 ∨ tr n = 1 ∨ tr n = 2 ∨ tr n = 3 by omega) with e | e | e | e <;> simp only [e] <;> simp <;> omega
section GC
variable {pr sp : Nat → Nat} {u : Nat → Bool} {lim : Nat → Nat → Nat} {tr ty st : Nat → Nat} {n : Nat} {σ : tp_St} {post : Int32 → tp_St → Prop}
theorem sp_34 {x : Int32} {t : Nat} (h0 : G0 pr sp u σ) (hS : GS lim tr ty st n σ) (hx : x = nI t) (ht : t < 4) (hp : post (nI (g_tk pr tr ty t n)) σ) : tp_E 34 0 [.ref 0, .int x, .null, .null] [] σ post := by
  subst hx
  obtain ⟨s1, s2, s3, s4⟩ := hS
  refine sg_34_0 _ ?_
  refine tp_up_loop (E := fun i => tp_E 34 4 [.ref 0, .int (nI t), .int (nI (g_tk pr tr ty t i)), .int (nI i)] [] σ post) (n := n) (fun i hi h => ?_) ?_ 0 (Nat.zero_le _)
  · obtain ⟨⟨a1, a2, a3⟩, b1, b2, b3, b4⟩ := s3 i hi
    refine sg_34_4 _ _ _ ?_
    rw [tp_c (show i < 1000000 by omega), s2, b1, b2, tp_c (show ty i < 1000000 by omega), (h0.2.1 _ a2).1, nI_1, nI_add]
    unfold g_tk at h
    refine ⟨fun c => absurd c (tp_nle hi (by omega)), fun _ => ⟨tp_vi (by omega) (by omega), fun c => ⟨tp_vi (by omega) (by omega), tp_vi (by omega) (by omega), ?_⟩, fun c => ?_⟩⟩
    · rw [if_pos ((tp_ne (by omega) (by omega)).mp c)] at h
      exact h
    · rw [if_neg (fun z => c (congrArg nI z))] at h
      exact h
  · refine sg_34_4 _ _ _ ?_
    rw [s2]
    exact ⟨fun _ => hp, fun c => absurd (tp_le.mpr (Int.le_refl _)) c⟩
theorem c_money {x : Int32} {t : Nat} (h0 : G0 pr sp u σ) (hS : GS lim tr ty st n σ) (hx : x = nI t) (ht : t < 4) (hp : post (nI (g_tk pr tr ty t n)) σ) : tp_E 26 0 [.ref 0, .int x] [] σ post :=
  sg_26_0 _ (sp_12 h0.2.2.1 hx ht (sp_34 h0 hS hx ht hp))
theorem c_close {x : Int32} {t : Nat} (h0 : G0 pr sp u σ) (hS : GS lim tr ty st 0 σ) (ho : σ.1 14 t = 1) (hx : x = nI t) (ht : t < 4) (hp : post 0 (tp_set σ 14 t 0)) : tp_E 23 0 [.ref 0, .int x] [] σ post := by
  subst hx
  refine sg_23_0 _ (sp_12 h0.2.2.1 rfl ht ?_)
  rw [tp_c (show t < 1000000 by omega), ho, tp_bz]
  refine ⟨tp_vi (by omega) (by omega), fun c => absurd c (by decide), fun _ => ⟨tp_vi (by omega) (by omega), ?_⟩⟩
  exact sp_34 (G0_fr h0 (fun o k hd => tp_sg_ne (by omega))) (GS_fr hS (fun o k hd => tp_sg_ne (by omega))) rfl ht hp
theorem c_gap {x : Int32} {k : Nat} (h0 : G0 pr sp u σ) (hS : GS lim tr ty st 0 σ) (hx : x = nI k) (hk : k < 2) (hp : post (-4) σ) : tp_E 31 0 [.ref 0, .int x, .null, .null, .null, .null] [] σ post := by
  refine sg_31_0 _ (sp_17 h0.1 hx hk (sg_11_0 _ (sg_11_4 _ _ _ ?_)))
  rw [hS.2.1]
  refine ⟨fun _ => ?_, fun c => absurd (by decide) c⟩
  exact sg_31_27 _ _ _ _ ⟨fun c => hp, fun _ => ⟨fun _ => hp, fun c => absurd (by decide) c⟩⟩
theorem c_pack {x y : Int32} {t k : Nat} (h0 : G0 pr sp u σ) (hS : GS lim tr ty st n σ) (hx : x = nI t) (hy : y = nI k) (ht : t < 4) (hk : k < 2) (hl : g_nx tr ty n t k < lim t k) (hp : post (nI (g_nx tr ty n t k)) σ) : tp_E 21 0 [.ref 0, .int x, .int y, .int 0, .null] [] σ post := by
  subst hx hy
  obtain ⟨e1, e2, e3, e4⟩ := hS.2.2.2 t k ht hk
  refine sg_21_0 _ _ _ (sp_33 h0.1 rfl rfl (by omega) hk (sp_in (n := 0) (l := 0) (h := 1) rfl rfl rfl (by omega) (by omega) (by omega) (sp_0 rfl rfl (by omega) (by omega) _ ⟨fun z => absurd z (by decide), fun _ => ⟨fun z => ?_, fun _ => ?_⟩⟩)))
  · have := tp_sub0 z
    rw [e1, e2, tp_ne (by omega) (by omega)] at this
    omega
  · rw [tp_c (show t < 1000000 by omega), tp_c (show k < 1000000 by omega), e1]
    exact ⟨tp_vi (by omega) (by omega), tp_vi (by omega) (by omega), hp⟩
theorem c_undo0 (hS : GS lim tr ty st 0 σ) (hp : post (-4) σ) : tp_E 25 0 [.ref 0, .null, .null, .null] [] σ post := by
  refine sg_25_0 ?_
  rw [hS.2.1]
  exact ⟨fun _ => hp, fun c => absurd rfl c⟩
end GC
end
section
/-! who is aboard, riders, a ticket shown, heads, undone -/
/-- the step of a section -/
def g_q (u : Nat → Bool) (t k : Nat) : Nat := if u t = true then k else 8 - k
def g_in (sp : Nat → Nat) (ty st : Nat → Nat) (q i : Nat) : Bool := decide (st i ≤ q) && decide (q < st i + sp (ty i))
def g_ab (sp : Nat → Nat) (ty st : Nat → Nat) (w q i : Nat) : Bool := if w = 0 then decide (st i = q) else g_in sp ty st q i
/-- how many of trip t -/
def g_c (sp : Nat → Nat) (u : Nat → Bool) (tr ty st : Nat → Nat) (t k w n : Nat) : Nat := ct (fun i => decide (tr i = t) && g_ab sp ty st w (g_q u t k) i) n
def g_r (sp : Nat → Nat) (u : Nat → Bool) (tr ty st : Nat → Nat) (b : Bool) (k w n : Nat) : Nat := ct (fun i => (u (tr i) == b) && g_ab sp ty st w (g_q u (tr i) k) i) n
theorem g_q_le {u : Nat → Bool} {t k : Nat} (h : k ≤ 8) : g_q u t k ≤ 8 := by unfold g_q; split <;> omega
section GD
variable {pr sp : Nat → Nat} {u : Nat → Bool} {lim : Nat → Nat → Nat} {tr ty st : Nat → Nat} {n : Nat} {σ : tp_St} {post : Int32 → tp_St → Prop}
theorem sp_16 {x y : Int32} {t k : Nat} (h0 : G0 pr sp u σ) (hx : x = nI t) (hy : y = nI k) (ht : t < 4) (hk : k ≤ 8) (hp : post (nI (g_q u t k)) σ) : tp_E 16 0 [.ref 3, .int x, .int y] [] σ post := by
  subst hx hy
  refine sg_16_0 _ _ ?_
  rw [tp_c (show t < 1000000 by omega), (h0.2.2.2 t ht).2]
  unfold g_q at hp
  refine ⟨tp_vi (by omega) (by omega), fun z => ?_, fun z => ?_⟩
  · rw [if_neg (bI_0.mp z)] at hp
    rw [show (8 : Int32) = nI 8 from rfl, pk_sub hk]
    exact hp
  · rw [if_pos (Classical.not_not.mp (fun w => z (bI_0.mpr w)))] at hp
    exact hp
theorem sp_37 {x y : Int32} {i q : Nat} {A B : tp_St → Prop} (h0 : G0 pr sp u σ) (hS : GS lim tr ty st n σ) (hx : x = nI i) (hy : y = nI q) (hi : i < n) (hq : q ≤ 8) (h1 : g_in sp ty st q i = true → post 1 σ) (h2 : ¬ g_in sp ty st q i = true → post 0 σ) : tp_E 37 0 [.ref 0, .int x, .int y, .null] [] σ post := by
  subst hx hy
  obtain ⟨s1, s2, s3, s4⟩ := hS
  obtain ⟨⟨a1, a2, a3⟩, b1, b2, b3, b4⟩ := s3 i hi
  obtain ⟨e1, e2, e3, e4, e5⟩ := h0.2.1 _ a2
  unfold g_in at h1 h2
  simp only [Bool.and_eq_true, decide_eq_true_eq] at h1 h2
  refine sg_37_0 _ _ ?_
  rw [tp_c (show i < 1000000 by omega), b2, b3, tp_c (show ty i < 1000000 by omega), e2, nI_add]
  refine ⟨tp_vi (by omega) (by omega), pk_lt q (st i) (fun z => h2 (by omega)) (fun z => ⟨tp_vi (by omega) (by omega), tp_vi (by omega) (by omega), pk_le (st i + sp (ty i)) q (fun z2 => h2 (by omega)) (fun z2 => h1 (by omega))⟩)⟩
theorem sp_36 {x y z : Int32} {i k w : Nat} (h0 : G0 pr sp u σ) (hS : GS lim tr ty st n σ) (hx : x = nI i) (hy : y = nI k) (hz : z = nI w) (hi : i < n) (hk : k ≤ 8) (hw : w < 2) (h1 : g_ab sp ty st w (g_q u (tr i) k) i = true → post 1 σ) (h2 : ¬ g_ab sp ty st w (g_q u (tr i) k) i = true → post 0 σ) : tp_E 36 0 [.ref 0, .int x, .int y, .int z, .null] [] σ post := by
  subst hx hy hz
  obtain ⟨s1, s2, s3, s4⟩ := id hS
  obtain ⟨⟨a1, a2, a3⟩, b1, b2, b3, b4⟩ := s3 i hi
  have hq := g_q_le (u := u) (t := tr i) hk
  refine sg_36_0 _ _ _ ?_
  rw [tp_c (show i < 1000000 by omega), b1]
  refine ⟨tp_vi (by omega) (by omega), sp_16 h0 rfl rfl a1 hk ?_⟩
  unfold g_ab at h1 h2
  rw [b3]
  refine ⟨fun z => ?_, fun z => ?_⟩
  · have z : w = 0 := (tp_ne (a := w) (b := 0) (by omega) (by omega)).mp z
    rw [if_pos z] at h1 h2
    simp only [decide_eq_true_eq] at h1 h2
    exact ⟨tp_vi (by omega) (by omega), pk_eq _ _ h1 h2⟩
  · have z : ¬ w = 0 := fun y => z (congrArg nI y)
    rw [if_neg z] at h1 h2
    exact sp_37 (A := fun _ => True) (B := fun _ => True) h0 hS rfl rfl hi hq (fun z2 => ⟨tp_nb1, h1 z2⟩) (fun z2 => ⟨tp_nb0, h2 z2⟩)
theorem sp_35 {x y z : Int32} {t k w : Nat} (h0 : G0 pr sp u σ) (hS : GS lim tr ty st n σ) (hx : x = nI t) (hy : y = nI k) (hz : z = nI w) (ht : t < 4) (hk : k ≤ 8) (hw : w < 2) (hp : post (nI (g_c sp u tr ty st t k w n)) σ) : tp_E 35 0 [.ref 0, .int x, .int y, .int z, .null, .null] [] σ post := by
  subst hx hy hz
  obtain ⟨s1, s2, s3, s4⟩ := id hS
  refine sg_35_0 _ _ _ ?_
  refine tp_up_loop (E := fun i => tp_E 35 6 [.ref 0, .int (nI t), .int (nI k), .int (nI w), .int (nI (g_c sp u tr ty st t k w i)), .int (nI i)] [] σ post) (n := n) (fun i hi g => ?_) ?_ 0 (Nat.zero_le _)
  · obtain ⟨⟨a1, a2, a3⟩, b1, b2, b3, b4⟩ := s3 i hi
    refine sg_35_6 _ _ _ _ _ ?_
    rw [tp_c (show i < 1000000 by omega), s2, b1]
    simp only [nI_1]
    unfold g_c at g ⊢
    rw [ct_succ] at g
    refine ⟨fun z => absurd z (tp_nle hi (by omega)), fun _ => ⟨tp_vi (by omega) (by omega), pk_eq _ _ (fun z => ?_) (fun z => ?_)⟩⟩
    · refine sp_36 h0 hS rfl rfl rfl hi hk hw (fun z2 => ⟨fun c => absurd c (by decide), fun _ => ?_⟩) (fun z2 => ⟨fun _ => ?_, fun c => absurd rfl c⟩)
      · rw [z] at z2
        rw [if_pos (by simp [z, z2])] at g; exact g
      · rw [z] at z2
        rw [if_neg (by simp [z, z2])] at g; exact g
    · rw [if_neg (by simp [z])] at g; exact g
  · refine sg_35_6 _ _ _ _ _ ?_
    rw [s2]
    exact ⟨fun _ => hp, fun z => absurd (tp_le.mpr (Int.le_refl _)) z⟩
theorem c_aboard {x y z : Int32} {t k w : Nat} (h0 : G0 pr sp u σ) (hS : GS lim tr ty st n σ) (hx : x = nI t) (hy : y = nI k) (hz : z = nI w) (ht : t < 4) (hk : k ≤ 8) (hw : w < 2) (hp : post (nI (g_c sp u tr ty st t k w n)) σ) : tp_E 27 0 [.ref 0, .int x, .int y, .int z] [] σ post :=
  sg_27_0 _ _ _ (sp_12 h0.2.2.1 hx ht (sp_in (l := 0) (h := 8) hy rfl rfl (by omega) hk (by omega) (sp_in (l := 0) (h := 1) hz rfl rfl (by omega) (by omega) (by omega) (sp_35 h0 hS hx hy hz ht hk hw hp))))
theorem c_riders {x y z : Int32} {b : Bool} {k w : Nat} (h0 : G0 pr sp u σ) (hS : GS lim tr ty st n σ) (hx : x = bI b) (hy : y = nI k) (hz : z = nI w) (hk : k ≤ 8) (hw : w < 2) (hp : post (nI (g_r sp u tr ty st b k w n)) σ) : tp_E 28 0 [.ref 0, .int x, .int y, .int z, .null, .null] [] σ post := by
  subst hx hy hz
  obtain ⟨s1, s2, s3, s4⟩ := id hS
  refine sg_28_0 _ _ _ (sp_in (l := 0) (h := 8) rfl rfl rfl (by omega) hk (by omega) (sp_in (l := 0) (h := 1) rfl rfl rfl (by omega) (by omega) (by omega) ?_))
  refine tp_up_loop (E := fun i => tp_E 28 27 [.ref 0, .int (bI b), .int (nI k), .int (nI w), .int (nI (g_r sp u tr ty st b k w i)), .int (nI i)] [] σ post) (n := n) (fun i hi g => ?_) ?_ 0 (Nat.zero_le _)
  · obtain ⟨⟨a1, a2, a3⟩, b1, b2, b3, b4⟩ := s3 i hi
    refine sg_28_27 _ _ _ _ _ ?_
    rw [tp_c (show i < 1000000 by omega), s2, b1, tp_c (show tr i < 1000000 by omega), (h0.2.2.2 _ a1).2]
    simp only [nI_1]
    unfold g_r at g ⊢
    rw [ct_succ] at g
    refine ⟨fun z => absurd z (tp_nle hi (by omega)), fun _ => ⟨tp_vi (by omega) (by omega), tp_vi (by omega) (by omega), fun z => ?_, fun z => ?_⟩⟩
    · rw [bI_eq] at z
      refine sp_36 h0 hS rfl rfl rfl hi hk hw (fun z2 => ⟨fun c => absurd c (by decide), fun _ => ?_⟩) (fun z2 => ⟨fun _ => ?_, fun c => absurd rfl c⟩)
      · rw [if_pos (by simp [z, z2])] at g; exact g
      · rw [if_neg (by simp [z, z2])] at g; exact g
    · rw [bI_eq] at z
      rw [if_neg (by simp [z])] at g; exact g
  · refine sg_28_27 _ _ _ _ _ ?_
    rw [s2]
    exact ⟨fun _ => hp, fun z => absurd (tp_le.mpr (Int.le_refl _)) z⟩
theorem c_heads {x y z : Int32} {t k h : Nat} (h0 : G0 pr sp u σ) (hS : GS lim tr ty st n σ) (hx : x = nI t) (hy : y = nI k) (hz : z = nI h) (ht : t < 4) (hk : k ≤ 8) (hh : h < 16) (h1 : (g_c sp u tr ty st t k 0 n ≤ h ∧ h ≤ g_c sp u tr ty st t k 1 n) → post 0 σ) (h2 : ¬ (g_c sp u tr ty st t k 0 n ≤ h ∧ h ≤ g_c sp u tr ty st t k 1 n) → ∀ r, ¬ r = 0 → post r σ) : tp_E 30 0 [.ref 0, .int x, .int y, .int z, .null, .null] [] σ post := by
  subst hx hy hz
  have n1 := hS.1
  have m1 := ct_le (p := fun i => decide (tr i = t) && g_ab sp ty st 1 (g_q u t k) i) n
  have m0 := ct_le (p := fun i => decide (tr i = t) && g_ab sp ty st 0 (g_q u t k) i) n
  change g_c sp u tr ty st t k 1 n ≤ n at m1
  change g_c sp u tr ty st t k 0 n ≤ n at m0
  refine sg_30_0 _ _ _ (sp_12 h0.2.2.1 rfl ht (sp_in (l := 0) (h := 8) rfl rfl rfl (by omega) hk (by omega) (sp_in (l := 0) (h := 1000) rfl rfl rfl (by omega) (by omega) (by omega) (sp_35 (w := 1) h0 hS rfl rfl rfl ht hk (by omega) ?_))))
  refine pk_le _ _ (fun z => sp_35 (w := 0) h0 hS rfl rfl rfl ht hk (by omega) (pk_le _ _ (fun z2 => h1 ⟨z2, z⟩) (fun z2 => h2 (by omega) _ (fun e => ?_)))) (fun z => h2 (by omega) _ (fun e => ?_))
  · have := tp_sub0 e
    rw [tp_ne (by omega) (by omega)] at this
    omega
  · have := tp_sub0 e
    rw [tp_ne (by omega) (by omega)] at this
    omega
/-- the search for a number that is sale i's, or none's -/
theorem sp_8 {x y : Int32} {k m : Nat} (hS : GS lim tr ty st n σ) (hx : x = nI k) (hy : y = nI m) (hm : m < 1000) (hk : k < 2) (h1 : ∀ i, i < n → ty i = k → g_no tr ty i = m → post (nI i) σ) (h0 : (∀ i, i < n → ¬ (ty i = k ∧ g_no tr ty i = m)) → post (-1) σ) : tp_E 8 0 [.ref 4, .int x, .int y, .null] [] σ post := by
  subst hx hy
  obtain ⟨s1, s2, s3, s4⟩ := id hS
  refine sg_8_0 _ _ ?_
  refine tp_up_loop (E := fun i => (∀ j, j < i → ¬ (ty j = k ∧ g_no tr ty j = m)) → tp_E 8 2 [.ref 4, .int (nI k), .int (nI m), .int (nI i)] [] σ post) (n := n) (fun i hi g hno => ?_) (fun hno => ?_) 0 (Nat.zero_le _) (fun j hj => absurd hj (Nat.not_lt_zero _))
  · obtain ⟨⟨a1, a2, a3⟩, b1, b2, b3, b4⟩ := s3 i hi
    have hc := ct_le (p := g_p tr ty (tr i) (ty i)) i
    have hn : g_no tr ty i < 1000 := by unfold g_no g_nx; omega
    refine sg_8_2 _ _ _ ?_
    rw [tp_c (show i < 1000000 by omega), s2, b2, b4]
    simp only [nI_1]
    have go : ¬ (ty i = k ∧ g_no tr ty i = m) → tp_E 8 2 [.ref 4, .int (nI k), .int (nI m), .int (nI (i + 1))] [] σ post := fun z => g (fun j hj => by
      rcases Nat.lt_succ_iff_lt_or_eq.mp hj with hj | rfl
      · exact hno j hj
      · exact z)
    exact ⟨fun z => absurd z (tp_nle hi (by omega)), fun _ => ⟨tp_vi (by omega) (by omega), pk_eq _ _ (fun z => ⟨tp_vi (by omega) (by omega), pk_eq _ _ (fun z2 => h1 i hi z z2) (fun z2 => go (fun z3 => z2 z3.2))⟩) (fun z => go (fun z3 => z z3.1))⟩⟩
  · refine sg_8_2 _ _ _ ?_
    rw [s2]
    exact ⟨fun _ => h0 hno, fun z => absurd (tp_le.mpr (Int.le_refl _)) z⟩
/-- a ticket that was sold, shown on its trip -/
theorem c_shown {x y z v : Int32} {k i : Nat} (h0 : G0 pr sp u σ) (hS : GS lim tr ty st n σ) (hi : i < n) (hx : x = nI (tr i)) (hy : y = nI k) (hz : z = nI (ty i)) (hv : v = nI (g_no tr ty i)) (hk : k ≤ 8) (h1 : g_in sp ty st (g_q u (tr i) k) i = true → post 0 σ) (h2 : ¬ g_in sp ty st (g_q u (tr i) k) i = true → ∀ r, ¬ r = 0 → post r σ) : tp_E 29 0 [.ref 0, .int x, .int y, .int z, .int v, .null, .null] [] σ post := by
  subst hx hy hz hv
  obtain ⟨s1, s2, s3, s4⟩ := id hS
  obtain ⟨⟨a1, a2, a3⟩, b1, b2, b3, b4⟩ := s3 i hi
  have hc := ct_le (p := g_p tr ty (tr i) (ty i)) i
  have hn : g_no tr ty i < 1000 := by unfold g_no g_nx; omega
  have hq := g_q_le (u := u) (t := tr i) hk
  refine sg_29_0 _ _ _ _ (sp_12 h0.2.2.1 rfl a1 (sp_in (l := 0) (h := 8) rfl rfl rfl (by omega) hk (by omega) (sp_17 h0.1 rfl a2 ⟨fun _ => sp_8 hS rfl rfl hn a2 (fun j hj e1 e2 => ?_) (fun hno => absurd ⟨rfl, rfl⟩ (hno i hi)), fun z => absurd (nI_pos' (by omega)) z⟩)))
  have hij : j = i := by
    rcases Nat.lt_trichotomy j i with h | h | h
    · exact absurd e2 (g_no_ne h (by omega) e1)
    · exact h
    · exact absurd e2.symm (g_no_ne h (by omega) e1.symm)
  subst hij
  rw [tp_c (show j < 1000000 by omega), b1]
  refine ⟨fun _ => ⟨tp_vi (by omega) (by omega), fun _ => sp_16 h0 rfl rfl a1 hk ?_, fun c => absurd rfl c⟩, fun z => absurd (nI_pos' (by omega)) z⟩
  rw [b3]
  refine ⟨tp_vi (by omega) (by omega), pk_le _ _ (fun z => ?_) (fun z => h2 (fun w => ?_) _ (by decide))⟩
  · exact sp_37 (A := fun _ => True) (B := fun _ => True) h0 hS rfl rfl hi hq (fun z2 => ⟨fun c => absurd c (by decide), fun _ => h1 z2⟩) (fun z2 => ⟨fun _ => h2 z2 _ (by decide), fun c => absurd rfl c⟩)
  · unfold g_in at w
    simp only [Bool.and_eq_true, decide_eq_true_eq] at w
    omega
/-- a ticket that isn't sold any more -/
theorem c_unsold {z v : Int32} {i : Nat} (h0 : G0 pr sp u σ) (hS : GS lim tr ty st n σ) (hi : n ≤ i) (hi2 : i < 14) (htr : tr i < 4) (hty : ty i < 2) (hz : z = nI (ty i)) (hv : v = nI (g_no tr ty i)) (hp : post 1 σ) : tp_E 29 0 [.ref 0, .int 0, .int 0, .int z, .int v, .null, .null] [] σ post := by
  subst hz hv
  have hc := ct_le (p := g_p tr ty (tr i) (ty i)) i
  have hn : g_no tr ty i < 1000 := by unfold g_no g_nx; omega
  refine sg_29_0 _ _ _ _ (sp_12 (t := 0) h0.2.2.1 rfl (by omega) (sp_in (n := 0) (l := 0) (h := 8) rfl rfl rfl (by omega) (by omega) (by omega) (sp_17 h0.1 rfl hty ⟨fun _ => sp_8 hS rfl rfl hn hty (fun j hj e1 e2 => absurd e2 (g_no_ne (by omega) (by omega) e1)) (fun _ => ⟨fun c => absurd c (by decide), fun _ => hp⟩), fun z => absurd (nI_pos' (by omega)) z⟩)))
/-- the latest sale undone -/
theorem c_undo (h0 : G0 pr sp u σ) (ho : GO σ) (hS : GS lim tr ty st (n + 1) σ) (hp : ∀ σ', GS lim tr ty st n σ' → (∀ o k, ¬ ((o = 4 ∧ k = 4) ∨ (46 ≤ o ∧ o < 52)) → σ'.1 o k = σ.1 o k) → σ'.2 = σ.2 → post (nI n) σ') : tp_E 25 0 [.ref 0, .null, .null, .null] [] σ post := by
  obtain ⟨s1, s2, s3, s4⟩ := id hS
  obtain ⟨⟨a1, a2, a3⟩, b1, b2, b3, b4⟩ := s3 n (by omega)
  obtain ⟨e1, e2, e3, e4⟩ := s4 (tr n) (ty n) a1 a2
  have hx : g_nx tr ty (n + 1) (tr n) (ty n) = g_no tr ty n + 1 := by rw [g_nx_succ, if_pos ⟨rfl, rfl⟩]; rfl
  refine sg_25_0 ?_
  rw [s2, nI_pred, tp_c (show n < 1000000 by omega), b1, b2, b4, tp_c (show tr n < 1000000 by omega), tp_c (show ty n < 1000000 by omega), (h0.2.2.2 _ a1).1, tp_c (show tr n < 1000000 by omega), ho _ a1, e1, hx, nI_pred]
  have v1 := tp_vi (show n < 200 by omega) (by omega)
  have v2 := tp_vi (show tr n < 16 by omega) (by omega)
  refine ⟨fun c => absurd c (nI_ne0 (by omega) (by omega)), fun _ => ⟨v1, v2, tp_vi (show tr n < 6 by omega) (by omega), v1, tp_vi (show ty n < 5 by omega) (by omega), v2, fun c => absurd c (by decide), fun _ => ⟨v1, fun _ => ?_, fun c => absurd rfl c⟩⟩⟩
  refine sg_38_0 ?_
  rw [s2, nI_pred, tp_c (show n < 1000000 by omega), b1, b2, b4, tp_c (show tr n < 1000000 by omega), tp_c (show ty n < 1000000 by omega), (h0.2.2.2 _ a1).1, tp_c (show tr n < 1000000 by omega)]
  refine ⟨v1, v2, tp_vi (show tr n < 6 by omega) (by omega), v1, v1, tp_vi (show ty n < 5 by omega) (by omega), ?_⟩
  rw [tp_sg_eq]
  refine hp _ ⟨by omega, tp_sg_eq, fun i hi => ?_, fun t k ht hk => ?_⟩ (fun o k hd => ?_) rfl
  · rw [tp_sg_ne (by omega), tp_sg_ne (by omega), tp_sg_ne (by omega), tp_sg_ne (by omega), tp_sg_ne (by omega), tp_sg_ne (by omega), tp_sg_ne (by omega), tp_sg_ne (by omega)]
    exact s3 i (by omega)
  · obtain ⟨f1, f2, f3, f4⟩ := s4 t k ht hk
    have hs := g_nx_succ (tr := tr) (ty := ty) (n := n) (t := t) (k := k)
    rw [tp_sg_ne (o' := 52 + t) (by omega), tp_sg_ne (o' := 52 + t) (by omega), tp_sg_ne (o' := 46 + t) (o := 4) (by omega)]
    by_cases e : t = tr n ∧ k = ty n
    · obtain ⟨rfl, rfl⟩ := e
      rw [tp_sg_eq]
      exact ⟨rfl, f2, by rw [if_pos ⟨rfl, rfl⟩] at hs; omega, f4⟩
    · rw [tp_sg_ne (by omega)]
      rw [if_neg (fun z => e ⟨z.1.symm, z.2.symm⟩)] at hs
      rw [← hs]
      exact ⟨f1, f2, f3, f4⟩
  · rw [tp_sg_ne (by omega), tp_sg_ne (by omega)]
end GD
end
section
/-! selling; the law's own loop of sales -/
/-- the step of the last sale on trip t, or 0 -/
def g_ls (tr st : Nat → Nat) (t : Nat) : Nat → Nat
  | 0 => 0
  | n + 1 => if tr n = t then st n else g_ls tr st t n
theorem g_ls_le {tr st : Nat → Nat} {t : Nat} : ∀ {n}, (∀ i, i < n → st i ≤ 8) → g_ls tr st t n ≤ 8
  | 0, _ => by unfold g_ls; omega
  | n + 1, h => by
    unfold g_ls
    have := h n (by omega)
    have := g_ls_le (tr := tr) (st := st) (t := t) (n := n) (fun i hi => h i (by omega))
    split <;> omega
/-- a stage by its step -/
def g_sg (u : Nat → Bool) (t s : Nat) : Nat := if u t = true then s else 9 - s
theorem GS_congr {lim : Nat → Nat → Nat} {tr ty st tr' ty' st' : Nat → Nat} {n : Nat} {σ : tp_St} (h : GS lim tr ty st n σ) (e : ∀ i, i < n → tr' i = tr i ∧ ty' i = ty i ∧ st' i = st i) : GS lim tr' ty' st' n σ := by
  obtain ⟨s1, s2, s3, s4⟩ := h
  have hx : ∀ m, m ≤ n → ∀ t k, g_nx tr' ty' m t k = g_nx tr ty m t k := fun m hm t k => by
    unfold g_nx
    rw [ct_congr (p := g_p tr' ty' t k) (q := g_p tr ty t k) (n := m) (fun i hi => by unfold g_p; rw [(e i (by omega)).1, (e i (by omega)).2.1])]
  refine ⟨s1, s2, fun i hi => ?_, fun t k ht hk => ?_⟩
  · unfold g_no
    rw [(e i hi).1, (e i hi).2.1, (e i hi).2.2, hx i (by omega)]
    exact s3 i hi
  · rw [hx n (Nat.le_refl _)]
    exact s4 t k ht hk
section GE
variable {pr sp : Nat → Nat} {u : Nat → Bool} {lim : Nat → Nat → Nat} {tr ty st : Nat → Nat} {n : Nat} {σ : tp_St} {post : Int32 → tp_St → Prop}
theorem sp_7 {x : Int32} {t : Nat} (hS : GS lim tr ty st n σ) (hx : x = nI t) (ht : t < 4) (hp : post (nI (g_ls tr st t n)) σ) : tp_E 7 0 [.ref 4, .int x, .null] [] σ post := by
  subst hx
  obtain ⟨s1, s2, s3, s4⟩ := hS
  refine sg_7_0 _ ?_
  rw [s2]
  have key : ∀ m, m ≤ n → post (nI (g_ls tr st t m)) σ → tp_E 7 7 [.ref 4, .int (nI t), .int (nI m - 1)] [] σ post := by
    intro m
    induction m with
    | zero =>
      intro _ h
      refine sg_7_7 _ _ ?_
      rw [tp_neg1]
      exact ⟨fun _ => h, fun z => absurd (by decide) z⟩
    | succ m ih =>
      intro hle h
      obtain ⟨⟨a1, a2, a3⟩, b1, b2, b3, b4⟩ := s3 m (by omega)
      refine sg_7_7 _ _ ?_
      rw [nI_pred, tp_m1, tp_c (show m < 1000000 by omega), b1, b3]
      unfold g_ls at h
      refine ⟨fun z => absurd z (nI_pos (by omega)), fun _ => ⟨tp_vi (by omega) (by omega), pk_eq (tr m) t (fun z => ⟨tp_vi (by omega) (by omega), ?_⟩) (fun z => ih (by omega) ?_)⟩⟩
      · rw [if_pos z] at h; exact h
      · rw [if_neg z] at h; exact h
  exact key n (Nat.le_refl _) hp
theorem sp_15 {x y : Int32} {t g : Nat} (h0 : G0 pr sp u σ) (hx : x = nI t) (hy : y = nI (g_sg u t g)) (ht : t < 4) (hg : g ≤ 9) (hp : post (nI g) σ) : tp_E 15 0 [.ref 3, .int x, .int y] [] σ post := by
  subst hx hy
  refine sg_15_0 _ _ ?_
  rw [tp_c (show t < 1000000 by omega), (h0.2.2.2 t ht).2]
  unfold g_sg
  refine ⟨tp_vi (by omega) (by omega), fun z => ?_, fun z => ?_⟩
  · rw [if_neg (bI_0.mp z), show (9 : Int32) = nI 9 from rfl, pk_sub (by omega), show 9 - (9 - g) = g by omega]
    exact hp
  · rw [if_pos (Classical.not_not.mp (fun w => z (bI_0.mpr w)))]
    exact hp
theorem c_sell {x y z : Int32} (h0 : G0 pr sp u σ) (ho : GO σ) (hS : GS lim tr ty st n σ) (hn : n < 14) (ht : tr n < 4) (hk : ty n < 2) (hg : st n ≤ 9) (hx : x = nI (tr n)) (hy : y = nI (ty n)) (hz : z = nI (g_sg u (tr n) (st n)))
    (h2 : (st n < g_ls tr st (tr n) n ∨ st n = 9) → post (-2) σ) (h4 : ¬ (st n < g_ls tr st (tr n) n ∨ st n = 9) → g_nx tr ty n (tr n) (ty n) = lim (tr n) (ty n) → post (-4) σ)
    (h1 : ¬ (st n < g_ls tr st (tr n) n ∨ st n = 9) → ¬ g_nx tr ty n (tr n) (ty n) = lim (tr n) (ty n) → ∀ σ', GS lim tr ty st (n + 1) σ' → (∀ o k, ¬ ((o = 4 ∧ k = 4) ∨ (15 ≤ o ∧ o ≤ 18) ∨ (46 ≤ o ∧ o < 52)) → σ'.1 o k = σ.1 o k) → σ'.2 = σ.2 → post (nI (g_no tr ty n)) σ') : tp_E 24 0 [.ref 0, .int x, .int y, .int z, .null, .null, .null] [] σ post := by
  subst hx hy hz
  obtain ⟨s1, s2, s3, s4⟩ := id hS
  obtain ⟨e1, e2, e3, e4⟩ := s4 (tr n) (ty n) ht hk
  have hsg : g_sg u (tr n) (st n) ≤ 9 := by unfold g_sg; split <;> omega
  have hls := g_ls_le (tr := tr) (st := st) (t := tr n) (n := n) (fun i hi => (s3 i hi).1.2.2)
  have hf : ∀ τ : tp_St, τ.1 4 4 = nI n → ∀ {A B : tp_St → Prop}, A τ → tp_E 5 0 [.ref 4] [] τ (fun r σ1 => (r = 0 → A σ1) ∧ (¬ r = 0 → B σ1)) := fun τ h A B k => by
    refine sg_5_0 ?_
    rw [h]
    exact pk_lt n 200 (fun _ => ⟨fun _ => k, fun z => absurd rfl z⟩) (fun z => absurd z (by omega))
  refine sg_24_0 _ _ _ (sp_12 h0.2.2.1 rfl ht (sp_17 h0.1 rfl hk (sp_in (l := 0) (h := 9) rfl rfl rfl (by omega) hsg (by omega) (sp_15 h0 rfl rfl ht hg ?_))))
  rw [tp_c (show tr n < 1000000 by omega), ho _ ht]
  refine ⟨tp_vi (by omega) (by omega), fun c => absurd c (by decide), fun _ => sp_7 hS rfl ht (pk_lt (st n) (g_ls tr st (tr n) n) (fun z => h2 (Or.inl z)) (fun z => pk_eq (st n) 9 (fun z2 => h2 (Or.inr z2)) (fun z2 => hf σ s2 ⟨tp_vi (by omega) (by omega), ?_⟩)))⟩
  have hno : ¬ (st n < g_ls tr st (tr n) n ∨ st n = 9) := by omega
  rw [(h0.2.2.2 _ ht).1]
  refine sp_0 rfl rfl (by omega) (by omega) _ ⟨fun c => ?_, fun c => ?_⟩
  · have := tp_sub0 c
    rw [e1, e2, tp_ne (by omega) (by omega)] at this
    exact h4 hno this.symm
  have hne : ¬ g_nx tr ty n (tr n) (ty n) = lim (tr n) (ty n) := fun w => c (by rw [e1, e2, w, Int32.sub_self])
  refine sg_2_0 _ _ ?_
  rw [tp_c (show tr n < 1000000 by omega), tp_c (show ty n < 1000000 by omega), e1, nI_1]
  have v5 := tp_vi (show ty n < 5 by omega) (by omega)
  refine ⟨tp_vi (by omega) (by omega), v5, v5, ?_⟩
  refine sg_6_0 _ _ _ _ (hf _ (by rw [tp_sg_ne (by omega)]; exact s2) ?_)
  rw [tp_sg_ne (by omega), s2, tp_c (show n < 1000000 by omega), nI_1]
  have hv := tp_vi (show n < 200 by omega) (by omega)
  refine ⟨hv, hv, hv, hv, ?_⟩
  refine h1 hno hne _ ⟨by omega, tp_sg_eq, fun i hi => ?_, fun t k ht2 hk2 => ?_⟩ (fun o k hd => ?_) rfl
  · by_cases e : i = n
    · subst e
      refine ⟨⟨ht, hk, by omega⟩, ?_, ?_, ?_, ?_⟩
      · rw [tp_sg_ne (by omega), tp_sg_ne (by omega), tp_sg_ne (by omega), tp_sg_ne (by omega), tp_sg_eq]
      · rw [tp_sg_ne (by omega), tp_sg_ne (by omega), tp_sg_ne (by omega), tp_sg_eq]
      · rw [tp_sg_ne (by omega), tp_sg_ne (by omega), tp_sg_eq]
      · rw [tp_sg_ne (by omega), tp_sg_eq]
        rfl
    · rw [tp_sg_ne (by omega), tp_sg_ne (by omega), tp_sg_ne (by omega), tp_sg_ne (by omega), tp_sg_ne (by omega), tp_sg_ne (by omega), tp_sg_ne (by omega), tp_sg_ne (by omega), tp_sg_ne (by omega), tp_sg_ne (by omega), tp_sg_ne (by omega), tp_sg_ne (by omega), tp_sg_ne (by omega), tp_sg_ne (by omega), tp_sg_ne (by omega), tp_sg_ne (by omega), tp_sg_ne (by omega), tp_sg_ne (by omega), tp_sg_ne (by omega), tp_sg_ne (by omega), tp_sg_ne (by omega), tp_sg_ne (by omega), tp_sg_ne (by omega), tp_sg_ne (by omega)]
      exact s3 i (by omega)
  · obtain ⟨f1, f2, f3, f4⟩ := s4 t k ht2 hk2
    have hs := g_nx_succ (tr := tr) (ty := ty) (n := n) (t := t) (k := k)
    have e5 : ∀ o, 46 ≤ o → (tp_set (tp_set (tp_set (tp_set (tp_set (tp_set σ (46 + tr n) (ty n) (nI (g_nx tr ty n (tr n) (ty n) + 1))) 15 n (nI (tr n))) 16 n (nI (ty n))) 17 n (nI (st n))) 18 n (nI (g_nx tr ty n (tr n) (ty n)))) 4 4 (nI (n + 1))).1 o k = (tp_set σ (46 + tr n) (ty n) (nI (g_nx tr ty n (tr n) (ty n) + 1))).1 o k := fun o h => by
      rw [tp_sg_ne (by omega), tp_sg_ne (by omega), tp_sg_ne (by omega), tp_sg_ne (by omega), tp_sg_ne (by omega)]
    rw [e5 _ (by omega), e5 _ (by omega), tp_sg_ne (o' := 52 + t) (by omega)]
    by_cases e : t = tr n ∧ k = ty n
    · obtain ⟨rfl, rfl⟩ := e
      rw [if_pos ⟨rfl, rfl⟩] at hs
      rw [tp_sg_eq, hs]
      exact ⟨rfl, f2, by omega, f4⟩
    · rw [if_neg (fun z => e ⟨z.1.symm, z.2.symm⟩)] at hs
      rw [tp_sg_ne (by omega), hs]
      exact ⟨f1, f2, f3, f4⟩
  · rw [tp_sg_ne (by omega), tp_sg_ne (by omega), tp_sg_ne (by omega), tp_sg_ne (by omega), tp_sg_ne (by omega), tp_sg_ne (by omega)]
end GE
end
section
/-! the law's own side: its arrays, the script -/
def GA (pr sp : Nat → Nat) (u : Nat → Bool) (σ : tp_St) : Prop := 64 < σ.2.1 ∧ (∀ k, k < 2 → σ.1 58 k = nI (pr k) ∧ σ.1 59 k = nI (sp k)) ∧ ∀ t, t < 4 → σ.1 60 t = bI (u t) ∧ σ.1 61 t = nI t
def SC (L : Nat) (σ : tp_St) : Prop := σ.1 89 0 = nI L ∧ L < 1000000
def GL (u : Nat → Bool) (tr ty st : Nat → Nat) (n : Nat) (σ : tp_St) : Prop := σ.1 64 0 = nI n ∧ ∀ i, i < n → σ.1 64 (4 * i + 1) = nI (tr i) ∧ σ.1 64 (4 * i + 2) = nI (ty i) ∧ σ.1 64 (4 * i + 3) = nI (g_no tr ty i) ∧ σ.1 64 (4 * i + 4) = nI (g_sg u (tr i) (st i))
def GP (lim : Nat → Nat → Nat) (tr ty : Nat → Nat) (n : Nat) (σ : tp_St) : Prop := ∀ t k, t < 4 → k < 2 → σ.1 62 (2 * t + k) = nI (g_nx tr ty n t k) ∧ σ.1 63 (2 * t + k) = nI (lim t k)
def GI (pr sp : Nat → Nat) (u : Nat → Bool) (lim : Nat → Nat → Nat) (L : Nat) (tr ty st : Nat → Nat) (n : Nat) (σ : tp_St) : Prop := G0 pr sp u σ ∧ GO σ ∧ GA pr sp u σ ∧ SC L σ ∧ GS lim tr ty st n σ ∧ GL u tr ty st n σ ∧ GP lim tr ty n σ
theorem GA_fr {pr sp : Nat → Nat} {u : Nat → Bool} {σ σ' : tp_St} (h : GA pr sp u σ) (h2 : σ'.2 = σ.2) (e : ∀ o k, (58 ≤ o ∧ o < 62) → σ'.1 o k = σ.1 o k) : GA pr sp u σ' := by
  obtain ⟨a1, a2, a3⟩ := h
  refine ⟨by rw [h2]; exact a1, fun k hk => ?_, fun t ht => ?_⟩
  · rw [e 58 k (by omega), e 59 k (by omega)]; exact a2 k hk
  · rw [e 60 t (by omega), e 61 t (by omega)]; exact a3 t ht
theorem g_nx_congr {tr ty tr' ty' : Nat → Nat} {n t k : Nat} (e : ∀ i, i < n → tr' i = tr i ∧ ty' i = ty i) : g_nx tr' ty' n t k = g_nx tr ty n t k := by
  unfold g_nx
  rw [ct_congr (p := g_p tr' ty' t k) (q := g_p tr ty t k) (n := n) (fun i hi => by unfold g_p; rw [(e i hi).1, (e i hi).2])]
theorem g_ls_congr {tr st tr' st' : Nat → Nat} {t : Nat} : ∀ {n}, (∀ i, i < n → tr' i = tr i ∧ st' i = st i) → g_ls tr' st' t n = g_ls tr st t n
  | 0, _ => rfl
  | n + 1, h => by
    unfold g_ls
    rw [(h n (by omega)).1, (h n (by omega)).2, g_ls_congr (n := n) (fun i hi => h i (by omega))]
theorem GI_congr {pr sp : Nat → Nat} {u : Nat → Bool} {lim : Nat → Nat → Nat} {L : Nat} {tr ty st tr' ty' st' : Nat → Nat} {n : Nat} {σ : tp_St} (h : GI pr sp u lim L tr ty st n σ) (e : ∀ i, i < n → tr' i = tr i ∧ ty' i = ty i ∧ st' i = st i) : GI pr sp u lim L tr' ty' st' n σ := by
  obtain ⟨h0, ho, hA, hC, hS, hL, hP⟩ := h
  refine ⟨h0, ho, hA, hC, GS_congr hS e, ⟨hL.1, fun i hi => ?_⟩, fun t k ht hk => ?_⟩
  · unfold g_no
    rw [(e i hi).1, (e i hi).2.1, (e i hi).2.2, g_nx_congr (n := i) (fun j hj => ⟨(e j (by omega)).1, (e j (by omega)).2.1⟩)]
    exact hL.2 i hi
  · rw [g_nx_congr (fun j hj => ⟨(e j hj).1, (e j hj).2.1⟩)]
    exact hP t k ht hk
theorem tp_41 {i : Nat} : (4 : Int32) * nI i + 1 = nI (4 * i + 1) := by rw [show (4 : Int32) = nI 4 from rfl, pk_mul, nI_1]
theorem tp_42 {i : Nat} : (4 : Int32) * nI i + 2 = nI (4 * i + 2) := by rw [show (4 : Int32) = nI 4 from rfl, pk_mul, show (2 : Int32) = nI 2 from rfl, nI_add]
theorem tp_43 {i : Nat} : (4 : Int32) * nI i + 3 = nI (4 * i + 3) := by rw [show (4 : Int32) = nI 4 from rfl, pk_mul, show (3 : Int32) = nI 3 from rfl, nI_add]
theorem tp_44 {i : Nat} : (4 : Int32) * nI i + 4 = nI (4 * i + 4) := by rw [show (4 : Int32) = nI 4 from rfl, pk_mul, nI_add]
theorem tp_2k {t k : Nat} : (2 : Int32) * nI t + nI k = nI (2 * t + k) := by rw [show (2 : Int32) = nI 2 from rfl, pk_mul, nI_add]
/-- the stage of the last sale on trip t -/
def g_la (u : Nat → Bool) (tr st : Nat → Nat) (t : Nat) : Nat → Option Nat
  | 0 => none
  | n + 1 => if tr n = t then some (g_sg u t (st n)) else g_la u tr st t n
def g_ox : Option Nat → Int32
  | none => -1
  | some x => nI x
theorem g_la_ls {u : Nat → Bool} {tr st : Nat → Nat} {t : Nat} : ∀ {n}, (g_la u tr st t n = none ∧ g_ls tr st t n = 0) ∨ g_la u tr st t n = some (g_sg u t (g_ls tr st t n))
  | 0 => Or.inl ⟨rfl, rfl⟩
  | n + 1 => by
    unfold g_la g_ls
    by_cases h : tr n = t
    · rw [if_pos h, if_pos h]
      exact Or.inr rfl
    · rw [if_neg h, if_neg h]
      exact g_la_ls
section GF
variable {pr sp : Nat → Nat} {u : Nat → Bool} {lim : Nat → Nat → Nat} {L : Nat} {tr ty st : Nat → Nat} {n e : Nat} {σ : tp_St} {post : Int32 → tp_St → Prop}
/-- from here on the loop is done -/
def S_nx (pr sp : Nat → Nat) (u : Nat → Bool) (lim : Nat → Nat → Nat) (L e : Nat) (post : Int32 → tp_St → Prop) : Prop := ∀ tr ty st n σ, n ≤ e → GI pr sp u lim L tr ty st n σ → H_42_3 20 4 2 (nI e) σ post
theorem s_374 (hn : n ≤ e + 1) (k : S_nx pr sp u lim L (e + 1) post) (h : GI pr sp u lim L tr ty st n σ) : H_42_374 20 4 2 (nI e) σ post := by
  refine sg_42_374 _ _ _ _ ?_
  rw [nI_1]
  exact k _ _ _ _ _ hn h
theorem s_289 {d : Int32} (he : n ≤ e) (he2 : e < 14) (h : GI pr sp u lim L tr ty st n σ) (ht : tr n < 4) (hk : ty n < 2) (hg : st n ≤ 9) (k : S_nx pr sp u lim L (e + 1) post)
    (d2 : (st n < g_ls tr st (tr n) n ∨ st n = 9) → d = -2) (d4 : ¬ (st n < g_ls tr st (tr n) n ∨ st n = 9) → g_nx tr ty n (tr n) (ty n) = lim (tr n) (ty n) → d = -4)
    (d1 : ¬ (st n < g_ls tr st (tr n) n ∨ st n = 9) → ¬ g_nx tr ty n (tr n) (ty n) = lim (tr n) (ty n) → d = nI (g_no tr ty n)) :
    H_42_289 20 4 2 (nI e) (nI (tr n)) (nI (ty n)) (nI (g_sg u (tr n) (st n))) (nI (2 * tr n + ty n)) d σ post := by
  obtain ⟨h0, ho, hA, hC, hS, hL, hP⟩ := id h
  refine sg_42_289 _ _ _ _ _ _ _ _ _ (c_sell h0 ho hS (by omega) ht hk hg rfl rfl rfl (fun z => ?_) (fun z z2 => ?_) (fun z z2 σ' hS' hf h2 => ?_))
  · rw [d2 z]
    exact ⟨fun _ => ⟨fun _ => s_374 (by omega) k h, fun w => absurd (by decide) w⟩, fun w => absurd rfl w⟩
  · rw [d4 z z2]
    exact ⟨fun _ => ⟨fun _ => s_374 (by omega) k h, fun w => absurd (by decide) w⟩, fun w => absurd rfl w⟩
  · rw [d1 z z2]
    have hc := ct_le (p := g_p tr ty (tr n) (ty n)) n
    have hno : g_no tr ty n < 1000 := by unfold g_no g_nx; omega
    have hN : 64 < σ'.2.1 := by rw [h2]; exact hA.1
    have e64 : σ'.1 64 0 = nI n := (hf 64 0 (by omega)).trans hL.1
    have e62 : σ'.1 62 (2 * tr n + ty n) = nI (g_nx tr ty n (tr n) (ty n)) := (hf 62 _ (by omega)).trans (hP _ _ ht hk).1
    rw [e64, tp_41, tp_42, tp_43, tp_44, tp_c (show 4 * n + 1 < 1000000 by omega), tp_c (show 4 * n + 2 < 1000000 by omega), tp_c (show 4 * n + 3 < 1000000 by omega), tp_c (show 4 * n + 4 < 1000000 by omega), tp_c (show 2 * tr n + ty n < 1000000 by omega), e62, nI_1]
    have v1 := tp_vi (show 4 * n + 1 < 60 by omega) (by omega)
    have v2 := tp_vi (show 4 * n + 2 < 60 by omega) (by omega)
    have v3 := tp_vi (show 4 * n + 3 < 60 by omega) (by omega)
    have v4 := tp_vi (show 4 * n + 4 < 60 by omega) (by omega)
    have v8 := tp_vi (show 2 * tr n + ty n < 8 by omega) (by omega)
    refine ⟨fun _ => ⟨fun w => absurd w (nI_pos (by omega)), fun _ => ⟨hN, hN, v1, hN, v2, hN, v3, hN, v4, hN, hN, (by omega), v8, (by omega), v8, ?_⟩⟩, fun w => absurd rfl w⟩
    rw [tp_sg_ne (o' := 64) (k' := 0) (by omega), tp_sg_ne (o' := 64) (k' := 0) (by omega), tp_sg_ne (o' := 64) (k' := 0) (by omega), tp_sg_ne (o' := 64) (k' := 0) (by omega), e64, nI_1]
    generalize hX : (tp_set (tp_set (tp_set (tp_set (tp_set (tp_set σ' 64 (4 * n + 1) (nI (tr n))) 64 (4 * n + 2) (nI (ty n))) 64 (4 * n + 3) (nI (g_no tr ty n))) 64 (4 * n + 4) (nI (g_sg u (tr n) (st n)))) 64 0 (nI (n + 1))) 62 (2 * tr n + ty n) (nI (g_nx tr ty n (tr n) (ty n) + 1))) = X
    have x2 : X.2 = σ.2 := by rw [← hX]; exact h2
    have xf : ∀ o j, ¬ (o = 64 ∨ o = 62) → X.1 o j = σ'.1 o j := fun o j hd => by
      rw [← hX, tp_sg_ne (by omega), tp_sg_ne (by omega), tp_sg_ne (by omega), tp_sg_ne (by omega), tp_sg_ne (by omega), tp_sg_ne (by omega)]
    have x64 : ∀ j, ¬ (j = 0 ∨ (4 * n + 1 ≤ j ∧ j ≤ 4 * n + 4)) → X.1 64 j = σ'.1 64 j := fun j hd => by
      rw [← hX, tp_sg_ne (by omega), tp_sg_ne (by omega), tp_sg_ne (by omega), tp_sg_ne (by omega), tp_sg_ne (by omega), tp_sg_ne (by omega)]
    refine s_374 (tr := tr) (ty := ty) (st := st) (n := n + 1) (by omega) k ⟨G0_fr h0 (fun o j hd => (xf o j (by omega)).trans (hf o j (by omega))), fun t ht2 => (xf 14 t (by omega)).trans ((hf 14 t (by omega)).trans (ho t ht2)), GA_fr hA x2 (fun o j hd => (xf o j (by omega)).trans (hf o j (by omega))), ⟨(xf 89 0 (by omega)).trans ((hf 89 0 (by omega)).trans hC.1), hC.2⟩, GS_fr hS' (fun o j hd => xf o j (by omega)), ⟨?_, fun i hi => ?_⟩, fun t j ht2 hk2 => ?_⟩
    · rw [← hX, tp_sg_ne (by omega), tp_sg_eq]
    · by_cases q : i = n
      · subst q
        refine ⟨?_, ?_, ?_, ?_⟩
        · rw [← hX, tp_sg_ne (by omega), tp_sg_ne (by omega), tp_sg_ne (by omega), tp_sg_ne (by omega), tp_sg_ne (by omega), tp_sg_eq]
        · rw [← hX, tp_sg_ne (by omega), tp_sg_ne (by omega), tp_sg_ne (by omega), tp_sg_ne (by omega), tp_sg_eq]
        · rw [← hX, tp_sg_ne (by omega), tp_sg_ne (by omega), tp_sg_ne (by omega), tp_sg_eq]
        · rw [← hX, tp_sg_ne (by omega), tp_sg_ne (by omega), tp_sg_eq]
      · rw [x64 _ (by omega), x64 _ (by omega), x64 _ (by omega), x64 _ (by omega), hf _ _ (by omega), hf _ _ (by omega), hf _ _ (by omega), hf _ _ (by omega)]
        exact hL.2 i (by omega)
    · have hs := g_nx_succ (tr := tr) (ty := ty) (n := n) (t := t) (k := j)
      obtain ⟨p1, p2⟩ := hP t j ht2 hk2
      refine ⟨?_, (xf 63 _ (by omega)).trans ((hf 63 _ (by omega)).trans p2)⟩
      by_cases q : t = tr n ∧ j = ty n
      · obtain ⟨rfl, rfl⟩ := q
        rw [if_pos ⟨rfl, rfl⟩] at hs
        rw [← hX, tp_sg_eq, hs]
      · rw [if_neg (fun w => q ⟨w.1.symm, w.2.symm⟩)] at hs
        rw [← hX, tp_sg_ne (by omega), tp_sg_ne (by omega), tp_sg_ne (by omega), tp_sg_ne (by omega), tp_sg_ne (by omega), tp_sg_ne (by omega), hf _ _ (by omega), p1, hs]
theorem s_233 (he : n ≤ e) (he2 : e < 14) (h : GI pr sp u lim L tr ty st n σ) (ht : tr n < 4) (hk : ty n < 2) (hg : st n ≤ 9) (k : S_nx pr sp u lim L (e + 1) post) :
    H_42_233 20 4 2 (nI e) (nI (tr n)) (nI (ty n)) (nI (st n)) (nI (g_sg u (tr n) (st n))) (nI (g_ls tr st (tr n) n)) σ post := by
  obtain ⟨h0, ho, hA, hC, hS, hL, hP⟩ := id h
  have hls := g_ls_le (tr := tr) (st := st) (t := tr n) (n := n) (fun i hi => (hS.2.2.1 i hi).1.2.2)
  have hN := hA.1
  obtain ⟨p1, p2⟩ := hP _ _ ht hk
  obtain ⟨-, -, q3, q4⟩ := hS.2.2.2 _ _ ht hk
  have v8 := tp_vi (show 2 * tr n + ty n < 8 by omega) (by omega)
  have f2 : (st n < g_ls tr st (tr n) n ∨ st n = 9) → H_42_261 20 4 2 (nI e) (nI (tr n)) (nI (ty n)) (nI (g_sg u (tr n) (st n))) (nI (2 * tr n + ty n)) σ post := fun z =>
    sg_42_261 _ _ _ _ _ _ _ _ (s_289 he he2 h ht hk hg k (fun _ => rfl) (fun w => absurd z w) (fun w => absurd z w))
  refine sg_42_233 _ _ _ _ _ _ _ _ _ ?_
  rw [tp_c (show tr n < 1000000 by omega), (hA.2.2 _ ht).2, tp_2k, tp_c (show 2 * tr n + ty n < 1000000 by omega), p1, p2]
  refine ⟨by omega, tp_vi ht (by omega), pk_lt (st n) (g_ls tr st (tr n) n) (fun z => f2 (Or.inl z)) (fun z => pk_eq (st n) 9 (fun z2 => f2 (Or.inr z2)) (fun z2 => ⟨by omega, v8, by omega, v8, pk_eq (g_nx tr ty n (tr n) (ty n)) (lim (tr n) (ty n)) (fun z3 => ?_) (fun z3 => ⟨by omega, v8, ?_⟩)⟩))⟩
  · exact s_289 he he2 h ht hk hg k (fun w => by omega) (fun _ _ => rfl) (fun _ w => absurd z3 w)
  · exact s_289 he he2 h ht hk hg k (fun w => by omega) (fun _ w => absurd w z3) (fun _ _ => rfl)
theorem s_182 {t y g : Nat} (he : n ≤ e) (he2 : e < 14) (h : GI pr sp u lim L tr ty st n σ) (ht : t < 4) (hk : y < 2) (hg : g ≤ 9) (k : S_nx pr sp u lim L (e + 1) post) :
    H_42_182 20 4 2 (nI e) (nI t) (nI y) (g_ox (g_la u tr st t n)) (nI g) σ post := by
  obtain ⟨h0, ho, hA, hC, hS, hL, hP⟩ := id h
  have hN := hA.1
  have hls := g_ls_le (tr := tr) (st := st) (t := t) (n := n) (fun i hi => (hS.2.2.1 i hi).1.2.2)
  have hG : GI pr sp u lim L (fun i => if i = n then t else tr i) (fun i => if i = n then y else ty i) (fun i => if i = n then g else st i) n σ := GI_congr h (fun i hi => by
    have : ¬ i = n := by omega
    simp only [if_neg this, and_self])
  have key := s_233 (e := e) (post := post) he he2 hG (by simpa using ht) (by simpa using hk) (by simpa using hg) k
  have els : g_ls (fun i => if i = n then t else tr i) (fun i => if i = n then g else st i) t n = g_ls tr st t n := g_ls_congr (fun i hi => by
    have : ¬ i = n := by omega
    simp only [if_neg this, and_self])
  simp only [if_true, els] at key
  have f203 : H_42_203 20 4 2 (nI e) (nI t) (nI y) (g_ox (g_la u tr st t n)) (nI g) (nI (g_sg u t g)) σ post := by
    refine sg_42_203 _ _ _ _ _ _ _ _ _ ?_
    rcases g_la_ls (u := u) (tr := tr) (st := st) (t := t) (n := n) with ⟨q1, q2⟩ | q
    · rw [q1]
      rw [q2] at key
      exact ⟨fun z => absurd z (by decide), fun _ => key⟩
    · rw [q]
      have hsg : g_sg u t (g_ls tr st t n) ≤ 9 := by unfold g_sg; split <;> omega
      refine ⟨fun _ => ⟨by omega, tp_vi ht (by omega), ?_⟩, fun z => absurd (nI_pos' (n := g_sg u t (g_ls tr st t n)) (by omega)) z⟩
      rw [tp_c (show t < 1000000 by omega), (hA.2.2 _ ht).1, bI_1]
      refine ⟨fun z => ?_, fun z => ?_⟩
      · show H_42_233 _ _ _ _ _ _ _ _ (nI (g_sg u t (g_ls tr st t n))) _ _
        rw [show g_sg u t (g_ls tr st t n) = g_ls tr st t n by unfold g_sg; rw [if_pos z]]
        exact key
      · show H_42_233 _ _ _ _ _ _ _ _ (9 - nI (g_sg u t (g_ls tr st t n))) _ _
        rw [show (9 : Int32) = nI 9 from rfl, pk_sub hsg, show 9 - g_sg u t (g_ls tr st t n) = g_ls tr st t n by unfold g_sg; rw [if_neg z]; omega]
        exact key
  refine sg_42_182 _ _ _ _ _ _ _ _ ?_
  rw [tp_c (show t < 1000000 by omega), (hA.2.2 _ ht).1, bI_1]
  refine ⟨by omega, tp_vi ht (by omega), fun z => ?_, fun z => ?_⟩
  · rw [show g_sg u t g = g by unfold g_sg; rw [if_pos z]] at f203
    exact f203
  · rw [show g_sg u t g = 9 - g by unfold g_sg; rw [if_neg z]] at f203
    rw [show (9 : Int32) = nI 9 from rfl, pk_sub hg]
    exact f203
theorem s_141 {t y g : Nat} {x : Int32} (he : n ≤ e) (he2 : e < 14) (h : GI pr sp u lim L tr ty st n σ) (ht : t < 4) (hk : y < 2) (hg : g < 1000) (k : S_nx pr sp u lim L (e + 1) post) :
    H_42_141 20 4 2 (nI e) x (nI t) (nI y) (g_ox (g_la u tr st t n)) (nI g) σ post := by
  have f168 : ∀ g, g < 1000 → H_42_168 20 4 2 (nI e) (nI t) (nI y) (g_ox (g_la u tr st t n)) (nI g) σ post := fun g hg =>
    sg_42_168 _ _ _ _ _ _ _ _ (pk_le g 9 (fun z => s_182 he he2 h ht hk z k) (fun z => s_182 (g := 9) he he2 h ht hk (by omega) k))
  refine sg_42_141 _ _ _ _ _ _ _ _ _ (sp_40 (c := 9) rfl (by omega) (by omega) (fun r _ => ⟨fun _ => sp_40 (c := 10) rfl (by omega) (by omega) (fun r2 _ => f168 r2 (by omega)), fun _ => f168 g hg⟩))
theorem s_45 {t y : Nat} {x : Int32} (he : n ≤ e) (he2 : e < 14) (h : GI pr sp u lim L tr ty st n σ) (ht : t < 4) (hk : y < 2) (k : S_nx pr sp u lim L (e + 1) post) :
    H_42_45 20 4 2 (nI e) x (nI t) (nI y) (-1) 0 σ post := by
  obtain ⟨h0, ho, hA, hC, hS, hL, hP⟩ := id h
  have hN := hA.1
  refine tp_up_loop (E := fun i => H_42_45 20 4 2 (nI e) x (nI t) (nI y) (g_ox (g_la u tr st t i)) (nI i) σ post) (n := n) (fun i hi g => ?_) ?_ 0 (Nat.zero_le _)
  · obtain ⟨l1, l2, l3, l4⟩ := hL.2 i hi
    obtain ⟨⟨a1, a2, a3⟩, -⟩ := hS.2.2.1 i hi
    have g2 : ∀ la, g_la u tr st t (i + 1) = la → H_42_79 20 4 2 (nI e) x (nI t) (nI y) (g_ox la) (nI i) σ post := fun la hla => by
      refine sg_42_79 _ _ _ _ _ _ _ _ _ ?_
      rw [nI_1, ← hla]
      exact g
    refine sg_42_45 _ _ _ _ _ _ _ _ _ ?_
    rw [hL.1, tp_41, tp_44, tp_c (show 4 * i + 1 < 1000000 by omega), tp_c (show 4 * i + 4 < 1000000 by omega), l1, l4]
    refine ⟨hN, fun z => absurd z (tp_nle hi (by omega)), fun _ => ⟨hN, tp_vi (by omega) (by omega), pk_eq (tr i) t (fun z => ⟨hN, tp_vi (by omega) (by omega), ?_⟩) (fun z => ?_)⟩⟩
    · have := g2 (some (g_sg u (tr i) (st i))) (by unfold g_la; rw [if_pos z, z])
      exact this
    · exact g2 _ (by conv => lhs; unfold g_la
                     rw [if_neg z])
  · have hls := g_ls_le (tr := tr) (st := st) (t := t) (n := n) (fun i hi => (hS.2.2.1 i hi).1.2.2)
    have key : ∀ g, g < 1000 → H_42_141 20 4 2 (nI e) x (nI t) (nI y) (g_ox (g_la u tr st t n)) (nI g) σ post := fun g hg => s_141 he he2 h ht hk hg k
    refine sg_42_45 _ _ _ _ _ _ _ _ _ ?_
    rw [hL.1]
    refine ⟨hN, fun _ => ?_, fun z => absurd (tp_le.mpr (Int.le_refl _)) z⟩
    rcases g_la_ls (u := u) (tr := tr) (st := st) (t := t) (n := n) with ⟨q1, q2⟩ | q
    · rw [q1] at key ⊢
      exact ⟨fun z => absurd z (by decide), fun _ => sp_40 (c := 4) rfl (by omega) (by omega) (fun r hr => key r (by omega))⟩
    · rw [q] at key ⊢
      have hsg : g_sg u t (g_ls tr st t n) ≤ 9 := by unfold g_sg; split <;> omega
      refine ⟨fun _ => ⟨by omega, tp_vi ht (by omega), fun _ => sp_40 (c := 3) rfl (by omega) (by omega) (fun r hr => ?_), fun _ => sp_40 (c := 3) rfl (by omega) (by omega) (fun r hr => ?_)⟩, fun z => absurd (nI_pos' (n := g_sg u t (g_ls tr st t n)) (by omega)) z⟩
      · show H_42_141 _ _ _ _ _ _ _ _ (nI (g_sg u t (g_ls tr st t n)) + nI r) _ _
        rw [nI_add]
        exact key _ (by omega)
      · show H_42_141 _ _ _ _ _ _ _ _ ((9 - nI (g_sg u t (g_ls tr st t n))) + nI r) _ _
        rw [show (9 : Int32) = nI 9 from rfl, pk_sub hsg, nI_add]
        exact key _ (by omega)
theorem s_loop (k : ∀ tr ty st n σ, GI pr sp u lim L tr ty st n σ → post (nI n) σ) : ∀ d e, e + d = 14 → S_nx pr sp u lim L e post
  | 0, e, he => fun tr ty st n σ hn h => by
    obtain ⟨h0, ho, hA, hC, hS, hL, hP⟩ := id h
    refine sg_42_3 _ _ _ _ (pk_le 14 e (fun _ => ⟨hA.1, ?_⟩) (fun z => absurd z (by omega)))
    rw [hL.1]
    exact k _ _ _ _ _ h
  | d + 1, e, he => fun tr ty st n σ hn h => by
    have ih := s_loop k d (e + 1) (by omega)
    obtain ⟨h0, ho, hA, hC, hS, hL, hP⟩ := id h
    refine sg_42_3 _ _ _ _ (pk_le 14 e (fun z => absurd z (by omega)) (fun _ => sp_41 (j := 20 + e) hC.1 hC.2 (nI_add 20 e) (by omega) (fun x => sp_40 (c := 4) rfl (by omega) (by omega) (fun t ht => sp_40 (c := 2) rfl (by omega) (by omega) (fun y hy => ?_)))))
    exact s_45 hn (by omega) h ht hy ih
/-- the law's sales: whatever was sold, the ghost stands -/
theorem c_sells (h : GI pr sp u lim L tr ty st 0 σ) (k : ∀ tr ty st n σ, GI pr sp u lim L tr ty st n σ → post (nI n) σ) : H_42_0 20 4 2 σ post :=
  sg_42_0 _ _ _ (s_loop k 14 0 rfl _ _ _ _ _ (Nat.le_refl _) h)
end GF
end
section
/-! the law's checks, from the last to the first -/
def g_e (sp : Nat → Nat) (tr ty st : Nat → Nat) (t q n : Nat) : Nat := ct (fun i => decide (tr i = t) && decide (st i + sp (ty i) = q)) n
def g_g (sp : Nat → Nat) (tr ty st : Nat → Nat) (t q n : Nat) : Nat := ct (fun i => decide (tr i = t) && g_in sp ty st q i) n
/-- most in a section, and those who leave ahead of it, are most in the one ahead and least here -/
theorem g_bal {sp : Nat → Nat} {tr ty st : Nat → Nat} {t q : Nat} : ∀ n, (∀ i, i < n → 1 ≤ sp (ty i)) → g_g sp tr ty st t q n + g_e sp tr ty st t q n = (if q = 0 then 0 else g_g sp tr ty st t (q - 1) n) + ct (fun i => decide (tr i = t) && decide (st i = q)) n
  | 0, _ => by
    unfold g_g g_e ct
    split <;> rfl
  | n + 1, h => by
    have ih := g_bal (sp := sp) (tr := tr) (ty := ty) (st := st) (t := t) (q := q) n (fun i hi => h i (by omega))
    have hs := h n (by omega)
    unfold g_g g_e at ih ⊢
    simp only [ct_succ]
    unfold g_in at ih ⊢
    simp only [Bool.and_eq_true, decide_eq_true_eq] at ih ⊢
    by_cases hq : q = 0
    · simp only [if_pos hq] at ih ⊢
      by_cases ht : tr n = t
      · simp only [ht, true_and]
        split <;> split <;> split <;> omega
      · simp only [ht, false_and, if_false]
        exact ih
    · simp only [if_neg hq] at ih ⊢
      by_cases ht : tr n = t
      · simp only [ht, true_and]
        split <;> split <;> split <;> split <;> omega
      · simp only [ht, false_and, if_false]
        exact ih
theorem g_c1 {sp : Nat → Nat} {u : Nat → Bool} {tr ty st : Nat → Nat} {t k n : Nat} : g_c sp u tr ty st t k 1 n = g_g sp tr ty st t (g_q u t k) n := rfl
theorem g_c0 {sp : Nat → Nat} {u : Nat → Bool} {tr ty st : Nat → Nat} {t k n : Nat} : g_c sp u tr ty st t k 0 n = ct (fun i => decide (tr i = t) && decide (st i = g_q u t k)) n := rfl
theorem g_r_sm {sp : Nat → Nat} {u : Nat → Bool} {tr ty st : Nat → Nat} {b : Bool} {k w n : Nat} (h : ∀ i, i < n → tr i < 4) : sm (fun r => if (u r == b) = true then g_c sp u tr ty st r k w n else 0) 4 = g_r sp u tr ty st b k w n := by
  unfold g_r
  rw [← sm_ct (q := fun r => u r == b) (tr := tr) (p := fun i => g_ab sp ty st w (g_q u (tr i) k) i) (m := 4) h]
  refine sm_congr (fun r _ => ?_)
  unfold g_c
  rw [ct_congr (p := fun i => decide (tr i = r) && g_ab sp ty st w (g_q u r k) i) (q := fun i => decide (tr i = r) && g_ab sp ty st w (g_q u (tr i) k) i) (n := n) (fun i _ => by
    by_cases e : tr i = r
    · rw [e]
    · simp [e])]
section GK
variable {pr sp : Nat → Nat} {u : Nat → Bool} {lim : Nat → Nat → Nat} {L : Nat} {tr ty st : Nat → Nat} {n : Nat} {σ : tp_St} {post : Int32 → tp_St → Prop}
theorem l_764 {k w t : Nat} {a14 a15 : Int32} (h : GI pr sp u lim L tr ty st n σ) (hk : k ≤ 8) (ht : t < 4) (nx : H_43_833 (nI n) (nI k) (nI w) a14 a15 (nI t) σ post) : H_43_764 (nI n) (nI k) (nI w) a14 a15 (nI t) 0 σ post := by
  obtain ⟨h0, ho, hA, hC, hS, hL, hP⟩ := id h
  have n1 := hS.1
  have m1 : g_c sp u tr ty st t k 1 n ≤ n := ct_le n
  have m0 : g_c sp u tr ty st t k 0 n ≤ n := ct_le n
  refine tp_up_loop (E := fun i => H_43_764 (nI n) (nI k) (nI w) a14 a15 (nI t) (nI i) σ post) (n := 16) (fun i hi g => ?_) ?_ 0 (Nat.zero_le _)
  · have g822 : ∀ x, H_43_822 (nI n) (nI k) (nI w) a14 a15 (nI t) (nI i) x x σ post := fun x => by
      refine sg_43_822 _ _ _ _ _ _ _ _ _ ?_
      rw [nI_1]
      exact ⟨fun _ => g, fun z => absurd rfl z⟩
    refine sg_43_764 _ _ _ _ _ _ _ (pk_le 16 i (fun z => absurd z (by omega)) (fun _ => c_heads h0 hS rfl rfl rfl ht hk hi (fun z => ⟨fun _ => ?_, fun c => absurd rfl c⟩) (fun z r hr => ⟨fun c => absurd c hr, fun _ => ?_⟩)))
    · refine sg_43_789 _ _ _ _ _ _ _ _ (c_aboard (w := 0) h0 hS rfl rfl rfl ht hk (by omega) (pk_lt i (g_c sp u tr ty st t k 0 n) (fun z2 => absurd z2 (by omega)) (fun _ => c_aboard (w := 1) h0 hS rfl rfl rfl ht hk (by omega) (pk_lt (g_c sp u tr ty st t k 1 n) i (fun z2 => absurd z2 (by omega)) (fun _ => g822 1)))))
    · refine sg_43_789 _ _ _ _ _ _ _ _ (c_aboard (w := 0) h0 hS rfl rfl rfl ht hk (by omega) (pk_lt i (g_c sp u tr ty st t k 0 n) (fun z2 => sg_43_821 _ _ _ _ _ _ _ _ (g822 0)) (fun z2 => c_aboard (w := 1) h0 hS rfl rfl rfl ht hk (by omega) (pk_lt (g_c sp u tr ty st t k 1 n) i (fun z3 => sg_43_821 _ _ _ _ _ _ _ _ (g822 0)) (fun z3 => absurd ⟨z2, z3⟩ z)))))
  · exact sg_43_764 _ _ _ _ _ _ _ (pk_le 16 16 (fun _ => nx) (fun z => absurd z (by omega)))
theorem tp_subI {a b c : Nat} : nI a - nI b = nI c ↔ nI a = nI (c + b) := by
  rw [← nI_add]
  exact ⟨fun h => by rw [← h, Int32.sub_add_cancel], fun h => by rw [h, Int32.add_sub_cancel]⟩
theorem l_576 {k w t had : Nat} {a14 a15 : Int32} (h : GI pr sp u lim L tr ty st n σ) (hk : k ≤ 8) (ht : t < 4) (hh : had = if g_q u t k = 0 then 0 else g_g sp tr ty st t (g_q u t k - 1) n) (nx : H_43_833 (nI n) (nI k) (nI w) a14 a15 (nI t) σ post) : H_43_576 (nI n) (nI k) (nI w) a14 a15 (nI t) (nI had) 0 0 0 σ post := by
  obtain ⟨h0, ho, hA, hC, hS, hL, hP⟩ := id h
  have n1 := hS.1
  have hN := hA.1
  refine tp_up_loop (E := fun i => H_43_576 (nI n) (nI k) (nI w) a14 a15 (nI t) (nI had) (nI (g_e sp tr ty st t (g_q u t k) i)) (nI (g_g sp tr ty st t (g_q u t k) i)) (nI i) σ post) (n := n) (fun i hi g => ?_) ?_ 0 (Nat.zero_le _)
  · obtain ⟨l1, l2, l3, l4⟩ := hL.2 i hi
    obtain ⟨⟨a1, a2, a3⟩, -⟩ := hS.2.2.1 i hi
    obtain ⟨-, -, -, c1, c2⟩ := h0.2.1 _ a2
    have v1 := tp_vi (show 4 * i + 1 < 60 by omega) (by omega)
    have v2 := tp_vi (show 4 * i + 2 < 60 by omega) (by omega)
    have v3 := tp_vi (show 4 * i + 3 < 60 by omega) (by omega)
    have v4 := tp_vi (show 4 * i + 4 < 60 by omega) (by omega)
    have g712 : ∀ x y, x = nI (g_e sp tr ty st t (g_q u t k) (i + 1)) → y = nI (g_g sp tr ty st t (g_q u t k) (i + 1)) → H_43_712 (nI n) (nI k) (nI w) a14 a15 (nI t) (nI had) x y (nI i) σ post := fun x y hx hy => by
      subst hx hy
      refine sg_43_712 _ _ _ _ _ _ _ _ _ _ ?_
      rw [nI_1]
      exact g
    refine sg_43_576 _ _ _ _ _ _ _ _ _ _ (pk_le n i (fun z => absurd z (by omega)) (fun _ => ?_))
    rw [tp_41, tp_42, tp_44, tp_c (show 4 * i + 1 < 1000000 by omega), tp_c (show 4 * i + 2 < 1000000 by omega), tp_c (show 4 * i + 4 < 1000000 by omega), l1, l2, l4, tp_c (show ty i < 1000000 by omega), (hA.2.1 _ a2).2, tp_c (show t < 1000000 by omega), (hA.2.2 _ ht).1, bI_1]
    refine ⟨hN, v1, pk_eq (tr i) t (fun z => ?_) (fun z => ?_)⟩
    · subst z
      have hge := g712 (nI (g_e sp tr ty st (tr i) (g_q u (tr i) k) (i + 1))) (nI (g_g sp tr ty st (tr i) (g_q u (tr i) k) (i + 1))) rfl rfl
      have g670 : ∀ y, nI (g_e sp tr ty st (tr i) (g_q u (tr i) k) i) + y = nI (g_e sp tr ty st (tr i) (g_q u (tr i) k) (i + 1)) → H_43_670 (nI n) (nI k) (nI w) a14 a15 (nI (tr i)) (nI had) (nI (g_g sp tr ty st (tr i) (g_q u (tr i) k) i)) (nI i) (nI (g_e sp tr ty st (tr i) (g_q u (tr i) k) i)) y σ post := fun y hy => by
        refine sg_43_670 _ _ _ _ _ _ _ _ _ _ _ ?_
        rw [tp_42, tp_43, tp_c (show 4 * i + 2 < 1000000 by omega), tp_c (show 4 * i + 3 < 1000000 by omega), l2, l3, hy]
        refine ⟨hN, v2, hN, v3, c_shown h0 hS hi rfl rfl rfl rfl hk (fun z => ⟨fun _ => sg_43_709 _ _ _ _ _ _ _ _ _ _ _ ?_, fun c => absurd rfl c⟩) (fun z r hr => ⟨fun c => absurd c hr, fun _ => sg_43_709 _ _ _ _ _ _ _ _ _ _ _ ?_⟩)⟩
        · refine g712 _ _ rfl ?_
          unfold g_g
          rw [ct_succ, if_pos (by simp [z]), nI_1]
        · refine g712 _ _ rfl ?_
          unfold g_g
          rw [ct_succ, if_neg (by simp [z]), Int32.add_zero]
      have yes : st i + sp (ty i) = g_q u (tr i) k → H_43_670 (nI n) (nI k) (nI w) a14 a15 (nI (tr i)) (nI had) (nI (g_g sp tr ty st (tr i) (g_q u (tr i) k) i)) (nI i) (nI (g_e sp tr ty st (tr i) (g_q u (tr i) k) i)) 1 σ post := fun z => g670 1 (by
        unfold g_e
        rw [ct_succ, if_pos (by simp [z]), nI_1])
      have no : ¬ st i + sp (ty i) = g_q u (tr i) k → H_43_670 (nI n) (nI k) (nI w) a14 a15 (nI (tr i)) (nI had) (nI (g_g sp tr ty st (tr i) (g_q u (tr i) k) i)) (nI i) (nI (g_e sp tr ty st (tr i) (g_q u (tr i) k) i)) 0 σ post := fun z => g670 0 (by
        unfold g_e
        rw [ct_succ, if_neg (by simp [z]), Int32.add_zero])
      refine ⟨hN, v4, hN, v2, by omega, tp_vi a2 (by omega), by omega, tp_vi a1 (by omega), fun z => ?_, fun z => ?_⟩
      · rw [nI_add]
        have e1 : g_sg u (tr i) (st i) = st i := by unfold g_sg; rw [if_pos z]
        have e2 : g_q u (tr i) k = k := by unfold g_q; rw [if_pos z]
        rw [e1]
        exact pk_eq (st i + sp (ty i)) k (fun y => yes (by rw [e2]; exact y)) (fun y => no (by rw [e2]; exact y))
      · have e1 : g_sg u (tr i) (st i) = 9 - st i := by unfold g_sg; rw [if_neg z]
        have e2 : g_q u (tr i) k = 8 - k := by unfold g_q; rw [if_neg z]
        rw [e1, nI_1, tp_subI]
        exact pk_eq (9 - st i) (k + 1 + sp (ty i)) (fun y => yes (by omega)) (fun y => no (by omega))
    · refine g712 _ _ ?_ ?_
      · unfold g_e
        rw [ct_succ, if_neg (by simp [z])]
      · unfold g_g
        rw [ct_succ, if_neg (by simp [z])]
  · have hb := g_bal (sp := sp) (tr := tr) (ty := ty) (st := st) (t := t) (q := g_q u t k) n (fun i hi => (h0.2.1 _ (hS.2.2.1 i hi).1.2.1).2.2.2.1)
    rw [← hh] at hb
    have l0 : H_43_764 (nI n) (nI k) (nI w) a14 a15 (nI t) 0 σ post := l_764 h hk ht nx
    refine sg_43_576 _ _ _ _ _ _ _ _ _ _ (pk_le n n (fun _ => c_aboard (w := 1) h0 hS rfl rfl rfl ht hk (by omega) (c_aboard (w := 0) h0 hS rfl rfl rfl ht hk (by omega) ⟨fun _ => c_aboard (w := 1) h0 hS rfl rfl rfl ht hk (by omega) ⟨fun _ => l0, fun c => absurd g_c1.symm (fun e => c (congrArg nI e))⟩, fun c => ?_⟩)) (fun z => absurd z (by omega)))
    refine absurd ?_ c
    rw [nI_add, g_c1, g_c0, ← hb, pk_sub (by omega), Nat.add_sub_cancel]
end GK
end
section
/-! the loops over sections, ways and trips; the sales undone; money; the law behind its last array -/
section GM
variable {pr sp : Nat → Nat} {u : Nat → Bool} {lim : Nat → Nat → Nat} {L : Nat} {tr ty st : Nat → Nat} {n : Nat} {σ : tp_St} {post : Int32 → tp_St → Prop}
theorem l_997 {pr sp : Nat → Nat} {u : Nat → Bool} (hp : ∀ σ, post 1 σ) : ∀ d t σ, t + d = 4 → G0 pr sp u σ → GS lim tr ty st 0 σ → (∀ r, t ≤ r → r < 4 → σ.1 14 r = 1) → H_43_997 (nI t) σ post
  | 0, t, σ, ht, h0, hS, ho => by
    refine sg_43_997 _ (pk_le 4 t (fun _ => c_undo0 hS ⟨fun _ => c_gap (k := 0) h0 hS rfl (by omega) ⟨fun _ => c_gap (k := 1) h0 hS rfl (by omega) ⟨fun _ => sg_43_1063 _ ⟨tp_nb1, hp _⟩, fun c => absurd rfl c⟩, fun c => absurd rfl c⟩, fun c => absurd rfl c⟩) (fun z => absurd z (by omega)))
  | d + 1, t, σ, ht, h0, hS, ho => by
    refine sg_43_997 _ (pk_le 4 t (fun z => absurd z (by omega)) (fun _ => c_money h0 hS rfl (by omega) ⟨fun _ => c_close h0 hS (ho t (Nat.le_refl _) (by omega)) rfl (by omega) ⟨fun _ => ?_, fun c => absurd rfl c⟩, fun c => absurd rfl c⟩))
    rw [nI_1]
    refine l_997 hp d (t + 1) _ (by omega) (G0_fr h0 (fun o k hd => tp_sg_ne (by omega))) (GS_fr hS (fun o k hd => tp_sg_ne (by omega))) (fun r h1 h2 => ?_)
    rw [tp_sg_ne (by omega)]
    exact ho r (by omega) h2
theorem l_903 {pr sp : Nat → Nat} {u : Nat → Bool} (hp : ∀ σ, post 1 σ) (hn : n ≤ 14) (hg : ∀ i, i < n → tr i < 4 ∧ ty i < 2) : ∀ m σ, m ≤ n → G0 pr sp u σ → GO σ → GA pr sp u σ → GS lim tr ty st m σ → GL u tr ty st n σ → H_43_903 (nI m - 1) σ post
  | 0, σ, hm, h0, ho, hA, hS, hL => by
    refine sg_43_903 _ ?_
    rw [tp_neg1]
    exact ⟨fun _ => l_997 hp 4 0 σ rfl h0 hS (fun r _ hr => ho r hr), fun z => absurd (by decide) z⟩
  | m + 1, σ, hm, h0, ho, hA, hS, hL => by
    obtain ⟨e1, e2, e3, e4⟩ := hS.2.2.2 _ _ (hg m (by omega)).1 (hg m (by omega)).2
    have hx : g_nx tr ty (m + 1) (tr m) (ty m) = g_nx tr ty m (tr m) (ty m) + 1 := by rw [g_nx_succ, if_pos ⟨rfl, rfl⟩]
    refine sg_43_903 _ ?_
    rw [nI_pred]
    refine ⟨fun z => absurd z (nI_pos (by omega)), fun _ => c_undo h0 ho hS (fun σ' hS' hf h2 => ⟨fun _ => ?_, fun c => absurd rfl c⟩)⟩
    have hN : 64 < σ'.2.1 := by rw [h2]; exact hA.1
    have hL' : GL u tr ty st n σ' := by
      refine ⟨(hf 64 0 (by omega)).trans hL.1, fun i hi => ?_⟩
      rw [hf _ _ (by omega), hf _ _ (by omega), hf _ _ (by omega), hf _ _ (by omega)]
      exact hL.2 i hi
    have h0' : G0 pr sp u σ' := G0_fr h0 (fun o k hd => hf o k (by omega))
    obtain ⟨l1, l2, l3, l4⟩ := hL'.2 m (by omega)
    rw [tp_41, tp_42, tp_43, tp_c (show 4 * m + 1 < 1000000 by omega), tp_c (show 4 * m + 2 < 1000000 by omega), l1, l2]
    have v1 := tp_vi (show 4 * m + 1 < 60 by omega) (by omega)
    have v2 := tp_vi (show 4 * m + 2 < 60 by omega) (by omega)
    have v3 := tp_vi (show 4 * m + 3 < 60 by omega) (by omega)
    refine ⟨hN, v1, hN, v2, c_pack h0' hS' rfl rfl (hg m (by omega)).1 (hg m (by omega)).2 (by omega) ?_⟩
    rw [tp_c (show 4 * m + 3 < 1000000 by omega), l3, l2]
    refine ⟨hN, v3, fun _ => ⟨hN, v2, hN, v3, c_unsold h0' hS' (Nat.le_refl _) (by omega) (hg m (by omega)).1 (hg m (by omega)).2 rfl rfl ⟨fun _ => ?_, fun c => absurd rfl c⟩⟩, fun c => absurd rfl c⟩
    rw [tp_m1]
    exact l_903 hp hn hg m σ' (by omega) h0' (fun t ht => (hf 14 t (by omega)).trans (ho t ht)) (GA_fr hA h2 (fun o k hd => hf o k (by omega))) hS' hL'
/-- so many on the ways alike, among the first m trips -/
def g_s (sp : Nat → Nat) (u : Nat → Bool) (tr ty st : Nat → Nat) (b : Bool) (k w n m : Nat) : Nat := sm (fun r => if (u r == b) = true then g_c sp u tr ty st r k w n else 0) m
theorem l_454 {k w : Nat} {b : Bool} (h : GI pr sp u lim L tr ty st n σ) (hk : k ≤ 8) (hb : b = true ↔ w = 0) (hw : w < 2) (nx : H_43_439 (nI n) (nI k) (nI (w + 1)) σ post) : H_43_454 (nI n) (nI k) (nI w) 0 0 0 σ post := by
  obtain ⟨h0, ho, hA, hC, hS, hL, hP⟩ := id h
  have hN := hA.1
  refine tp_up_loop (E := fun t => H_43_454 (nI n) (nI k) (nI w) (nI (g_s sp u tr ty st b k 0 n t)) (nI (g_s sp u tr ty st b k 1 n t)) (nI t) σ post) (n := 4) (fun t ht g => ?_) ?_ 0 (Nat.zero_le _)
  · have g833 : ∀ x y, x = nI (g_s sp u tr ty st b k 0 n (t + 1)) → y = nI (g_s sp u tr ty st b k 1 n (t + 1)) → H_43_833 (nI n) (nI k) (nI w) x y (nI t) σ post := fun x y hx hy => by
      subst hx hy
      refine sg_43_833 _ _ _ _ _ _ ?_
      rw [nI_1]
      exact g
    have es : ∀ w', g_s sp u tr ty st b k w' n (t + 1) = g_s sp u tr ty st b k w' n t + (if (u t == b) = true then g_c sp u tr ty st t k w' n else 0) := fun w' => rfl
    have g538 : ∀ x y, x = nI (g_s sp u tr ty st b k 0 n (t + 1)) → y = nI (g_s sp u tr ty st b k 1 n (t + 1)) → ∀ had, had = (if g_q u t k = 0 then 0 else g_g sp tr ty st t (g_q u t k - 1) n) → H_43_565 (nI n) (nI k) (nI w) x y (nI t) (nI had) σ post := fun x y hx hy had hh =>
      sg_43_565 _ _ _ _ _ _ _ (l_576 h hk ht hh (g833 x y hx hy))
    have body : (u t == b) = true → ∀ x, x = bI b → H_43_484 (nI n) (nI k) (nI w) (nI (g_s sp u tr ty st b k 0 n t)) (nI (g_s sp u tr ty st b k 1 n t)) (nI t) x x σ post := fun hub x _ => by
      refine sg_43_484 _ _ _ _ _ _ _ _ ⟨fun _ => c_aboard (w := 0) h0 hS rfl rfl rfl ht hk (by omega) (c_aboard (w := 1) h0 hS rfl rfl rfl ht hk (by omega) ?_), fun c => absurd rfl c⟩
      rw [tp_c (show t < 1000000 by omega), (hA.2.2 _ ht).1, bI_1, nI_add, nI_add]
      have e0 : nI (g_s sp u tr ty st b k 0 n t + g_c sp u tr ty st t k 0 n) = nI (g_s sp u tr ty st b k 0 n (t + 1)) := by rw [es, if_pos hub]
      have e1 : nI (g_s sp u tr ty st b k 1 n t + g_c sp u tr ty st t k 1 n) = nI (g_s sp u tr ty st b k 1 n (t + 1)) := by rw [es, if_pos hub]
      refine ⟨by omega, tp_vi ht (by omega), fun z => sg_43_538 _ _ _ _ _ _ _ ?_, fun z => sg_43_538 _ _ _ _ _ _ _ ?_⟩
      · have hq : g_q u t k = k := by unfold g_q; rw [if_pos z]
        rcases Nat.eq_zero_or_pos k with rfl | hk0
        · exact ⟨fun _ => sg_43_552 _ _ _ _ _ _ (g538 _ _ e0 e1 0 (by rw [hq, if_pos rfl])), fun c => absurd (by decide) c⟩
        · obtain ⟨j, rfl⟩ : ∃ j, k = j + 1 := ⟨k - 1, by omega⟩
          have hj : g_q u t j = j := by unfold g_q; rw [if_pos z]
          rw [nI_pred]
          refine ⟨fun c => absurd c (nI_pos (by omega)), fun _ => pk_le j 8 (fun _ => c_aboard (w := 1) (k := j) h0 hS rfl rfl rfl ht (by omega) (by omega) (g538 _ _ e0 e1 _ ?_)) (fun z2 => absurd z2 (by omega))⟩
          rw [hq, if_neg (by omega), g_c1, hj, Nat.add_sub_cancel]
      · have hq : g_q u t k = 8 - k := by unfold g_q; rw [if_neg z]
        rw [nI_1]
        refine ⟨fun c => absurd c (nI_pos (by omega)), fun _ => pk_le (k + 1) 8 (fun z2 => c_aboard (w := 1) (k := k + 1) h0 hS rfl rfl rfl ht z2 (by omega) (g538 _ _ e0 e1 _ ?_)) (fun z2 => sg_43_552 _ _ _ _ _ _ (g538 _ _ e0 e1 0 (by rw [hq, if_pos (by omega)])))⟩
        have hj : g_q u t (k + 1) = 8 - k - 1 := by unfold g_q; rw [if_neg z]; omega
        rw [hq, if_neg (by omega), g_c1, hj]
    have skip : ¬ (u t == b) = true → ∀ x y : Int32, ¬ x = y → H_43_484 (nI n) (nI k) (nI w) (nI (g_s sp u tr ty st b k 0 n t)) (nI (g_s sp u tr ty st b k 1 n t)) (nI t) x y σ post := fun hub x y hxy => by
      refine sg_43_484 _ _ _ _ _ _ _ _ ⟨fun c => absurd c hxy, fun _ => g833 _ _ ?_ ?_⟩
      · rw [es, if_neg hub]; rfl
      · rw [es, if_neg hub]; rfl
    refine sg_43_454 _ _ _ _ _ _ (pk_le 4 t (fun z => absurd z (by omega)) (fun _ => ?_))
    rw [tp_c (show t < 1000000 by omega), (hA.2.2 _ ht).1, bI_1]
    refine ⟨by omega, tp_vi ht (by omega), fun z => sg_43_474 _ _ _ _ _ _ _ (pk_eq w 0 (fun z2 => ?_) (fun z2 => ?_)), fun z => sg_43_474 _ _ _ _ _ _ _ (pk_eq w 0 (fun z2 => ?_) (fun z2 => ?_))⟩
    · have hbt := hb.mpr z2
      exact body (by rw [z, hbt]; rfl) 1 (by rw [hbt]; rfl)
    · have hbt : b = false := by cases b with
        | true => exact absurd (hb.mp rfl) z2
        | false => rfl
      exact skip (by rw [z, hbt]; decide) 1 0 (by decide)
    · have hbt := hb.mpr z2
      exact skip (by rw [hbt]; simpa using z) 0 1 (by decide)
    · have hbt : b = false := by cases b with
        | true => exact absurd (hb.mp rfl) z2
        | false => rfl
      exact body (by rw [hbt]; simpa using z) 0 (by rw [hbt]; rfl)
  · have htr : ∀ i, i < n → tr i < 4 := fun i hi => (hS.2.2.1 i hi).1.1
    have e0 : g_s sp u tr ty st b k 0 n 4 = g_r sp u tr ty st b k 0 n := g_r_sm htr
    have e1 : g_s sp u tr ty st b k 1 n 4 = g_r sp u tr ty st b k 1 n := g_r_sm htr
    have g872 : ∀ x, x = bI b → H_43_872 (nI n) (nI k) (nI w) (nI (g_s sp u tr ty st b k 1 n 4)) x σ post := fun x hx => by
      refine sg_43_872 _ _ _ _ _ (c_riders (w := 1) h0 hS hx rfl rfl hk (by omega) ⟨fun _ => ?_, fun c => absurd (by rw [e1]) c⟩)
      rw [nI_1]
      exact nx
    refine sg_43_454 _ _ _ _ _ _ (pk_le 4 4 (fun _ => pk_eq w 0 (fun z => ?_) (fun z => ?_)) (fun z => absurd z (by omega)))
    · have hbt := hb.mpr z
      refine sg_43_850 _ _ _ _ _ _ (c_riders (w := 0) (b := b) h0 hS (by rw [hbt]; rfl) rfl rfl hk (by omega) ⟨fun _ => pk_eq w 0 (fun _ => g872 1 (by rw [hbt]; rfl)) (fun c => absurd z c), fun c => absurd (by rw [e0]) c⟩)
    · have hbt : b = false := by cases b with
        | true => exact absurd (hb.mp rfl) z
        | false => rfl
      refine sg_43_850 _ _ _ _ _ _ (c_riders (w := 0) (b := b) h0 hS (by rw [hbt]; rfl) rfl rfl hk (by omega) ⟨fun _ => pk_eq w 0 (fun c => absurd c z) (fun _ => g872 0 (by rw [hbt]; rfl)), fun c => absurd (by rw [e0]) c⟩)
theorem l_429 (hp : ∀ σ, post 1 σ) (h : GI pr sp u lim L tr ty st n σ) : H_43_429 (nI n) 0 σ post := by
  obtain ⟨h0, ho, hA, hC, hS, hL, hP⟩ := id h
  refine tp_up_loop (E := fun k => H_43_429 (nI n) (nI k) σ post) (n := 9) (fun k hk g => ?_) ?_ 0 (Nat.zero_le _)
  · have g2 : H_43_439 (nI n) (nI k) (nI 2) σ post := sg_43_439 _ _ _ (pk_le 2 2 (fun _ => by rw [nI_1]; exact g) (fun z => absurd z (by omega)))
    have g1 : H_43_439 (nI n) (nI k) (nI 1) σ post := sg_43_439 _ _ _ (pk_le 2 1 (fun z => absurd z (by omega)) (fun _ => l_454 (w := 1) (b := false) h (by omega) (by decide) (by omega) g2))
    have g0 : H_43_439 (nI n) (nI k) (nI 0) σ post := sg_43_439 _ _ _ (pk_le 2 0 (fun z => absurd z (by omega)) (fun _ => l_454 (w := 0) (b := true) h (by omega) (by decide) (by omega) g1))
    exact sg_43_429 _ _ (pk_le 9 k (fun z => absurd z (by omega)) (fun _ => g0))
  · exact sg_43_429 _ _ (pk_le 9 9 (fun _ => l_903 hp hS.1 (fun i hi => ⟨(hS.2.2.1 i hi).1.1, (hS.2.2.1 i hi).1.2.1⟩) n σ (Nat.le_refl _) h0 ho hA hS hL) (fun z => absurd z (by omega)))
theorem l_394 (hp : ∀ σ, post 1 σ) (h : GI pr sp u lim L tr ty st n σ) : H_43_394 (nI n) (nI (g_w pr ty n)) 0 0 σ post := by
  obtain ⟨h0, ho, hA, hC, hS, hL, hP⟩ := id h
  refine tp_up_loop (E := fun t => H_43_394 (nI n) (nI (g_w pr ty n)) (nI (sm (fun t => g_tk pr tr ty t n) t)) (nI t) σ post) (n := 4) (fun t ht g => ?_) ?_ 0 (Nat.zero_le _)
  · refine sg_43_394 _ _ _ _ (pk_le 4 t (fun z => absurd z (by omega)) (fun _ => c_money h0 hS rfl ht ?_))
    rw [nI_1, nI_add]
    exact g
  · have e : sm (fun t => g_tk pr tr ty t n) 4 = g_w pr ty n := by
      rw [← g_tk_w (tr := tr) n (fun i hi => (hS.2.2.1 i hi).1.1)]
      show 0 + g_tk pr tr ty 0 n + g_tk pr tr ty 1 n + g_tk pr tr ty 2 n + g_tk pr tr ty 3 n = _
      omega
    exact sg_43_394 _ _ _ _ (pk_le 4 4 (fun _ => ⟨fun _ => l_429 hp h, fun c => absurd (by rw [e]) c⟩) (fun z => absurd z (by omega)))
theorem l_359 (hp : ∀ σ, post 1 σ) (h : GI pr sp u lim L tr ty st n σ) : H_43_359 (nI n) 0 0 σ post := by
  obtain ⟨h0, ho, hA, hC, hS, hL, hP⟩ := id h
  have n1 := hS.1
  refine tp_up_loop (E := fun i => H_43_359 (nI n) (nI (g_w pr ty i)) (nI i) σ post) (n := n) (fun i hi g => ?_) ?_ 0 (Nat.zero_le _)
  · obtain ⟨l1, l2, l3, l4⟩ := hL.2 i hi
    obtain ⟨⟨a1, a2, a3⟩, -⟩ := hS.2.2.1 i hi
    have hN := hA.1
    refine sg_43_359 _ _ _ (pk_le n i (fun z => absurd z (by omega)) (fun _ => ?_))
    rw [tp_42, tp_c (show 4 * i + 2 < 1000000 by omega), l2, tp_c (show ty i < 1000000 by omega), (hA.2.1 _ a2).1, nI_1, nI_add]
    exact ⟨hN, tp_vi (by omega) (by omega), by omega, tp_vi a2 (by omega), g⟩
  · exact sg_43_359 _ _ _ (pk_le n n (fun _ => l_394 hp h) (fun z => absurd z (by omega)))
theorem l_323 (hp : ∀ σ, post 1 σ) (h : GI pr sp u lim L tr ty st 0 σ) : H_43_323 σ post :=
  sg_43_323 (c_sells h (fun tr ty st n σ h => ⟨fun _ => l_359 hp h, fun c => absurd (nI_pos' (by have := h.2.2.2.2.1.1; omega)) c⟩))
end GM
end
section
/-! the law's beginning: types, trips and packs -/
section GN
variable {pr sp : Nat → Nat} {u : Nat → Bool} {lim : Nat → Nat → Nat} {L : Nat} {σ : tp_St} {post : Int32 → tp_St → Prop}
/-- a new array of ints -/
def tp_new (σ : tp_St) : tp_St := (fun o k => if o = σ.2.1 then 0 else σ.1 o k, (σ.2.1 + 1, σ.2.2))
theorem tp_new_ne {o k : Nat} (h : ¬ o = σ.2.1) : (tp_new σ).1 o k = σ.1 o k := if_neg h
theorem tp_new_eq {k : Nat} : (tp_new σ).1 σ.2.1 k = 0 := if_pos rfl
theorem c_type {x y : Int32} {m a b : Nat} (h : σ.1 1 2 = nI m) (hm : m < 5) (hx : x = nI a) (hy : y = nI b) (ha : 1 ≤ a ∧ a ≤ 60) (hb : 1 ≤ b ∧ b ≤ 9) (hp : post (nI m) (tp_set (tp_set (tp_set σ 8 m x) 9 m y) 1 2 (nI (m + 1)))) : tp_E 19 0 [.ref 0, .int x, .int y] [] σ post := by
  refine sg_19_0 _ _ (sp_in (l := 1) (h := 60) hx rfl rfl ha.1 ha.2 (by omega) (sp_in (l := 1) (h := 9) hy rfl rfl hb.1 hb.2 (by omega) (sg_18_0 _ _ ?_)))
  rw [h, tp_c (show m < 1000000 by omega), nI_1]
  exact pk_lt m 5 (fun _ => ⟨tp_vi hm (by omega), tp_vi hm (by omega), hp⟩) (fun z => absurd z (by omega))
theorem c_trip {x : Int32} {y : Int32} {b : Bool} {t : Nat} (h : σ.1 3 3 = nI t) (hc : ∀ r, r < t → σ.1 12 r = nI r) (ht : t < 4) (hx : x = nI t) (hy : y = bI b) (hp : post (nI t) (tp_set (tp_set (tp_set (tp_set σ 12 t (nI t)) 13 t (bI b)) 14 t 1) 3 3 (nI (t + 1)))) : tp_E 22 0 [.ref 0, .int x, .int y] [] σ post := by
  subst hx hy
  have nr : vp_nar .boolean (bI b) = bI b := by
    cases b
    · exact tp_bz
    · exact tp_bo
  refine sg_22_0 _ _ (sp_in (l := 0) (h := 5) rfl rfl rfl (by omega) (by omega) (by omega) (sg_14_0 _ ?_))
  refine tp_up_loop (E := fun i => tp_E 14 2 [.ref 3, .int (nI t), .int (nI i)] [] σ _) (n := t) (fun i hi g => ?_) ?_ 0 (Nat.zero_le _)
  · refine sg_14_2 _ _ ?_
    rw [h, tp_c (show i < 1000000 by omega), hc i hi, nI_1]
    exact pk_le t i (fun z => absurd z (by omega)) (fun _ => ⟨tp_vi (by omega) (by omega), fun _ => g, fun _ => ⟨tp_vi (by omega) (by omega), pk_eq i t (fun z => absurd z (by omega)) (fun _ => g)⟩⟩)
  · refine sg_14_2 _ _ ?_
    rw [h]
    refine pk_le t t (fun _ => ⟨fun _ => sg_13_0 _ _ ?_, fun c => absurd rfl c⟩) (fun z => absurd z (by omega))
    rw [h, tp_c (show t < 1000000 by omega), nr, tp_bo, nI_1]
    have v := tp_vi (show t < 16 by omega) (by omega)
    exact pk_lt t 16 (fun _ => ⟨v, v, v, hp⟩) (fun z => absurd z (by omega))
/-- packs that are done, and those that are not -/
def GQ (lim : Nat → Nat → Nat) (m : Nat) (σ : tp_St) : Prop := ∀ c k, c < 6 → k < 2 → (2 * c + k < m → σ.1 (46 + c) k = nI (50 * c) ∧ σ.1 (52 + c) k = nI (lim c k) ∧ 50 * c + 3 ≤ lim c k ∧ lim c k ≤ 50 * c + 12) ∧ (m ≤ 2 * c + k → σ.1 (46 + c) k = 0 ∧ σ.1 (52 + c) k = 0)
theorem c_issue {x y z v : Int32} {t k r : Nat} (h2 : σ.1 1 2 = nI 2) (h4 : σ.1 4 4 = 0) (hQ : GQ lim (2 * t + k) σ) (ht : t < 4) (hk : k < 2) (hr : r < 10) (hx : x = nI t) (hy : y = nI k) (hz : z = nI (50 * t)) (hv : v = nI (3 + r)) (hp : post 0 (tp_set (tp_set σ (46 + t) k (nI (50 * t))) (52 + t) k (nI (50 * t + (3 + r))))) : tp_E 20 0 [.ref 0, .int x, .int y, .int z, .int v, .null] [] σ post := by
  subst hx hy hz hv
  refine sg_20_0 _ _ _ _ (sp_33 h2 rfl rfl (by omega) hk (sp_in (l := 0) (h := 100000) rfl rfl rfl (by omega) (by omega) (by omega) (sp_in (l := 0) (h := 1000) rfl rfl rfl (by omega) (by omega) (by omega) (sg_9_0 _ _ _ (sg_9_3 _ _ _ _ ?_)))))
  rw [h4]
  refine ⟨fun _ => ⟨fun _ => sg_3_0 _ _ _ _ ?_, fun c => absurd rfl c⟩, fun c => absurd (by decide) c⟩
  rw [nI_add]
  refine tp_up_loop (E := fun i => tp_E 3 3 [.ref 2, .int (nI t), .int (nI k), .int (nI (50 * t)), .int (nI (50 * t + (3 + r))), .int (nI i), .null] [] σ _) (n := 6) (fun i hi g => ?_) ?_ 0 (Nat.zero_le _)
  · refine sg_3_3 _ _ _ _ _ ?_
    rw [tp_c (show i < 1000000 by omega), tp_c (show k < 1000000 by omega), nI_1]
    have v6 := tp_vi hi (by omega)
    have v5 := tp_vi (show k < 5 by omega) (by omega)
    refine pk_le 6 i (fun z => absurd z (by omega)) (fun _ => ⟨v6, v5, pk_eq i t (fun _ => g) (fun hne => ⟨v6, v5, fun _ => g, fun hc => absurd ?_ hc⟩)⟩)
    obtain ⟨q1, q2⟩ := hQ i k hi hk
    rw [tp_le]
    by_cases hd : 2 * i + k < 2 * t + k
    · obtain ⟨w1, w2, w3, w4⟩ := q1 hd
      rw [w1, w2, if_pos (by rw [tp_ltN (by omega) (by omega)]; omega), if_neg (by rw [tp_ltN (by omega) (by omega)]; omega), tp_t (by omega), tp_t (by omega)]
      omega
    · obtain ⟨w1, w2⟩ := q2 (by omega)
      rw [w1, w2, if_pos (by rw [tp_lt, tp_t (by omega)]; show (0 : Int) < _; omega)]
      have h5 : ¬ nI (50 * t) < 0 := nI_pos (by omega)
      rw [if_neg h5, tp_t (by omega)]
      show (0 : Int) ≤ _
      omega
  · obtain ⟨q1, q2⟩ := (hQ t k (by omega) hk).2 (Nat.le_refl _)
    refine sg_3_3 _ _ _ _ _ (pk_le 6 6 (fun _ => ⟨fun _ => sp_0 rfl rfl (by omega) (by omega) _ ?_, fun c => absurd rfl c⟩) (fun z => absurd z (by omega)))
    rw [q1, q2]
    refine sg_1_0 _ _ _ _ ?_
    rw [tp_c (show t < 1000000 by omega), tp_c (show k < 1000000 by omega)]
    exact ⟨tp_vi (by omega) (by omega), tp_vi (by omega) (by omega), tp_vi (by omega) (by omega), tp_vi (by omega) (by omega), hp⟩
/-- types, as far as m of them are made -/
def GT (pr sp : Nat → Nat) (m : Nat) (σ : tp_St) : Prop := σ.1 1 2 = nI m ∧ (∀ k, k < m → σ.1 8 k = nI (pr k) ∧ σ.1 9 k = nI (sp k)) ∧ ∀ k, k < 2 → (σ.1 58 k = nI (pr k) ∧ σ.1 59 k = nI (sp k)) ∧ (1 ≤ pr k ∧ pr k ≤ 30) ∧ 1 ≤ sp k ∧ sp k ≤ 9
/-- nothing is made yet but types -/
def GZ (σ : tp_St) : Prop := σ.1 3 3 = 0 ∧ σ.1 4 4 = 0 ∧ GQ (fun _ _ => 0) 0 σ
theorem GZ_fr {σ σ' : tp_St} (h : GZ σ) (e : ∀ o k, ((o = 3 ∧ k = 3) ∨ (o = 4 ∧ k = 4) ∨ (46 ≤ o ∧ o < 58)) → σ'.1 o k = σ.1 o k) : GZ σ' := by
  obtain ⟨h1, h2, h3⟩ := h
  refine ⟨by rw [e _ _ (by omega)]; exact h1, by rw [e _ _ (by omega)]; exact h2, fun c k hc hk => ⟨fun z => absurd z (by omega), fun _ => ?_⟩⟩
  rw [e _ _ (by omega), e _ _ (by omega)]
  exact (h3 c k hc hk).2 (by omega)
theorem SC_fr {σ σ' : tp_St} (h : SC L σ) (e : σ'.1 89 0 = σ.1 89 0) : SC L σ' := ⟨e.trans h.1, h.2⟩
/-- behind the prices -/
def R1 (L : Nat) (σ : tp_St) : Prop := σ.2 = (59, 0) ∧ SC L σ ∧ GZ σ ∧ σ.1 1 2 = 0 ∧ ∃ pr : Nat → Nat, ∀ k, k < 2 → σ.1 58 k = nI (pr k) ∧ 1 ≤ pr k ∧ pr k ≤ 30
theorem r_1 (hN : σ.2 = (59, 0)) (hC : SC L σ) (hZ : GZ σ) (hT : σ.1 1 2 = 0) : H_43_11 σ (fun r σ' => r = 43 ∧ R1 L σ') := by
  have hn : σ.2.1 = 59 := by rw [hN]
  refine sg_43_11 (sp_41 (j := 0) hC.1 hC.2 rfl (by omega) (fun x => sp_40 (c := 30) rfl (by omega) (by omega) (fun a ha => ⟨by omega, ?_⟩)))
  have hC1 : SC L (tp_set σ 58 0 (1 + nI a)) := SC_fr hC (tp_sg_ne (by omega))
  refine sp_41 (j := 1) hC1.1 hC.2 rfl (by omega) (fun x => sp_40 (c := 30) rfl (by omega) (by omega) (fun b hb => ⟨?_, ?_, rfl, hN, SC_fr hC1 (tp_sg_ne (by omega)), GZ_fr hZ (fun o k hd => by rw [tp_sg_ne (by omega), tp_sg_ne (by omega)]), by rw [tp_sg_ne (by omega), tp_sg_ne (by omega)]; exact hT, fun k => if k = 0 then 1 + a else 1 + b, fun k hk => ?_⟩))
  · show 58 < σ.2.1
    omega
  · show (2 : Int32) = Int32.ofNat (tp_ln σ.2.1)
    rw [hn]
    rfl
  · rcases (show k = 0 ∨ k = 1 by omega) with rfl | rfl
    · rw [tp_sg_ne (by omega), tp_sg_eq]
      exact ⟨nI_add 1 a, by simp, by simp; omega⟩
    · rw [tp_sg_eq]
      exact ⟨nI_add 1 b, by simp, by simp; omega⟩
/-- behind the types -/
def R2 (L : Nat) (σ : tp_St) : Prop := σ.2 = (60, 0) ∧ SC L σ ∧ GZ σ ∧ ∃ pr sp : Nat → Nat, GT pr sp 2 σ
theorem r_78 : ∀ d m σ, m + d = 2 → σ.2 = (60, 0) → SC L σ → GZ σ → GT pr sp m σ → H_43_78 (nI m) σ (fun r σ' => r = 110 ∧ R2 L σ')
  | 0, m, σ, hm, hN, hC, hZ, hT => by
    obtain rfl : m = 2 := by omega
    refine sg_43_78 _ (pk_le 2 2 (fun _ => ⟨?_, rfl, hN, hC, hZ, pr, sp, hT⟩) (fun z => absurd z (by omega)))
    rw [hN]
    rfl
  | d + 1, m, σ, hm, hN, hC, hZ, hT => by
    have hn : σ.2.1 = 60 := by rw [hN]
    obtain ⟨t1, t2, t3⟩ := id hT
    obtain ⟨⟨e1, e2⟩, e3, e4⟩ := t3 m (by omega)
    refine sg_43_78 _ (pk_le 2 m (fun z => absurd z (by omega)) (fun _ => ⟨by omega, tp_vi (by omega) (by omega), by omega, tp_vi (by omega) (by omega), ?_⟩))
    rw [tp_c (show m < 1000000 by omega), e1, e2]
    refine c_type t1 (by omega) rfl rfl (by omega) e4 ⟨fun _ => ?_, fun c => absurd rfl c⟩
    rw [nI_1]
    refine r_78 d (m + 1) _ (by omega) hN (SC_fr hC (by rw [tp_sg_ne (by omega), tp_sg_ne (by omega), tp_sg_ne (by omega)])) (GZ_fr hZ (fun o k hd => by rw [tp_sg_ne (by omega), tp_sg_ne (by omega), tp_sg_ne (by omega)])) ⟨tp_sg_eq, fun k hk => ?_, fun k hk => ?_⟩
    · by_cases e : k = m
      · subst e
        rw [tp_sg_ne (by omega), tp_sg_ne (by omega), tp_sg_eq, tp_sg_ne (by omega), tp_sg_eq]
        exact ⟨rfl, rfl⟩
      · rw [tp_sg_ne (by omega), tp_sg_ne (by omega), tp_sg_ne (by omega), tp_sg_ne (by omega), tp_sg_ne (by omega), tp_sg_ne (by omega)]
        exact t2 k (by omega)
    · rw [tp_sg_ne (by omega), tp_sg_ne (by omega), tp_sg_ne (by omega), tp_sg_ne (by omega), tp_sg_ne (by omega), tp_sg_ne (by omega)]
      exact t3 k hk
theorem r_2 (h : R1 L σ) : H_43_45 (tp_new σ) (fun r σ' => r = 110 ∧ R2 L σ') := by
  obtain ⟨hN0, hC0, hZ0, hT0, pr, hpr⟩ := h
  have hn0 : σ.2.1 = 59 := by rw [hN0]
  have hN : (tp_new σ).2 = (60, 0) := by unfold tp_new; rw [hN0]
  have hn : (tp_new σ).2.1 = 60 := by rw [hN]
  have e : ∀ o k, ¬ o = 59 → (tp_new σ).1 o k = σ.1 o k := fun o k hd => tp_new_ne (by omega)
  have hC : SC L (tp_new σ) := SC_fr hC0 (e _ _ (by omega))
  refine sg_43_45 (sp_41 (j := 2) hC.1 hC.2 rfl (by omega) (fun x => sp_40 (c := 5) rfl (by omega) (by omega) (fun a ha => ⟨by omega, ?_⟩)))
  have hC1 : SC L (tp_set (tp_new σ) 59 0 (1 + nI a)) := SC_fr hC (tp_sg_ne (by omega))
  refine sp_41 (j := 3) hC1.1 hC.2 rfl (by omega) (fun x => sp_40 (c := 9) rfl (by omega) (by omega) (fun b hb => ⟨?_, ?_⟩))
  · show 59 < (tp_new σ).2.1
    omega
  · refine r_78 (pr := pr) (sp := fun k => if k = 0 then 1 + a else 1 + b) 2 0 _ rfl hN (SC_fr hC1 (tp_sg_ne (by omega))) (GZ_fr hZ0 (fun o k hd => by rw [tp_sg_ne (by omega), tp_sg_ne (by omega), e _ _ (by omega)])) ⟨by rw [tp_sg_ne (by omega), tp_sg_ne (by omega), e _ _ (by omega)]; exact hT0, fun k hk => absurd hk (Nat.not_lt_zero _), fun k hk => ?_⟩
    obtain ⟨w1, w2⟩ := hpr k hk
    refine ⟨⟨?_, ?_⟩, w2, ?_⟩
    · rw [tp_sg_ne (by omega), tp_sg_ne (by omega), e _ _ (by omega)]
      exact w1
    · rcases (show k = 0 ∨ k = 1 by omega) with rfl | rfl
      · rw [tp_sg_ne (by omega), tp_sg_eq]
        exact nI_add 1 a
      · rw [tp_sg_eq]
        exact nI_add 1 b
    · rcases (show k = 0 ∨ k = 1 by omega) with rfl | rfl
      · simp; omega
      · simp; omega
theorem GT_fr {m : Nat} {σ σ' : tp_St} (h : GT pr sp m σ) (e : ∀ o k, ((o = 1 ∧ k = 2) ∨ o = 8 ∨ o = 9 ∨ o = 58 ∨ o = 59) → σ'.1 o k = σ.1 o k) : GT pr sp m σ' := by
  obtain ⟨h1, h2, h3⟩ := h
  refine ⟨by rw [e _ _ (by omega)]; exact h1, fun k hk => ?_, fun k hk => ?_⟩
  · rw [e 8 k (by omega), e 9 k (by omega)]; exact h2 k hk
  · rw [e 58 k (by omega), e 59 k (by omega)]; exact h3 k hk
/-- up is made -/
def R3 (L : Nat) (σ : tp_St) : Prop := σ.2 = (61, 0) ∧ SC L σ ∧ GZ σ ∧ ∃ pr sp : Nat → Nat, GT pr sp 2 σ
theorem r_3 (h : R2 L σ) : H_43_112 (tp_new σ) (fun r σ' => r = 115 ∧ R3 L σ') := by
  obtain ⟨hN0, hC0, hZ0, pr, sp, hT0⟩ := h
  have hn0 : σ.2.1 = 60 := by rw [hN0]
  have hN : (tp_new σ).2 = (61, 0) := by unfold tp_new; rw [hN0]
  have e : ∀ o k, ¬ o = 60 → (tp_new σ).1 o k = σ.1 o k := fun o k hd => tp_new_ne (by omega)
  refine sg_43_112 ⟨?_, rfl, hN, SC_fr hC0 (e _ _ (by omega)), GZ_fr hZ0 (fun o k hd => e _ _ (by omega)), pr, sp, GT_fr hT0 (fun o k hd => e _ _ (by omega))⟩
  rw [hN]
  rfl
/-- owners are told -/
def R4 (L : Nat) (σ : tp_St) : Prop := σ.2 = (62, 0) ∧ SC L σ ∧ GZ σ ∧ (∃ pr sp : Nat → Nat, GT pr sp 2 σ) ∧ ∀ t, t < 4 → σ.1 61 t = nI t
theorem r_4 (h : R3 L σ) : H_43_117 (tp_new σ) (fun r σ' => r = 141 ∧ R4 L σ') := by
  obtain ⟨hN0, hC0, hZ0, pr, sp, hT0⟩ := h
  have hn0 : σ.2.1 = 61 := by rw [hN0]
  have hN : (tp_new σ).2 = (62, 0) := by unfold tp_new; rw [hN0]
  have hn : (tp_new σ).2.1 = 62 := by rw [hN]
  have e : ∀ o k, ¬ o = 61 → (tp_new σ).1 o k = σ.1 o k := fun o k hd => tp_new_ne (by omega)
  have e4 : ∀ o k, ¬ o = 61 → (tp_set (tp_set (tp_set (tp_set (tp_new σ) 61 0 0) 61 1 1) 61 2 2) 61 3 3).1 o k = σ.1 o k := fun o k hd => by
    rw [tp_sg_ne (by omega), tp_sg_ne (by omega), tp_sg_ne (by omega), tp_sg_ne (by omega), e o k hd]
  refine sg_43_117 ⟨by omega, by omega, by omega, by omega, ?_, rfl, hN, SC_fr hC0 (e4 _ _ (by omega)), GZ_fr hZ0 (fun o k hd => e4 _ _ (by omega)), ⟨pr, sp, GT_fr hT0 (fun o k hd => e4 _ _ (by omega))⟩, fun t ht => ?_⟩
  · show (8 : Int32) = Int32.ofNat (tp_ln (tp_new σ).2.1)
    rw [hn]
    rfl
  · rcases (show t = 0 ∨ t = 1 ∨ t = 2 ∨ t = 3 by omega) with rfl | rfl | rfl | rfl
    · rw [tp_sg_ne (by omega), tp_sg_ne (by omega), tp_sg_ne (by omega), tp_sg_eq]; rfl
    · rw [tp_sg_ne (by omega), tp_sg_ne (by omega), tp_sg_eq]; rfl
    · rw [tp_sg_ne (by omega), tp_sg_eq]; rfl
    · rw [tp_sg_eq]; rfl
def R5 (L : Nat) (σ : tp_St) : Prop := σ.2 = (63, 0) ∧ SC L σ ∧ GZ σ ∧ (∃ pr sp : Nat → Nat, GT pr sp 2 σ) ∧ ∀ t, t < 4 → σ.1 61 t = nI t
theorem r_5 (h : R4 L σ) : H_43_143 (tp_new σ) (fun r σ' => r = 147 ∧ R5 L σ') := by
  obtain ⟨hN0, hC0, hZ0, ⟨pr, sp, hT0⟩, hO⟩ := h
  have hn0 : σ.2.1 = 62 := by rw [hN0]
  have hN : (tp_new σ).2 = (63, 0) := by unfold tp_new; rw [hN0]
  have e : ∀ o k, ¬ o = 62 → (tp_new σ).1 o k = σ.1 o k := fun o k hd => tp_new_ne (by omega)
  refine sg_43_143 ⟨?_, rfl, hN, SC_fr hC0 (e _ _ (by omega)), GZ_fr hZ0 (fun o k hd => e _ _ (by omega)), ⟨pr, sp, GT_fr hT0 (fun o k hd => e _ _ (by omega))⟩, fun t ht => (e _ _ (by omega)).trans (hO t ht)⟩
  rw [hN]
  rfl
end GN
end
section
/-! trips and packs are made; then the ghost stands -/
section GR
variable {pr sp : Nat → Nat} {u : Nat → Bool} {lim : Nat → Nat → Nat} {L : Nat} {σ : tp_St}
/-- T trips are made, and m packs -/
def SI (pr sp : Nat → Nat) (u : Nat → Bool) (lim : Nat → Nat → Nat) (L T m : Nat) (σ : tp_St) : Prop := σ.2 = (64, 0) ∧ SC L σ ∧ GT pr sp 2 σ ∧ σ.1 4 4 = 0 ∧ (∀ t, t < 4 → σ.1 61 t = nI t) ∧ σ.1 3 3 = nI T ∧ (∀ r, r < T → σ.1 12 r = nI r ∧ σ.1 13 r = bI (u r) ∧ σ.1 14 r = 1 ∧ σ.1 60 r = bI (u r)) ∧ GQ lim m σ ∧ ∀ c k, c < 4 → k < 2 → 2 * c + k < m → σ.1 62 (2 * c + k) = nI (50 * c) ∧ σ.1 63 (2 * c + k) = nI (lim c k)
def R6 (L : Nat) (σ : tp_St) : Prop := ∃ pr sp u lim, SI pr sp u lim L 4 8 σ
theorem tp_2ka {t k : Nat} : (8 : Int32) + 2 * nI t + nI k = nI (8 + 2 * t + k) := by rw [show (2 : Int32) = nI 2 from rfl, pk_mul, show (8 : Int32) = nI 8 from rfl, nI_add, nI_add]
theorem tp_50 {t : Nat} : (50 : Int32) * nI t = nI (50 * t) := by rw [show (50 : Int32) = nI 50 from rfl, pk_mul]
theorem r_205 {T : Nat} (hT : T < 4) (nx : ∀ lim σ, SI pr sp u lim L (T + 1) (2 * T + 2) σ → H_43_154 (nI (T + 1)) σ (fun r σ' => r = 321 ∧ R6 L σ')) : ∀ d k lim σ, k + d = 2 → SI pr sp u lim L (T + 1) (2 * T + k) σ → H_43_205 (nI T) (nI k) σ (fun r σ' => r = 321 ∧ R6 L σ')
  | 0, k, lim, σ, hk, h => by
    obtain rfl : k = 2 := by omega
    refine sg_43_205 _ _ (pk_le 2 2 (fun _ => ?_) (fun z => absurd z (by omega)))
    rw [nI_1]
    exact nx lim σ h
  | d + 1, k, lim, σ, hk, h => by
    have hk2 : k < 2 := by omega
    obtain ⟨hN, hC, hG, h4, hO, h3, hR, hQ, hP⟩ := id h
    have hn : σ.2.1 = 64 := by rw [hN]
    have v8 := tp_vi (show 2 * T + k < 8 by omega) (by omega)
    refine sg_43_205 _ _ (pk_le 2 k (fun z => absurd z (by omega)) (fun _ => ?_))
    rw [tp_2k, tp_2ka, tp_50, tp_c (show 2 * T + k < 1000000 by omega)]
    have hC1 : SC L (tp_set σ 62 (2 * T + k) (nI (50 * T))) := SC_fr hC (tp_sg_ne (by omega))
    refine ⟨by omega, v8, sp_41 (j := 8 + 2 * T + k) hC1.1 hC.2 rfl (by omega) (fun x => sp_40 (c := 10) rfl (by omega) (by omega) (fun r hr => ?_))⟩
    have e63 : nI (50 * T) + 3 + nI r = nI (50 * T + (3 + r)) := by rw [show (3 : Int32) = nI 3 from rfl, nI_add, nI_add, Nat.add_assoc]
    have hN1 : 62 < (tp_set σ 62 (2 * T + k) (nI (50 * T))).2.1 ∧ 63 < (tp_set σ 62 (2 * T + k) (nI (50 * T))).2.1 := by
      show 62 < σ.2.1 ∧ 63 < σ.2.1
      omega
    rw [tp_sg_eq, tp_sg_eq, e63, pk_sub (by omega), Nat.add_sub_cancel_left]
    refine ⟨hN1.2, v8, hN1.1, v8, hN1.2, v8, hN1.1, v8, ?_⟩
    generalize hX : tp_set (tp_set σ 62 (2 * T + k) (nI (50 * T))) 63 (2 * T + k) (nI (50 * T + (3 + r))) = X
    have xf : ∀ o j, ¬ (o = 62 ∨ o = 63) → X.1 o j = σ.1 o j := fun o j hd => by rw [← hX, tp_sg_ne (by omega), tp_sg_ne (by omega)]
    have x2 : X.2 = σ.2 := by rw [← hX]; rfl
    have hQX : GQ lim (2 * T + k) X := fun c j hc hj => by
      rw [xf _ _ (by omega), xf _ _ (by omega)]
      exact hQ c j hc hj
    refine c_issue ((xf 1 2 (by omega)).trans hG.1) ((xf 4 4 (by omega)).trans h4) hQX hT hk2 hr rfl rfl rfl rfl ⟨fun _ => ?_, fun c => absurd rfl c⟩
    rw [nI_1]
    have yf : ∀ o j, ¬ (46 ≤ o ∧ o < 58) → (tp_set (tp_set X (46 + T) k (nI (50 * T))) (52 + T) k (nI (50 * T + (3 + r)))).1 o j = X.1 o j := fun o j hd => by rw [tp_sg_ne (by omega), tp_sg_ne (by omega)]
    refine r_205 hT nx d (k + 1) (fun c j => if c = T ∧ j = k then 50 * T + (3 + r) else lim c j) _ (by omega) ⟨x2.trans hN, SC_fr hC ((yf _ _ (by omega)).trans (xf _ _ (by omega))), GT_fr hG (fun o j hd => (yf _ _ (by omega)).trans (xf _ _ (by omega))), (yf _ _ (by omega)).trans ((xf _ _ (by omega)).trans h4), fun t ht => (yf _ _ (by omega)).trans ((xf _ _ (by omega)).trans (hO t ht)), (yf _ _ (by omega)).trans ((xf _ _ (by omega)).trans h3), fun q hq => ?_, fun c j hc hj => ?_, fun c j hc hj hm => ?_⟩
    · rw [yf _ _ (by omega), yf _ _ (by omega), yf _ _ (by omega), yf _ _ (by omega), xf _ _ (by omega), xf _ _ (by omega), xf _ _ (by omega), xf _ _ (by omega)]
      exact hR q hq
    · by_cases q : c = T ∧ j = k
      · obtain ⟨rfl, rfl⟩ := q
        refine ⟨fun _ => ?_, fun z => absurd z (by omega)⟩
        rw [tp_sg_ne (o' := 46 + c) (by omega), tp_sg_eq, tp_sg_eq]
        dsimp only
        rw [if_pos ⟨rfl, rfl⟩]
        exact ⟨rfl, rfl, by omega, by omega⟩
      · rw [tp_sg_ne (o' := 46 + c) (by omega), tp_sg_ne (o' := 46 + c) (by omega), tp_sg_ne (o' := 52 + c) (by omega), tp_sg_ne (o' := 52 + c) (by omega)]
        dsimp only
        rw [if_neg q]
        obtain ⟨w1, w2⟩ := hQX c j hc hj
        exact ⟨fun z => w1 (by omega), fun z => w2 (by omega)⟩
    · rw [yf _ _ (by omega), yf _ _ (by omega), ← hX]
      by_cases q : c = T ∧ j = k
      · obtain ⟨rfl, rfl⟩ := q
        rw [tp_sg_ne (o' := 62) (by omega), tp_sg_eq, tp_sg_eq]
        dsimp only
        rw [if_pos ⟨rfl, rfl⟩]
        exact ⟨rfl, rfl⟩
      · rw [tp_sg_ne (by omega), tp_sg_ne (by omega), tp_sg_ne (by omega), tp_sg_ne (by omega)]
        dsimp only
        rw [if_neg q]
        exact hP c j hc hj (by omega)
theorem r_154 : ∀ d T u lim σ, T + d = 4 → SI pr sp u lim L T (2 * T) σ → H_43_154 (nI T) σ (fun r σ' => r = 321 ∧ R6 L σ')
  | 0, T, u, lim, σ, hT, h => by
    obtain rfl : T = 4 := by omega
    refine sg_43_154 _ (pk_le 4 4 (fun _ => ⟨?_, rfl, pr, sp, u, lim, h⟩) (fun z => absurd z (by omega)))
    rw [h.1]
    rfl
  | d + 1, T, u, lim, σ, hT, h => by
    obtain ⟨hN, hC, hG, h4, hO, h3, hR, hQ, hP⟩ := id h
    have hn : σ.2.1 = 64 := by rw [hN]
    refine sg_43_154 _ (pk_le 4 T (fun z => absurd z (by omega)) (fun _ => sp_41 (j := 4 + T) hC.1 hC.2 (nI_add 4 T) (by omega) (fun x => ?_)))
    obtain ⟨b, hb⟩ : ∃ b : Bool, x &&& 1 = bI b := by
      obtain ⟨j, hj, e⟩ := pk_andE x 1 (m := 1) (by decide)
      rw [e]
      rcases (show j = 0 ∨ j = 1 by omega) with rfl | rfl
      · exact ⟨false, rfl⟩
      · exact ⟨true, rfl⟩
    rw [tp_c (show T < 1000000 by omega), tp_sg_eq, hb]
    generalize hX : tp_set σ 60 T (bI b) = X
    have xf : ∀ o j, ¬ (o = 60) → X.1 o j = σ.1 o j := fun o j hd => by rw [← hX, tp_sg_ne (by omega)]
    have x2 : X.2 = σ.2 := by rw [← hX]; rfl
    have key : H_43_192 (nI T) (nI T) (bI b) X (fun r σ' => r = 321 ∧ R6 L σ') := by
      refine sg_43_192 _ _ _ (c_trip (t := T) ((xf _ _ (by omega)).trans h3) (fun r hr => (xf _ _ (by omega)).trans (hR r hr).1) (by omega) rfl rfl ⟨fun _ => ?_, fun c => absurd rfl c⟩)
      have yf : ∀ o j, ¬ (o = 12 ∨ o = 13 ∨ o = 14 ∨ o = 3) → (tp_set (tp_set (tp_set (tp_set X 12 T (nI T)) 13 T (bI b)) 14 T 1) 3 3 (nI (T + 1))).1 o j = X.1 o j := fun o j hd => by rw [tp_sg_ne (by omega), tp_sg_ne (by omega), tp_sg_ne (by omega), tp_sg_ne (by omega)]
      have zf : ∀ o j, ¬ (o = 12 ∨ o = 13 ∨ o = 14 ∨ o = 3) → ¬ o = 60 → (tp_set (tp_set (tp_set (tp_set X 12 T (nI T)) 13 T (bI b)) 14 T 1) 3 3 (nI (T + 1))).1 o j = σ.1 o j := fun o j h1 h2 => (yf o j h1).trans (xf o j h2)
      refine r_205 (u := fun r => if r = T then b else u r) (by omega) (fun lim σ h => r_154 d (T + 1) _ lim σ (by omega) h) 2 0 lim _ rfl ⟨x2.trans hN, SC_fr hC (zf _ _ (by omega) (by omega)), GT_fr hG (fun o j hd => zf _ _ (by omega) (by omega)), (zf _ _ (by omega) (by omega)).trans h4, fun t ht => (zf _ _ (by omega) (by omega)).trans (hO t ht), tp_sg_eq, fun r hr => ?_, fun c j hc hj => ?_, fun c j hc hj hm => ?_⟩
      · by_cases e : r = T
        · subst e
          rw [tp_sg_ne (by omega), tp_sg_ne (by omega), tp_sg_ne (by omega), tp_sg_eq, tp_sg_ne (by omega), tp_sg_ne (by omega), tp_sg_eq, tp_sg_ne (by omega), tp_sg_eq, yf _ _ (by omega), ← hX, tp_sg_eq]
          dsimp only
          rw [if_pos rfl]
          exact ⟨rfl, rfl, rfl, rfl⟩
        · obtain ⟨w1, w2, w3, w4⟩ := hR r (by omega)
          rw [tp_sg_ne (o' := 12) (by omega), tp_sg_ne (o' := 12) (by omega), tp_sg_ne (o' := 12) (by omega), tp_sg_ne (o' := 12) (by omega), tp_sg_ne (o' := 13) (by omega), tp_sg_ne (o' := 13) (by omega), tp_sg_ne (o' := 13) (by omega), tp_sg_ne (o' := 13) (by omega), tp_sg_ne (o' := 14) (by omega), tp_sg_ne (o' := 14) (by omega), tp_sg_ne (o' := 14) (by omega), tp_sg_ne (o' := 14) (by omega), yf 60 _ (by omega), xf 12 _ (by omega), xf 13 _ (by omega), xf 14 _ (by omega), ← hX, tp_sg_ne (by omega)]
          dsimp only
          rw [if_neg e]
          exact ⟨w1, w2, w3, w4⟩
      · rw [zf _ _ (by omega) (by omega), zf _ _ (by omega) (by omega)]
        exact hQ c j hc hj
      · rw [zf _ _ (by omega) (by omega), zf _ _ (by omega) (by omega)]
        exact hP c j hc hj hm
    refine ⟨by omega, tp_vi (by omega) (by omega), by omega, tp_vi (by omega) (by omega), ?_⟩
    cases b with
    | true => exact ⟨fun _ => key, fun z => absurd rfl z⟩
    | false => exact ⟨fun z => absurd z (by decide), fun _ => key⟩
theorem r_6 (h : R5 L σ) : H_43_149 (tp_new σ) (fun r σ' => r = 321 ∧ R6 L σ') := by
  obtain ⟨hN0, hC0, hZ0, ⟨pr, sp, hT0⟩, hO⟩ := h
  have hn0 : σ.2.1 = 63 := by rw [hN0]
  have hN : (tp_new σ).2 = (64, 0) := by unfold tp_new; rw [hN0]
  have e : ∀ o k, ¬ o = 63 → (tp_new σ).1 o k = σ.1 o k := fun o k hd => tp_new_ne (by omega)
  refine sg_43_149 (r_154 (pr := pr) (sp := sp) 4 0 (fun _ => false) (fun _ _ => 0) _ rfl ⟨hN, SC_fr hC0 (e _ _ (by omega)), GT_fr hT0 (fun o k hd => e _ _ (by omega)), (e _ _ (by omega)).trans hZ0.2.1, fun t ht => (e _ _ (by omega)).trans (hO t ht), (e _ _ (by omega)).trans hZ0.1, fun r hr => absurd hr (Nat.not_lt_zero _), fun c k hc hk => ?_, fun c k hc hk hm => absurd hm (by omega)⟩)
  rw [e _ _ (by omega), e _ _ (by omega)]
  exact hZ0.2.2 c k hc hk
theorem r_7 (h : R6 L σ) : H_43_323 (tp_new σ) (fun r _ => r = 1) := by
  obtain ⟨pr, sp, u, lim, hN0, hC, hG, h4, hO, h3, hR, hQ, hP⟩ := h
  have hn0 : σ.2.1 = 64 := by rw [hN0]
  have hN : (tp_new σ).2 = (65, 0) := by unfold tp_new; rw [hN0]
  have e : ∀ o k, ¬ o = 64 → (tp_new σ).1 o k = σ.1 o k := fun o k hd => tp_new_ne (by omega)
  have e64 : (tp_new σ).1 64 0 = 0 := by rw [← hn0]; exact tp_new_eq
  refine l_323 (pr := pr) (sp := sp) (u := u) (lim := lim) (L := L) (tr := fun _ => 0) (ty := fun _ => 0) (st := fun _ => 0) (fun _ => rfl) ⟨⟨?_, fun k hk => ?_, ?_, fun t ht => ?_⟩, fun t ht => ?_, ⟨?_, fun k hk => ?_, fun t ht => ?_⟩, SC_fr hC (e _ _ (by omega)), ⟨by omega, ?_, fun i hi => absurd hi (Nat.not_lt_zero _), fun t k ht hk => ?_⟩, ⟨e64, fun i hi => absurd hi (Nat.not_lt_zero _)⟩, fun t k ht hk => ?_⟩
  · rw [e _ _ (by omega)]; exact hG.1
  · rw [e _ _ (by omega), e _ _ (by omega)]
    exact ⟨(hG.2.1 k hk).1, (hG.2.1 k hk).2, (hG.2.2 k hk).2⟩
  · rw [e _ _ (by omega)]; exact h3
  · rw [e _ _ (by omega), e _ _ (by omega)]
    exact ⟨(hR t ht).1, (hR t ht).2.1⟩
  · rw [e _ _ (by omega)]; exact (hR t ht).2.2.1
  · rw [hN]; decide
  · rw [e _ _ (by omega), e _ _ (by omega)]
    exact (hG.2.2 k hk).1
  · rw [e _ _ (by omega), e _ _ (by omega)]
    exact ⟨(hR t ht).2.2.2, hO t ht⟩
  · rw [e _ _ (by omega)]; exact h4
  · rw [e _ _ (by omega), e _ _ (by omega)]
    obtain ⟨w1, w2, w3, w4⟩ := (hQ t k (by omega) hk).1 (by omega)
    have hx : g_nx (fun _ => 0) (fun _ => 0) 0 t k = 50 * t := rfl
    rw [hx]
    exact ⟨w1, w2, by omega, w4⟩
  · rw [e _ _ (by omega), e _ _ (by omega)]
    exact hP t k ht hk (by omega)
end GR
end
section
/-! the store as the constructor leaves it; ro: what is only read -/
def s_i (ro : Nat → Nat → Int32) : tp_St := (fun o k => if 82 ≤ o then ro o k else if (20 ≤ o ∧ o < 24) ∧ k = 2 then -1 else if (o = 24 ∨ o = 25) ∧ k = 7 then -1 else if o = 7 ∧ k = 6 then 30 else 0, (58, 0))
theorem s_i0 {ro : Nat → Nat → Int32} {o k : Nat} (h : o < 82 ∧ ¬ ((20 ≤ o ∧ o < 24) ∧ k = 2) ∧ ¬ ((o = 24 ∨ o = 25) ∧ k = 7) ∧ ¬ (o = 7 ∧ k = 6)) : (s_i ro).1 o k = 0 := by
  show (if 82 ≤ o then ro o k else if (20 ≤ o ∧ o < 24) ∧ k = 2 then -1 else if (o = 24 ∨ o = 25) ∧ k = 7 then -1 else if o = 7 ∧ k = 6 then 30 else 0) = 0
  rw [if_neg (by omega), if_neg (by omega), if_neg (by omega), if_neg (by omega)]
theorem s_i_ro {ro : Nat → Nat → Int32} {o k : Nat} (h : 82 ≤ o) : (s_i ro).1 o k = ro o k := if_pos h
/-- behind the constructor -/
def R0 (L : Nat) (σ : tp_St) : Prop := σ.2 = (58, 0) ∧ SC L σ ∧ GZ σ ∧ σ.1 1 2 = 0
theorem s_i_R {ro : Nat → Nat → Int32} {L : Nat} (h : ro 89 0 = nI L) (hL : L < 1000000) : R0 L (s_i ro) := by
  refine ⟨rfl, ⟨(s_i_ro (by decide)).trans h, hL⟩, ⟨s_i0 (by omega), s_i0 (by omega), fun c k hc hk => ⟨fun z => absurd z (by omega), fun _ => ⟨s_i0 (by omega), s_i0 (by omega)⟩⟩⟩, s_i0 (by omega)⟩
theorem r_0 {L : Nat} {σ : tp_St} (h : R0 L σ) : H_43_11 (tp_new σ) (fun r σ' => r = 43 ∧ R1 L σ') := by
  obtain ⟨hN0, hC0, hZ0, hT0⟩ := h
  have hn0 : σ.2.1 = 58 := by rw [hN0]
  have e : ∀ o k, ¬ o = 58 → (tp_new σ).1 o k = σ.1 o k := fun o k hd => tp_new_ne (by omega)
  exact r_1 (by unfold tp_new; rw [hN0]) (SC_fr hC0 (e _ _ (by omega))) (GZ_fr hZ0 (fun o k hd => e _ _ (by omega))) ((e _ _ (by omega)).trans hT0)
end
section
/-! MAKING: rows for the constructors, whose world grows: the object made stands at place 0, behind it what it has made -/
def ct_nl : List (String × Nat × MethodName) := [("TramPence", 9, yX8_init), ("TramPence", 18, yX2_init), ("TramPence", 25, yX7_init), ("TramPence", 32, yX4_init), ("TramPence", 43, yX5_init), ("TramPence", 46, yX0_init), ("TramPence$LawBook", 11, yX6_init), ("TramPence$LawBook", 20, yX1_init), ("TramPence", 53, yX3_init)]
/-- what doesn't ride along as a word -/
def ct_E (U : State) : Prop := (∀ q ∈ ct_nl, va_Nw (.methodLinkNest q.1 q.2.1 q.2.2 "TramPence") U) ∧ va_AO "TramPence$Sheet" U ∧ va_AOA .int U
theorem ct_E.warm {s U : State} (hW : s.WarmedH U.vm) (h : ct_E s) : ct_E U := ⟨fun q hq => va_Nw.warmM hW (h.1 q hq), va_AO.moved hW.alike h.2.1, va_AOA.moved hW.alike h.2.2⟩
theorem ct_E.blind {U : State} {g : JFrame} {mk : MethodId} {a : Array Value} (h : ct_E U) : ct_E (U.calling g mk a) :=
  ⟨fun q hq => va_Nw.same (u := U) (U := U.calling g mk a) rfl rfl (h.1 q hq), va_AO.moved (u := U) (U := U.calling g mk a) (Vm.Alike.refl U.vm) h.2.1, va_AOA.moved (u := U) (U := U.calling g mk a) (Vm.Alike.refl U.vm) h.2.2⟩
def ct_S (p : Program) (s : State) (m : MethodId) (args : Array Value) (c : Code) (cc : ByteArray) (nL : Nat) (own : String) (D : va_G) (cs : tp_CS) (A : Nat → Prop) : Prop :=
  p.tables.exec = Jvm.exec ∧ c.code = cc ∧ c.maxLocals = nL ∧ s.vm.findClass own = some m.cls ∧ (∀ w ∈ tp_gt, w.before args s = true) ∧ va_K D vwCl (tp_tys cs) s ∧ (∀ q, s.heap.size ≤ q → A q) ∧ ct_E s
def ct_W (D : va_G) (A : Nat → Prop) (s : State) (ws : va_W) (H : Heap) (locs : List Loc) : Prop := va_P D vwCl ws H ∧ va_D A ws ∧ va_S A s.heap H locs
def ct_Pre (D : va_G) (cs : tp_CS) (ws : va_W) (sz : Nat) (U : State) : Prop := U.heap.size = sz ∧ va_P D vwCl ws U.heap ∧ va_K D vwCl (tp_tys cs) U ∧ ct_E U
/-- a constructor's contract: what it makes has the shape Sh -/
def ct_Met (l : Launch) (y : MethodName) (cc : ByteArray) (nL fr lo mc ms ci : Nat) (fs : List Value) (Sh : Nat → tp_CS → va_W → Prop) : Prop :=
  ∀ (D : va_G) (cs : tp_CS) (h0 sz : Nat), Met l y (.code y cc nL none :: tp_gt) { frames := fr, cells := mc, slots := ms, locals := lo } (va_Pc [.ref h0] (ct_Pre D cs [(h0, .inr (ci, fs))] sz)) (va_Qv (Sh h0 cs) (fun w1 t => va_P D vwCl w1 t.heap ∧ va_D (va_A [(h0, .inr (ci, fs))] sz) w1) (va_A [(h0, .inr (ci, fs))] sz)) mc ms (va_A [(h0, .inr (ci, fs))] sz)
theorem ct_good {y : MethodName} {cc : ByteArray} {nL : Nat} (h : Cond.code y cc nL none ∈ tp_gt) : GoodIn tp_gt (.code y cc nL none :: tp_gt) := fun w hw => by
  rcases List.mem_cons.mp hw with rfl | hw
  · exact tp_good h
  · exact tp_good hw
theorem ct_join {A0 : Nat → Prop} {D : va_G} {cl : List vw_C} {ws w1 : va_W} {x : Nat × va_E} {H H1 : Heap} (hP : va_P D cl (ws ++ [x]) H) (hD : va_D A0 (ws ++ [x])) (hk : ∀ q : Nat, q < H.size → ¬ va_A [x] H.size q → H1[q]? = H[q]?) (hF : ∀ q, va_A [x] H.size q → A0 q) (hP1 : va_P D cl w1 H1) (hD1 : va_D (va_A [x] H.size) w1) : va_P D cl (ws ++ w1) H1 ∧ va_D A0 (ws ++ w1) := by
  have left : ∀ (k : Nat) (q : Nat × va_E), ws[k]? = some q → (ws ++ [x])[k]? = some q := fun k q hq => by
    rw [List.getElem?_append_left (List.getElem?_eq_some_iff.mp hq).1]
    exact hq
  have last : (ws ++ [x])[ws.length]? = some x := by
    rw [List.getElem?_append_right (Nat.le_refl _), Nat.sub_self]
    rfl
  have apart : ∀ (k : Nat) (q : Nat × va_E), ws[k]? = some q → q.1 < H.size ∧ ¬ va_A [x] H.size q.1 := by
    intro k q hq
    have hkl : k < ws.length := (List.getElem?_eq_some_iff.mp hq).1
    have hl := (hP k q (left k q hq)).lt
    refine ⟨hl, fun h => ?_⟩
    rcases h with ⟨k2, e, h⟩ | h
    · have h0 : k2 < 1 := (List.getElem?_eq_some_iff.mp h).1
      rw [show k2 = 0 by omega] at h
      cases h
      have := hD.1 k ws.length q (q.1, e) (left k q hq) last rfl
      omega
    · omega
  refine ⟨va_P.app (fun k q hq => ?_) hP1, va_D.app ⟨fun i j y z hi hj e => hD.1 i j y z (left i y hi) (left j z hj) e, fun k q hq => hD.2 k q (left k q hq)⟩ (hD1.weaken (fun k q _ h => hF q.1 h)) (fun i j y z hy hz e => (apart i y hy).2 (by rw [e]; exact hD1.2 j z hz))⟩
  obtain ⟨g1, g2⟩ := apart k q hq
  exact (hP k q (left k q hq)).kept (hk q.1 g1 g2)
section CTA
variable {p : Program} {l : Launch} {e : Env} {R : Room} {s : State} {m : MethodId} {args : Array Value} {below : List Frame} {meth : Method} {c : Code} {H : Heap} {locs : List Loc} {cells slots : Nat} {Q : State → Prop}
variable {cc : ByteArray} {nL pc : Nat} {own : String} {ls : Array Slot} {rest : List Value} {D : va_G} {cs : tp_CS} {A : Nat → Prop} {ws : va_W}
/-- Object's constructor, first of all -/
theorem ct_obj (Z : ct_S p s m args c cc nL own D cs A) {h0 k : Nat} (h00 : ls[0]? = some (.val (.ref h0))) (hsz : ls.size = nL) (d0 : decode cc 0 = .ok (.aload_n 0, 1)) (d1 : decode cc 1 = .ok (.invokespecial k, 3)) (h1 : Cond.methodLink own k objectInit ∈ tp_gt) (h2 : Cond.instanceMethod objectInit ∈ tp_gt) (h3 : Cond.code objectInit ⟨#[0xb1]⟩ 1 none ∈ tp_gt) (hfr : 1 ≤ R.frames) (hlo : 12 ≤ R.locals)
    (kk : W p l e R s m args below meth c H locs cells slots Q (F0 m 4 ls [])) : W p l e R s m args below meth c H locs cells slots Q (F0 m 0 ls []) := by
  obtain ⟨hx, hb, hml, hown, hts, -, -, -⟩ := Z
  refine lv_aload_n (i := 0) hx hb d0 rfl h00 ?_
  exact W.objInit hx hb hown (hts _ h1) (hts _ h2) (hts _ h3) rfl (by rw [hml]; exact hsz) rfl d1 hfr hlo kk
/-- a primitive array's class -/
def ct_ak (cs : tp_CS) (s : State) (atype : ArrayType) (ty : FieldType) (cA : ClassId) : Prop := newarray.typeOf atype = ty ∧ (∃ t0 : Nat, (tp_tys cs)[t0]? = some (cA, ty)) ∧ (∀ cB, va_RA s cA ty → va_RA s cB ty → cB = cA) ∧ Cond.arrayClass ty ∈ tp_gt ∧ defaultValue ty = .int 0 ∧ componentBytes ty ≤ 8 ∧ ∀ q, narrow (.array ty) (.ref q) = .ref q ∧ fits (.array ty) (.ref q) = true
theorem ct_aki : ct_ak cs s .int .int cs.1 := ⟨rfl, ⟨0, rfl⟩, fun _ h1 h2 => Option.some.inj (h2.symm.trans h1), tp_gt_in (i := 45) (by decide +kernel), rfl, by decide, fun _ => ⟨rfl, rfl⟩⟩
theorem ct_akb : ct_ak cs s .byte .byte cs.2.1 := ⟨rfl, ⟨1, rfl⟩, fun _ h1 h2 => Option.some.inj (h2.symm.trans h1), tp_gt_in (i := 152) (by decide +kernel), rfl, by decide, fun _ => ⟨rfl, rfl⟩⟩
theorem ct_akz : ct_ak cs s .boolean .boolean cs.2.2.1 := ⟨rfl, ⟨2, rfl⟩, fun _ h1 h2 => Option.some.inj (h2.symm.trans h1), tp_gt_in (i := 84) (by decide +kernel), rfl, by decide, fun _ => ⟨rfl, rfl⟩⟩
theorem ct_newa (Z : ct_S p s m args c cc nL own D cs A) {atype : ArrayType} {ty : FieldType} {cA : ClassId} (ak : ct_ak cs s atype ty cA) (N' : Nat) {n : Int32} (hn : ¬ n < 0) (hN : n.toNatClampNeg = N') (hle : N' ≤ 1000) (hcells : cells + 1 ≤ R.cells) (hslots : slots + N' ≤ R.slots) (hdg : decode cc pc = .ok (.newarray atype, 2)) (hW : ct_W D A s ws H locs)
    (kk : ∀ (q : Nat) (H1 : Heap), ct_W D A s (ws ++ [(q, .inl (cA, N', .inl fun _ => 0))]) H1 locs → W p l e R s m args below meth c H1 locs (cells + 1) (slots + N') Q (F0 m (pc + 2) ls (.ref q :: rest))) : W p l e R s m args below meth c H locs cells slots Q (F0 m pc ls (.int n :: rest)) := by
  obtain ⟨hx, hb, -, -, hts, hK, hA, -⟩ := Z
  obtain ⟨hty, ⟨t0, ht⟩, hsm, harr, hdv, hcb, -⟩ := ak
  obtain ⟨hP, hD, hS⟩ := hW
  have hbytes : N' * componentBytes ty ≤ 536870912 := Nat.le_trans (Nat.mul_le_mul hle hcb) (Nat.le_of_ble_eq_true rfl)
  refine va_newa (atype := atype) (ty := ty) (a0 := (N', .inl fun _ => 0)) (N' := N') hx hb (by rw [hty]; exact hts _ harr) hty hK hP hD hS hA (fun cB => by rw [hdv]; rfl) hn hN hbytes hcells hslots hdg fun q cB H1 hK1 hP1 hD1 hS1 => ?_
  have hlast : (tp_tys cs ++ [(cB, ty)])[(tp_tys cs).length]? = some (cB, ty) := by
    rw [List.getElem?_append_right (Nat.le_refl _), Nat.sub_self]
    rfl
  have e9 : cB = cA := hsm cB (hK.2 t0 _ ht).2 (hK1.2 _ _ hlast).2
  subst e9
  exact kk q H1 ⟨hP1, hD1, hS1⟩
/-- a field of the object made -/
theorem ct_put (Z : ct_S p s m args c cc nL own D cs A) {ci : Nat} {T : u_T} {N : Nat} (k idx : Nat) (hc : vwCl[ci]? = some (own, T, N)) (hk : k < N) (hin2 : meth.name = "<init>") (hdecl : (T k).1 = own) (hlink : Cond.fieldLink own idx own (T k).2.1 (T k).2.2.1 ∈ tp_gt) {ty : FieldType} {v : Value} (hd : parseFieldDescriptor (T k).2.2.1 = some ty) (hn : narrow ty v = v) (hfit : fits ty v = true) {h0 : Nat} {fs : List Value} {X : va_W} (hl : fs.length = N) (hdg : decode cc pc = .ok (.putfield idx, 3)) (hW : ct_W D A s ((h0, .inr (ci, fs)) :: X) H locs)
    (kk : ∀ (H1 : Heap) (locs1 : List Loc), ct_W D A s ((h0, .inr (ci, fs.set k v)) :: X) H1 locs1 → W p l e R s m args below meth c H1 locs1 cells slots Q (F0 m (pc + 3) ls rest)) : W p l e R s m args below meth c H locs cells slots Q (F0 m pc ls (v :: .ref h0 :: rest)) := by
  obtain ⟨hin, ⟨ty0, hty⟩, hnm, -⟩ := tp_clf ci own T N hc
  obtain ⟨hx, hb, -, hown, hts, hK, -, -⟩ := Z
  obtain ⟨hP, hD, hS⟩ := hW
  have hsame : ∀ x, s.fieldFound? (T k).1 (T k).2.1 (T k).2.2.1 = some x → s.fieldFound? own (T k).2.1 (T k).2.2.1 = some x := fun x h => by rw [hdecl] at h; exact h
  have hlk : k < fs.length := by omega
  cases hf : (T k).2.2.2 with
  | false => exact va_put hx hb hts hin ty0 hty hnm hown hK hP hD hS 0 rfl hc k hk (hts _ hlink) hsame hf hd hn hfit hlk hdg (fun H1 locs1 a b d => kk H1 locs1 ⟨a, b, d⟩)
  | true => exact va_putF hx hb hts hin ty0 hty hnm hown hK hP hD hS 0 rfl hc k hk (hts _ hlink) hsame hf hin2 hdecl hd hn hfit hlk hdg (fun H1 locs1 a b d => kk H1 locs1 ⟨a, b, d⟩)
/-- a field gets a new primitive array: aload_0, its length, newarray, putfield -/
theorem ct_fa (Z : ct_S p s m args c cc nL own D cs A) {atype : ArrayType} {ty : FieldType} {cA : ClassId} (ak : ct_ak cs s atype ty cA) {h0 : Nat} (h00 : ls[0]? = some (.val (.ref h0))) (N' : Nat) {n : Int32} (hn : ¬ n < 0) (hN : n.toNatClampNeg = N') (hle : N' ≤ 1000) {p2 : Nat}
    (d0 : decode cc pc = .ok (.aload_n 0, 1)) (hpush : W p l e R s m args below meth c H locs cells slots Q (F0 m p2 ls (.int n :: .ref h0 :: [])) → W p l e R s m args below meth c H locs cells slots Q (F0 m (pc + 1) ls (.ref h0 :: []))) (d2 : decode cc p2 = .ok (.newarray atype, 2)) (k idx : Nat) (d3 : decode cc (p2 + 2) = .ok (.putfield idx, 3))
    {ci : Nat} {T : u_T} {N : Nat} (hc : vwCl[ci]? = some (own, T, N)) (hk : k < N) (hin2 : meth.name = "<init>") (hdecl : (T k).1 = own) (hlink : Cond.fieldLink own idx own (T k).2.1 (T k).2.2.1 ∈ tp_gt) (hd : parseFieldDescriptor (T k).2.2.1 = some (.array ty)) {fs : List Value} {X : va_W} (hl : fs.length = N) (hcells : cells + 1 ≤ R.cells) (hslots : slots + N' ≤ R.slots) (hW : ct_W D A s ((h0, .inr (ci, fs)) :: X) H locs)
    (kk : ∀ (q : Nat) (H1 : Heap) (locs1 : List Loc), ct_W D A s ((h0, .inr (ci, fs.set k (.ref q))) :: (X ++ [(q, .inl (cA, N', .inl fun _ => 0))])) H1 locs1 → W p l e R s m args below meth c H1 locs1 (cells + 1) (slots + N') Q (F0 m (p2 + 5) ls [])) : W p l e R s m args below meth c H locs cells slots Q (F0 m pc ls []) := by
  refine lv_aload_n (i := 0) Z.1 Z.2.1 d0 rfl h00 (hpush ?_)
  refine ct_newa Z ak N' hn hN hle hcells hslots d2 hW fun q H1 hW1 => ?_
  have hW1' : ct_W D A s ((h0, .inr (ci, fs)) :: (X ++ [(q, .inl (cA, N', .inl fun _ => 0))])) H1 locs := hW1
  exact ct_put Z k idx hc hk hin2 hdecl hlink hd ((ak.2.2.2.2.2.2 q).1) ((ak.2.2.2.2.2.2 q).2) hl d3 hW1' fun H2 locs2 hW2 => kk q H2 locs2 hW2
/-- a field gets a number -/
theorem ct_fi (Z : ct_S p s m args c cc nL own D cs A) {h0 : Nat} (h00 : ls[0]? = some (.val (.ref h0))) (n : Int32) {p2 : Nat}
    (d0 : decode cc pc = .ok (.aload_n 0, 1)) (hpush : W p l e R s m args below meth c H locs cells slots Q (F0 m p2 ls (.int n :: .ref h0 :: [])) → W p l e R s m args below meth c H locs cells slots Q (F0 m (pc + 1) ls (.ref h0 :: []))) (k idx : Nat) (d3 : decode cc p2 = .ok (.putfield idx, 3))
    {ci : Nat} {T : u_T} {N : Nat} (hc : vwCl[ci]? = some (own, T, N)) (hk : k < N) (hin2 : meth.name = "<init>") (hdecl : (T k).1 = own) (hlink : Cond.fieldLink own idx own (T k).2.1 (T k).2.2.1 ∈ tp_gt) (hd : parseFieldDescriptor (T k).2.2.1 = some .int) {fs : List Value} {X : va_W} (hl : fs.length = N) (hW : ct_W D A s ((h0, .inr (ci, fs)) :: X) H locs)
    (kk : ∀ (H1 : Heap) (locs1 : List Loc), ct_W D A s ((h0, .inr (ci, fs.set k (.int n))) :: X) H1 locs1 → W p l e R s m args below meth c H1 locs1 cells slots Q (F0 m (p2 + 3) ls [])) : W p l e R s m args below meth c H locs cells slots Q (F0 m pc ls []) := by
  refine lv_aload_n (i := 0) Z.1 Z.2.1 d0 rfl h00 (hpush ?_)
  exact ct_put Z k idx hc hk hin2 hdecl hlink hd (vp_nar_int n) rfl hl d3 hW fun H2 locs2 hW2 => kk H2 locs2 hW2
/-- a new object: new, dup, its constructor -/
theorem ct_make (Z : ct_S p s m args c cc nL own D cs A) {C' : String} {T' : u_T} {y : MethodName} {cc' : ByteArray} {N' nL' fr lo mc ms ci' : Nat} {fs' : List Value} {Sh : Nat → tp_CS → va_W → Prop} (hM : ct_Met l y cc' nL' fr lo mc ms ci' fs' Sh) (idx1 idx2 : Nat) (hc : vwCl[ci']? = some (C', T', N')) {ty0 : Nat → FieldType} (hty : ∀ k, k < N' → parseFieldDescriptor (T' k).2.2.1 = some (ty0 k)) (hfs : ∀ j, j < N' → defaultValue (ty0 j) = vp_V fs' j)
    (h1 : Cond.classLink own idx1 C' ∈ tp_gt) (h2 : Cond.instantiable C' N' ∈ tp_gt) (h3 : Cond.initialized C' ∈ tp_gt) (hy : y = ⟨C', "<init>", "()V"⟩) (hyp : C' ≠ "java/lang/invoke/MethodHandle" ∧ C' ≠ "java/lang/invoke/VarHandle") (h4 : Cond.instanceMethod y ∈ tp_gt) (h5 : Cond.code y cc' nL' none ∈ tp_gt) (h6 : va_Nw (.methodLinkNest own idx2 y "TramPence") s ∨ Cond.methodLink own idx2 y ∈ tp_gt)
    (hroom : fr + 1 ≤ R.frames ∧ 8 + (nL' + 11) + lo ≤ R.locals) (hcells : cells + 1 + mc ≤ R.cells) (hslots : slots + N' + ms ≤ R.slots) (hsz : ls.size = nL) (hrest : (rest.map fun v => v.category).sum + 1 ≤ 8) (d0 : decode cc pc = .ok (.new idx1, 3)) (d1 : decode cc (pc + 3) = .ok (.dup, 1)) (d2 : decode cc (pc + 4) = .ok (.invokespecial idx2, 3)) (hW : ct_W D A s ws H locs)
    (kk : ∀ (q : Nat) (w1 : va_W) (H1 : Heap) (locs1 : List Loc), Sh q cs w1 → ct_W D A s (ws ++ w1) H1 locs1 → W p l e R s m args below meth c H1 locs1 (cells + 1 + mc) (slots + N' + ms) Q (F0 m (pc + 7) ls (.ref q :: rest))) : W p l e R s m args below meth c H locs cells slots Q (F0 m pc ls rest) := by
  obtain ⟨hin, -, -, -⟩ := tp_clf ci' C' T' N' hc
  obtain ⟨hx, hb, hml, hown, hts, hK, hA, hE⟩ := Z
  obtain ⟨hP, hD, hS⟩ := hW
  refine va_new hx hb hts hin ty0 hty hown (hts _ h1) (hts _ h2) (hts _ h3) hK hP hD hS hA hc hfs (by omega) (by omega) d0 fun q H1 hP1 hD1 hS1 => ?_
  refine lv_dup hx hb d1 rfl ?_
  have hPc : va_P D vwCl [(q, .inr (ci', fs'))] H1 := fun k x hx9 => by
    have h0 : k < 1 := (List.getElem?_eq_some_iff.mp hx9).1
    rw [show k = 0 by omega] at hx9
    cases hx9
    exact hP1 ws.length (q, .inr (ci', fs')) (by rw [List.getElem?_append_right (Nat.le_refl _), Nat.sub_self]; rfl)
  have hFc : ∀ x, va_A [(q, .inr (ci', fs'))] H1.size x → A x := fun x hx9 => by
    rcases hx9 with ⟨k, e9, hk⟩ | hk
    · have h0 : k < 1 := (List.getElem?_eq_some_iff.mp hk).1
      rw [show k = 0 by omega] at hk
      cases hk
      exact hD1.2 ws.length (q, .inr (ci', fs')) (by rw [List.getElem?_append_right (Nat.le_refl _), Nat.sub_self]; rfl)
    · exact hA x (Nat.le_trans hS1.1 hk)
  have hpre : PreS s H1 (va_Pc [.ref q] (ct_Pre D cs [(q, .inr (ci', fs'))] H1.size)) (.ref q :: []) := ⟨fun a U g mk z => by
    obtain ⟨z0, z1, zP, zK, zE⟩ := z
    exact ⟨z0, z1, zP, va_K.moved (u := U) (U := U.calling g mk a) (Vm.Alike.refl U.vm) zK, zE.blind⟩, fun U hU hWm => ⟨rfl, by rw [hU], by rw [hU]; exact hPc, va_K.moved hWm.alike hK, hE.warm hWm⟩⟩
  have hd : y.cls ≠ "java/lang/invoke/MethodHandle" ∧ y.cls ≠ "java/lang/invoke/VarHandle" ∧ (parseMethodDescriptor y.desc).map (fun d => d.parameters.length) = some 0 := by
    rw [hy]
    exact ⟨hyp.1, hyp.2, (by decide +kernel : (parseMethodDescriptor "()V").map (fun d => d.parameters.length) = some 0)⟩
  have hini : (Cond.initialized y.cls).before args s = true := by
    rw [hy]
    exact hts _ h3
  have hname : y.name = "<init>" := by rw [hy]
  have hrun : va_Run p l e R s m args below meth c H1 locs (cells + 1) (slots + N') mc ms (F0 m (pc + 4) ls (.ref q :: .ref q :: rest)) (.ref q :: rest) (va_Qv (Sh q cs) (fun w1 t => va_P D vwCl w1 t.heap ∧ va_D (va_A [(q, .inr (ci', fs'))] H1.size) w1) (va_A [(q, .inr (ci', fs'))] H1.size) (Value.ref q :: []).toArray) (va_A [(q, .inr (ci', fs'))] H1.size) := by
    have hroom2 : 2 * (F0 m (pc + 4) ls (.ref q :: .ref q :: rest)).monitorRoom + ((Value.ref q :: rest).map fun v => v.category).sum ≤ 8 := by
      refine lv_room ?_
      simp only [List.map_cons, List.sum_cons]
      show 1 + _ ≤ 8
      omega
    rcases h6 with h6 | h6
    · exact va_runIN ⟨hx, hb, hml, hown, hts⟩ (hM D cs q H1.size) ⟨va_cnB 0 hts (ct_good h5) rfl rfl rfl h6 hini hd hroom, hname, hts _ h4⟩ hpre rfl rfl hsz rfl hroom2 d2 ⟨hcells, hslots⟩
    · exact va_runI ⟨hx, hb, hml, hown, hts⟩ (hM D cs q H1.size) (cwI 0 hts (ct_good h5) rfl rfl rfl hini (hts _ h6) (hts _ h4) hname hd hroom) hpre rfl rfl hsz rfl hroom2 d2 ⟨hcells, hslots⟩
  refine va_callv hrun hS1 (fun x _ h => hFc x h) hFc fun w1 t H2 locs2 ht hvm hSh hB hz1 hk1 hS2 => ?_
  obtain ⟨hP2, hD2⟩ := hB
  rw [ht] at hP2
  obtain ⟨hP3, hD3⟩ := ct_join hP1 hD1 hk1 hFc hP2 hD2
  exact kk q w1 H2 locs2 hSh ⟨hP3, hD3, hS2⟩
/-- a field gets a new object -/
theorem ct_fo (Z : ct_S p s m args c cc nL own D cs A) {h0 : Nat} (h00 : ls[0]? = some (.val (.ref h0))) {C' : String} {T' : u_T} {y : MethodName} {cc' : ByteArray} {N' nL' fr lo mc ms ci' : Nat} {fs' : List Value} {Sh : Nat → tp_CS → va_W → Prop} (hM : ct_Met l y cc' nL' fr lo mc ms ci' fs' Sh) (idx1 idx2 : Nat) (hc' : vwCl[ci']? = some (C', T', N')) {ty0 : Nat → FieldType} (hty : ∀ k, k < N' → parseFieldDescriptor (T' k).2.2.1 = some (ty0 k)) (hfs : ∀ j, j < N' → defaultValue (ty0 j) = vp_V fs' j)
    (h1 : Cond.classLink own idx1 C' ∈ tp_gt) (h2 : Cond.instantiable C' N' ∈ tp_gt) (h3 : Cond.initialized C' ∈ tp_gt) (hy : y = ⟨C', "<init>", "()V"⟩) (hyp : C' ≠ "java/lang/invoke/MethodHandle" ∧ C' ≠ "java/lang/invoke/VarHandle") (h4 : Cond.instanceMethod y ∈ tp_gt) (h5 : Cond.code y cc' nL' none ∈ tp_gt) (h6 : (own, idx2, y) ∈ ct_nl)
    (hroom : fr + 1 ≤ R.frames ∧ 8 + (nL' + 11) + lo ≤ R.locals) (hcells : cells + 1 + mc ≤ R.cells) (hslots : slots + N' + ms ≤ R.slots) (hsz : ls.size = nL)
    (d00 : decode cc pc = .ok (.aload_n 0, 1)) (d0 : decode cc (pc + 1) = .ok (.new idx1, 3)) (d1 : decode cc (pc + 4) = .ok (.dup, 1)) (d2 : decode cc (pc + 5) = .ok (.invokespecial idx2, 3)) (k idx : Nat) (d3 : decode cc (pc + 8) = .ok (.putfield idx, 3))
    {ci : Nat} {T : u_T} {N : Nat} (hc : vwCl[ci]? = some (own, T, N)) (hk : k < N) (hin2 : meth.name = "<init>") (hdecl : (T k).1 = own) (hlink : Cond.fieldLink own idx own (T k).2.1 (T k).2.2.1 ∈ tp_gt) (hd : parseFieldDescriptor (T k).2.2.1 = some (.object C')) {fs : List Value} {X : va_W} (hl : fs.length = N) (hW : ct_W D A s ((h0, .inr (ci, fs)) :: X) H locs)
    (kk : ∀ (q : Nat) (w1 : va_W) (H1 : Heap) (locs1 : List Loc), Sh q cs w1 → ct_W D A s ((h0, .inr (ci, fs.set k (.ref q))) :: (X ++ w1)) H1 locs1 → W p l e R s m args below meth c H1 locs1 (cells + 1 + mc) (slots + N' + ms) Q (F0 m (pc + 11) ls [])) : W p l e R s m args below meth c H locs cells slots Q (F0 m pc ls []) := by
  refine lv_aload_n (i := 0) Z.1 Z.2.1 d00 rfl h00 ?_
  refine ct_make Z hM idx1 idx2 hc' hty hfs h1 h2 h3 hy hyp h4 h5 (Or.inl (Z.2.2.2.2.2.2.2.1 _ h6)) hroom hcells hslots hsz (by show 1 + 0 + 1 ≤ 8; omega) d0 d1 d2 hW fun q w1 H1 locs1 hSh hW1 => ?_
  have hW1' : ct_W D A s ((h0, .inr (ci, fs)) :: (X ++ w1)) H1 locs1 := hW1
  exact ct_put Z k idx hc hk hin2 hdecl hlink hd rfl rfl hl d3 hW1' fun H2 locs2 hW2 => kk q w1 H2 locs2 hSh hW2
end CTA
/-- a constructor's contract out of the walk of its body -/
theorem ct_of {l : Launch} {y : MethodName} {cc : ByteArray} {nL fr lo mc ms ci : Nat} {fs : List Value} {Sh : Nat → tp_CS → va_W → Prop} (hplain : plainName y.cls = true) (hname : y.name = "<init>") (hn1 : 1 ≤ nL)
    (body : ∀ (p : Program) (e : Env) (s : State) (m : MethodId) (args : Array Value) (below : List Frame) (meth : Method) (c : Code) (D : va_G) (cs : tp_CS) (A : Nat → Prop) (h0 : Nat) (ls : Array Slot) (Q : State → Prop), ct_S p s m args c cc nL y.cls D cs A → meth.name = "<init>" → ls[0]? = some (.val (.ref h0)) → lv_has ls nL [(0, .ref h0)] → ct_W D A s [(h0, .inr (ci, fs))] s.heap [] →
      (∀ (pc : Nat) (w1 : va_W) (H : Heap) (locs : List Loc) (ls : Array Slot), decode cc pc = .ok (.return_, 1) → Sh h0 cs w1 → ct_W D A s w1 H locs → W p l e { frames := fr, cells := mc, slots := ms, locals := lo } s m args below meth c H locs mc ms Q (F0 m pc ls [])) →
      W p l e { frames := fr, cells := mc, slots := ms, locals := lo } s m args below meth c s.heap [] 0 0 Q (F0 m 0 ls [])) : ct_Met l y cc nL fr lo mc ms ci fs Sh := by
  intro D cs h0 sz
  refine Met.ofW (cc := cc) (maxL := nL) (ret := none) hplain rfl ?_
  intro p e s m args below meth c s₁ B hml hv
  obtain ⟨rfl, hsz, hP, hK, hE⟩ := hv
  subst hsz
  have hts := atoms_spec (ws := .code y cc nL none :: tp_gt) B.pre
  have hown : s.vm.findClass y.cls = some m.cls := findClass_of_methodNamed B.named
  have hin : meth.name = "<init>" := (name_of_methodNamed B.named B.method).1.trans hname
  have hlocks := B.notSynchronized
  have hr := B.returns
  have hl := lv_entry ([.ref h0]) (n := nL) hn1
  rw [lg_entry_eq]
  generalize (lg_sl ([.ref h0]) ++ List.replicate (nL - (lg_sl ([.ref h0])).length) Slot.unset).toArray = ls at hl ⊢
  have hl : lv_has ls nL [(0, .ref h0)] := hl
  have hD : va_D (va_A [(h0, .inr (ci, fs))] s.heap.size) [(h0, .inr (ci, fs))] := ⟨fun i j x z hi hj _ => by
    have h1 : i < 1 := (List.getElem?_eq_some_iff.mp hi).1
    have h2 : j < 1 := (List.getElem?_eq_some_iff.mp hj).1
    omega, fun k q hk => va_A.in hk⟩
  refine body p e s m _ below meth c D cs (va_A [(h0, .inr (ci, fs))] s.heap.size) h0 ls _ ⟨B.exec, B.bytes, hml, hown, fun w hw => hts w (List.mem_cons_of_mem _ hw), hK, fun q hq => Or.inr hq, hE⟩ hin (lv_at hl 0 rfl) hl ⟨hP, hD, va_S.rf⟩ ?_
  intro pc w1 H locs ls hdg hSh hW
  exact W.vret B.exec B.bytes hr (fun t ht hWm => ⟨⟨w1, rfl, hSh, by rw [ht]; exact hW.1, hW.2.1⟩, hW.2.2.F ht⟩) hW.2.2.2.2 hdg hlocks
end
section
/-! MAKING: arrays of references, the row of lanes, the sheets -/
theorem ct_arr {cA : ClassId} {n : Nat} {f g : Nat → Value} (h : ∀ j, j < n → f j = g j) : arrV cA n f = arrV cA n g := by
  unfold arrV
  congr 1
  exact congrArg Array.ofFn (funext fun j => h j.val j.isLt)
section CTB
variable {p : Program} {l : Launch} {e : Env} {R : Room} {s : State} {m : MethodId} {args : Array Value} {below : List Frame} {meth : Method} {c : Code} {H : Heap} {locs : List Loc} {cells slots : Nat} {Q : State → Prop}
variable {cc : ByteArray} {nL pc : Nat} {own : String} {ls : Array Slot} {rest : List Value} {D : va_G} {cs : tp_CS} {A : Nat → Prop} {ws : va_W}
/-- a field gets a new array of int arrays -/
theorem ct_fm (Z : ct_S p s m args c cc nL own D cs A) {h0 : Nat} (h00 : ls[0]? = some (.val (.ref h0))) (N' K' : Nat) {n n2 : Int32} (hn : ¬ n < 0) (hN : n.toNatClampNeg = N') (hk2 : ¬ n2 < 0) (hK2 : n2.toNatClampNeg = K') (hle : N' ≤ 1000) (hle2 : K' ≤ 1000) {p2 : Nat} (mi : Nat) (hcl : Cond.classLink own mi "[[I" ∈ tp_gt)
    (d0 : decode cc pc = .ok (.aload_n 0, 1)) (hpush : W p l e R s m args below meth c H locs cells slots Q (F0 m p2 ls (.int n2 :: .int n :: .ref h0 :: [])) → W p l e R s m args below meth c H locs cells slots Q (F0 m (pc + 1) ls (.ref h0 :: []))) (d2 : decode cc p2 = .ok (.multianewarray mi 2, 4)) (k idx : Nat) (d3 : decode cc (p2 + 4) = .ok (.putfield idx, 3))
    {ci : Nat} {T : u_T} {N : Nat} (hc : vwCl[ci]? = some (own, T, N)) (hk : k < N) (hin2 : meth.name = "<init>") (hdecl : (T k).1 = own) (hlink : Cond.fieldLink own idx own (T k).2.1 (T k).2.2.1 ∈ tp_gt) (hd : parseFieldDescriptor (T k).2.2.1 = some (.array (.array .int))) {fs : List Value} {X : va_W} (hl : fs.length = N) (hcells : cells + (1 + N') ≤ R.cells) (hslots : slots + (N' + N' * K') ≤ R.slots) (hW : ct_W D A s ((h0, .inr (ci, fs)) :: X) H locs)
    (kk : ∀ (q : Nat) (r : Nat → Nat) (H1 : Heap) (locs1 : List Loc), ct_W D A s ((h0, .inr (ci, fs.set k (.ref q))) :: ((X ++ [(q, .inl (cs.2.2.2.2, N', .inr (.inr (.inr (.inr (fun i => if i < N' then some (r i) else none))))))]) ++ ((List.range N').map r).map (fun a => (a, .inl (cs.1, K', .inl fun _ => 0))))) H1 locs1 → W p l e R s m args below meth c H1 locs1 (cells + 1 + N') (slots + N' + N' * K') Q (F0 m (p2 + 7) ls [])) : W p l e R s m args below meth c H locs cells slots Q (F0 m pc ls []) := by
  have Z0 := Z
  obtain ⟨hx, hb, -, hown, hts, hK, hA, hE⟩ := Z
  refine lv_aload_n (i := 0) hx hb d0 rfl h00 (hpush ?_)
  obtain ⟨hP, hD, hS⟩ := hW
  have e0 : ((h0, .inr (ci, fs)) :: X : va_W) = ((h0, .inr (ci, fs)) :: X) ++ va_pl [] (fun _ => .inl (cs.1, K', .inl fun _ => 0)) := (List.append_nil _).symm
  rw [e0] at hP hD
  have hcy : s.vm.findClass (FieldType.array .int).toString = some cs.1 := (hK.2 0 _ rfl).2
  have hb2 : K' * componentBytes .int ≤ 536870912 := Nat.le_trans (Nat.mul_le_mul hle2 (show componentBytes .int ≤ 8 by decide)) (Nat.le_of_ble_eq_true rfl)
  refine va_mna (X := (h0, .inr (ci, fs)) :: X) (L := []) (ty := .int) (cy := cs.1) (N' := N') (K' := K') (z := (K', .inl fun _ => 0)) hx hb hown (hts _ hcl) hE.2.2 (hts _ (ct_aki (cs := cs) (s := s)).2.2.2.1) hcy hK hP hD hS hA hn hk2 hN hK2 (by omega) hb2 (by omega) rfl rfl hcells hslots (fun cB => ?_) d2 fun q r cA H1 hr1 hr2 hK1 hP1 hD1 hS1 => ?_
  · show ({ cls := cB, slots := Array.replicate K' (.int 0), vm := .none } : Cell) = _
    rw [arrV_new]
    rfl
  · have hlast : (tp_tys cs ++ [(cA, FieldType.array .int)])[(tp_tys cs).length]? = some (cA, FieldType.array .int) := by
      rw [List.getElem?_append_right (Nat.le_refl _), Nat.sub_self]
      rfl
    have e9 : cA = cs.2.2.2.2 := Option.some.inj ((hK1.2 _ _ hlast).2.symm.trans (hK.2 4 _ rfl).2)
    subst e9
    rw [← vr_rows (fun a _ h => by cases h)] at hP1 hD1
    have hW1 : ct_W D A s ((h0, .inr (ci, fs)) :: ((X ++ [(q, .inl (cs.2.2.2.2, N', .inr (.inr (.inr (.inr (fun i => if i < N' then some (r i) else none))))))]) ++ ((List.range N').map r).map (fun a => (a, .inl (cs.1, K', .inl fun _ => 0))))) H1 locs := ⟨hP1, hD1, hS1⟩
    exact ct_put Z0 k idx hc hk hin2 hdecl hlink hd rfl rfl hl d3 hW1 fun H2 locs2 hW2 => kk q r H2 locs2 hW2
/-- a field gets a new row for sheets -/
theorem ct_fq (Z : ct_S p s m args c cc nL own D cs A) {h0 : Nat} (h00 : ls[0]? = some (.val (.ref h0))) (N' : Nat) {n : Int32} (hn : ¬ n < 0) (hN : n.toNatClampNeg = N') (hle : N' ≤ 1000) {p2 : Nat} (mi : Nat) (hcl : Cond.classLink own mi "TramPence$Sheet" ∈ tp_gt)
    (d0 : decode cc pc = .ok (.aload_n 0, 1)) (hpush : W p l e R s m args below meth c H locs cells slots Q (F0 m p2 ls (.int n :: .ref h0 :: [])) → W p l e R s m args below meth c H locs cells slots Q (F0 m (pc + 1) ls (.ref h0 :: []))) (d2 : decode cc p2 = .ok (.anewarray mi, 3)) (k idx : Nat) (d3 : decode cc (p2 + 3) = .ok (.putfield idx, 3))
    {ci : Nat} {T : u_T} {N : Nat} (hc : vwCl[ci]? = some (own, T, N)) (hk : k < N) (hin2 : meth.name = "<init>") (hdecl : (T k).1 = own) (hlink : Cond.fieldLink own idx own (T k).2.1 (T k).2.2.1 ∈ tp_gt) (hd : parseFieldDescriptor (T k).2.2.1 = some (.array (.object "TramPence$Sheet"))) {fs : List Value} {X : va_W} (hl : fs.length = N) (hcells : cells + 1 ≤ R.cells) (hslots : slots + N' ≤ R.slots) (hW : ct_W D A s ((h0, .inr (ci, fs)) :: X) H locs)
    (kk : ∀ (q : Nat) (H1 : Heap) (locs1 : List Loc), ct_W D A s ((h0, .inr (ci, fs.set k (.ref q))) :: (X ++ [(q, .inl (cs.2.2.2.1, N', .inr (.inr (.inr (.inr (fun _ => none))))))])) H1 locs1 → W p l e R s m args below meth c H1 locs1 (cells + 1) (slots + N') Q (F0 m (p2 + 6) ls [])) : W p l e R s m args below meth c H locs cells slots Q (F0 m pc ls []) := by
  have Z0 := Z
  obtain ⟨hx, hb, -, hown, hts, hK, hA, hE⟩ := Z
  refine lv_aload_n (i := 0) hx hb d0 rfl h00 (hpush ?_)
  obtain ⟨hP, hD, hS⟩ := hW
  refine va_newq (C := "TramPence$Sheet") hx hb hown (hts _ hcl) hE.2.1 hK hP hD hS hA hn hN (by omega) hcells hslots d2 fun q cA H1 hK1 hP1 hD1 hS1 => ?_
  have hlast : (tp_tys cs ++ [(cA, FieldType.object "TramPence$Sheet")])[(tp_tys cs).length]? = some (cA, FieldType.object "TramPence$Sheet") := by
    rw [List.getElem?_append_right (Nat.le_refl _), Nat.sub_self]
    rfl
  obtain ⟨_, _, _, _, _, w1⟩ := (hK1.2 _ _ hlast).2
  obtain ⟨_, _, _, _, _, w2⟩ := (hK.2 3 _ rfl).2
  have e9 : cA = cs.2.2.2.1 := Option.some.inj (w1.symm.trans w2)
  subst e9
  have hW1 : ct_W D A s ((h0, .inr (ci, fs)) :: (X ++ [(q, .inl (cs.2.2.2.1, N', .inr (.inr (.inr (.inr (fun _ => none))))))])) H1 locs := ⟨hP1, hD1, hS1⟩
  exact ct_put Z0 k idx hc hk hin2 hdecl hlink hd rfl rfl hl d3 hW1 fun H2 locs2 hW2 => kk q H2 locs2 hW2
/-- dup, place, number, iastore: into the array that was made last -/
theorem ct_lane (Z : ct_S p s m args c cc nL own D cs A) {q : Nat} {x : Nat × va_E} {X : va_W} {n : Nat} {f : Nat → Int32} (i v : Int32) (t : Nat) (hit : i.toNatClampNeg = t) (hin : vp_in i n) {p2 : Nat} (d0 : decode cc pc = .ok (.dup, 1))
    (hpush : W p l e R s m args below meth c H locs cells slots Q (F0 m p2 ls (.int v :: .int i :: .ref q :: .ref q :: rest)) → W p l e R s m args below meth c H locs cells slots Q (F0 m (pc + 1) ls (.ref q :: .ref q :: rest))) (d2 : decode cc p2 = .ok (.iastore, 1)) (hW : ct_W D A s (x :: (X ++ [(q, .inl (cs.1, n, .inl f))])) H locs)
    (kk : ∀ (H1 : Heap) (locs1 : List Loc), ct_W D A s (x :: (X ++ [(q, .inl (cs.1, n, .inl (upd f t v)))])) H1 locs1 → W p l e R s m args below meth c H1 locs1 cells slots Q (F0 m (p2 + 1) ls (.ref q :: rest))) : W p l e R s m args below meth c H locs cells slots Q (F0 m pc ls (.ref q :: rest)) := by
  obtain ⟨hx, hb, -, hown, hts, hK, hA, hE⟩ := Z
  obtain ⟨hP, hD, hS⟩ := hW
  refine lv_dup hx hb d0 rfl (hpush ?_)
  have hat : (x :: (X ++ [(q, .inl (cs.1, n, .inl f))]) : va_W)[X.length + 1]? = some (q, .inl (cs.1, n, .inl f)) := by
    rw [List.getElem?_cons_succ, List.getElem?_append_right (Nat.le_refl _), Nat.sub_self]
    rfl
  have hset : ∀ e9, (x :: (X ++ [(q, .inl (cs.1, n, .inl f))]) : va_W).set (X.length + 1) (q, e9) = x :: (X ++ [(q, e9)]) := fun e9 => by
    rw [List.set_cons_succ, List.set_append_right _ _ (Nat.le_refl _), Nat.sub_self]
    rfl
  refine va_iast hx hb hK hP hD hS (X.length + 1) 0 hat rfl hin d2 fun H1 locs1 hP1 hD1 hS1 => ?_
  rw [hset, hit] at hP1 hD1
  exact kk H1 locs1 ⟨hP1, hD1, hS1⟩
end CTB
end
section
/-! THE CONSTRUCTORS that make arrays alone -/
theorem dX8_init_0 : decode cX8_init 0 = .ok (.aload_n 0, 1) := by decide +kernel
theorem dX8_init_1 : decode cX8_init 1 = .ok (.invokespecial 3, 3) := by decide +kernel
theorem dX8_init_4 : decode cX8_init 4 = .ok (.aload_n 0, 1) := by decide +kernel
theorem dX8_init_5 : decode cX8_init 5 = .ok (.iconst 5, 1) := by decide +kernel
theorem dX8_init_6 : decode cX8_init 6 = .ok (.newarray .int, 2) := by decide +kernel
theorem dX8_init_8 : decode cX8_init 8 = .ok (.putfield 11, 3) := by decide +kernel
theorem dX8_init_11 : decode cX8_init 11 = .ok (.aload_n 0, 1) := by decide +kernel
theorem dX8_init_12 : decode cX8_init 12 = .ok (.iconst 5, 1) := by decide +kernel
theorem dX8_init_13 : decode cX8_init 13 = .ok (.newarray .int, 2) := by decide +kernel
theorem dX8_init_15 : decode cX8_init 15 = .ok (.putfield 15, 3) := by decide +kernel
theorem dX8_init_18 : decode cX8_init 18 = .ok (.return_, 1) := by decide +kernel
def sw_X8 (cs : tp_CS) (r : Nat → Nat) : va_W := [((r 0), .inr (8, [.ref (r 1), .ref (r 2), .int 0])),
  ((r 1), .inl (cs.1, 5, .inl fun _ => 0)),
  ((r 2), .inl (cs.1, 5, .inl fun _ => 0))]
def sh_X8 (h0 : Nat) (cs : tp_CS) (w : va_W) : Prop := ∃ (r : Nat → Nat), r 0 = h0 ∧ w = sw_X8 cs r
set_option maxHeartbeats 4000000 in
set_option maxRecDepth 100000 in
theorem ctor_X8 (l : Launch) : ct_Met l yX8_init cX8_init 1 1 12 2 10 8 [.null, .null, .int 0] sh_X8 := by
  refine ct_of (by decide +kernel) rfl (by decide) fun p e s m args below meth c D cs A h0 ls Q Z hin h00 hl hW ret => ?_
  refine ct_obj Z h00 hl.1 dX8_init_0 dX8_init_1 (tp_gt_in (i := 32) (by decide +kernel)) (tp_gt_in (i := 25) (by decide +kernel)) (tp_gt_in (i := 26) (by decide +kernel)) (Nat.le_of_ble_eq_true rfl) (Nat.le_of_ble_eq_true rfl) ?_
  refine ct_fa Z ct_aki h00 5 (n := 5) (by decide) (by decide) (by decide) (p2 := 6) dX8_init_4 (fun kk => lv_iconst Z.1 Z.2.1 dX8_init_5 (by decide) kk) dX8_init_6 0 11 dX8_init_8 (ci := 8) (T := TX8) (N := 3) rfl (by decide) hin rfl (tp_gt_in (i := 33) (by decide +kernel)) (by decide +kernel) rfl (Nat.le_of_ble_eq_true rfl) (Nat.le_of_ble_eq_true rfl) hW fun q1 H locs hW => ?_
  refine ct_fa Z ct_aki h00 5 (n := 5) (by decide) (by decide) (by decide) (p2 := 13) dX8_init_11 (fun kk => lv_iconst Z.1 Z.2.1 dX8_init_12 (by decide) kk) dX8_init_13 1 15 dX8_init_15 (ci := 8) (T := TX8) (N := 3) rfl (by decide) hin rfl (tp_gt_in (i := 35) (by decide +kernel)) (by decide +kernel) rfl (Nat.le_of_ble_eq_true rfl) (Nat.le_of_ble_eq_true rfl) hW fun q2 H locs hW => ?_
  exact ret 18 _ _ _ _ dX8_init_18 ⟨fun i => [h0, q1, q2].getD i 0, rfl, rfl⟩ hW
theorem dX7_init_0 : decode cX7_init 0 = .ok (.aload_n 0, 1) := by decide +kernel
theorem dX7_init_1 : decode cX7_init 1 = .ok (.invokespecial 3, 3) := by decide +kernel
theorem dX7_init_4 : decode cX7_init 4 = .ok (.aload_n 0, 1) := by decide +kernel
theorem dX7_init_5 : decode cX7_init 5 = .ok (.bipush 16, 2) := by decide +kernel
theorem dX7_init_7 : decode cX7_init 7 = .ok (.newarray .int, 2) := by decide +kernel
theorem dX7_init_9 : decode cX7_init 9 = .ok (.putfield 11, 3) := by decide +kernel
theorem dX7_init_12 : decode cX7_init 12 = .ok (.aload_n 0, 1) := by decide +kernel
theorem dX7_init_13 : decode cX7_init 13 = .ok (.bipush 16, 2) := by decide +kernel
theorem dX7_init_15 : decode cX7_init 15 = .ok (.newarray .boolean, 2) := by decide +kernel
theorem dX7_init_17 : decode cX7_init 17 = .ok (.putfield 15, 3) := by decide +kernel
theorem dX7_init_20 : decode cX7_init 20 = .ok (.aload_n 0, 1) := by decide +kernel
theorem dX7_init_21 : decode cX7_init 21 = .ok (.bipush 16, 2) := by decide +kernel
theorem dX7_init_23 : decode cX7_init 23 = .ok (.newarray .boolean, 2) := by decide +kernel
theorem dX7_init_25 : decode cX7_init 25 = .ok (.putfield 19, 3) := by decide +kernel
theorem dX7_init_28 : decode cX7_init 28 = .ok (.return_, 1) := by decide +kernel
def sw_X7 (cs : tp_CS) (r : Nat → Nat) : va_W := [((r 0), .inr (7, [.ref (r 1), .ref (r 2), .ref (r 3), .int 0])),
  ((r 1), .inl (cs.1, 16, .inl fun _ => 0)),
  ((r 2), .inl (cs.2.2.1, 16, .inl fun _ => 0)),
  ((r 3), .inl (cs.2.2.1, 16, .inl fun _ => 0))]
def sh_X7 (h0 : Nat) (cs : tp_CS) (w : va_W) : Prop := ∃ (r : Nat → Nat), r 0 = h0 ∧ w = sw_X7 cs r
set_option maxHeartbeats 4000000 in
set_option maxRecDepth 100000 in
theorem ctor_X7 (l : Launch) : ct_Met l yX7_init cX7_init 1 1 12 3 48 7 [.null, .null, .null, .int 0] sh_X7 := by
  refine ct_of (by decide +kernel) rfl (by decide) fun p e s m args below meth c D cs A h0 ls Q Z hin h00 hl hW ret => ?_
  refine ct_obj Z h00 hl.1 dX7_init_0 dX7_init_1 (tp_gt_in (i := 67) (by decide +kernel)) (tp_gt_in (i := 25) (by decide +kernel)) (tp_gt_in (i := 26) (by decide +kernel)) (Nat.le_of_ble_eq_true rfl) (Nat.le_of_ble_eq_true rfl) ?_
  refine ct_fa Z ct_aki h00 16 (n := 16) (by decide) (by decide) (by decide) (p2 := 7) dX7_init_4 (fun kk => lv_bipush Z.1 Z.2.1 dX7_init_5 (by decide) kk) dX7_init_7 0 11 dX7_init_9 (ci := 7) (T := TX7) (N := 4) rfl (by decide) hin rfl (tp_gt_in (i := 68) (by decide +kernel)) (by decide +kernel) rfl (Nat.le_of_ble_eq_true rfl) (Nat.le_of_ble_eq_true rfl) hW fun q1 H locs hW => ?_
  refine ct_fa Z ct_akz h00 16 (n := 16) (by decide) (by decide) (by decide) (p2 := 15) dX7_init_12 (fun kk => lv_bipush Z.1 Z.2.1 dX7_init_13 (by decide) kk) dX7_init_15 1 15 dX7_init_17 (ci := 7) (T := TX7) (N := 4) rfl (by decide) hin rfl (tp_gt_in (i := 70) (by decide +kernel)) (by decide +kernel) rfl (Nat.le_of_ble_eq_true rfl) (Nat.le_of_ble_eq_true rfl) hW fun q2 H locs hW => ?_
  refine ct_fa Z ct_akz h00 16 (n := 16) (by decide) (by decide) (by decide) (p2 := 23) dX7_init_20 (fun kk => lv_bipush Z.1 Z.2.1 dX7_init_21 (by decide) kk) dX7_init_23 2 19 dX7_init_25 (ci := 7) (T := TX7) (N := 4) rfl (by decide) hin rfl (tp_gt_in (i := 72) (by decide +kernel)) (by decide +kernel) rfl (Nat.le_of_ble_eq_true rfl) (Nat.le_of_ble_eq_true rfl) hW fun q3 H locs hW => ?_
  exact ret 28 _ _ _ _ dX7_init_28 ⟨fun i => [h0, q1, q2, q3].getD i 0, rfl, rfl⟩ hW
theorem dX4_init_0 : decode cX4_init 0 = .ok (.aload_n 0, 1) := by decide +kernel
theorem dX4_init_1 : decode cX4_init 1 = .ok (.invokespecial 1, 3) := by decide +kernel
theorem dX4_init_4 : decode cX4_init 4 = .ok (.aload_n 0, 1) := by decide +kernel
theorem dX4_init_5 : decode cX4_init 5 = .ok (.sipush 200, 3) := by decide +kernel
theorem dX4_init_8 : decode cX4_init 8 = .ok (.newarray .int, 2) := by decide +kernel
theorem dX4_init_10 : decode cX4_init 10 = .ok (.putfield 9, 3) := by decide +kernel
theorem dX4_init_13 : decode cX4_init 13 = .ok (.aload_n 0, 1) := by decide +kernel
theorem dX4_init_14 : decode cX4_init 14 = .ok (.sipush 200, 3) := by decide +kernel
theorem dX4_init_17 : decode cX4_init 17 = .ok (.newarray .int, 2) := by decide +kernel
theorem dX4_init_19 : decode cX4_init 19 = .ok (.putfield 13, 3) := by decide +kernel
theorem dX4_init_22 : decode cX4_init 22 = .ok (.aload_n 0, 1) := by decide +kernel
theorem dX4_init_23 : decode cX4_init 23 = .ok (.sipush 200, 3) := by decide +kernel
theorem dX4_init_26 : decode cX4_init 26 = .ok (.newarray .int, 2) := by decide +kernel
theorem dX4_init_28 : decode cX4_init 28 = .ok (.putfield 16, 3) := by decide +kernel
theorem dX4_init_31 : decode cX4_init 31 = .ok (.aload_n 0, 1) := by decide +kernel
theorem dX4_init_32 : decode cX4_init 32 = .ok (.sipush 200, 3) := by decide +kernel
theorem dX4_init_35 : decode cX4_init 35 = .ok (.newarray .int, 2) := by decide +kernel
theorem dX4_init_37 : decode cX4_init 37 = .ok (.putfield 19, 3) := by decide +kernel
theorem dX4_init_40 : decode cX4_init 40 = .ok (.return_, 1) := by decide +kernel
def sw_X4 (cs : tp_CS) (r : Nat → Nat) : va_W := [((r 0), .inr (4, [.ref (r 1), .ref (r 2), .ref (r 3), .ref (r 4), .int 0])),
  ((r 1), .inl (cs.1, 200, .inl fun _ => 0)),
  ((r 2), .inl (cs.1, 200, .inl fun _ => 0)),
  ((r 3), .inl (cs.1, 200, .inl fun _ => 0)),
  ((r 4), .inl (cs.1, 200, .inl fun _ => 0))]
def sh_X4 (h0 : Nat) (cs : tp_CS) (w : va_W) : Prop := ∃ (r : Nat → Nat), r 0 = h0 ∧ w = sw_X4 cs r
set_option maxHeartbeats 4000000 in
set_option maxRecDepth 100000 in
theorem ctor_X4 (l : Launch) : ct_Met l yX4_init cX4_init 1 1 12 4 800 4 [.null, .null, .null, .null, .int 0] sh_X4 := by
  refine ct_of (by decide +kernel) rfl (by decide) fun p e s m args below meth c D cs A h0 ls Q Z hin h00 hl hW ret => ?_
  refine ct_obj Z h00 hl.1 dX4_init_0 dX4_init_1 (tp_gt_in (i := 90) (by decide +kernel)) (tp_gt_in (i := 25) (by decide +kernel)) (tp_gt_in (i := 26) (by decide +kernel)) (Nat.le_of_ble_eq_true rfl) (Nat.le_of_ble_eq_true rfl) ?_
  refine ct_fa Z ct_aki h00 200 (n := 200) (by decide) (by decide) (by decide) (p2 := 8) dX4_init_4 (fun kk => lv_sipush Z.1 Z.2.1 dX4_init_5 (by decide) kk) dX4_init_8 0 9 dX4_init_10 (ci := 4) (T := TX4) (N := 5) rfl (by decide) hin rfl (tp_gt_in (i := 91) (by decide +kernel)) (by decide +kernel) rfl (Nat.le_of_ble_eq_true rfl) (Nat.le_of_ble_eq_true rfl) hW fun q1 H locs hW => ?_
  refine ct_fa Z ct_aki h00 200 (n := 200) (by decide) (by decide) (by decide) (p2 := 17) dX4_init_13 (fun kk => lv_sipush Z.1 Z.2.1 dX4_init_14 (by decide) kk) dX4_init_17 1 13 dX4_init_19 (ci := 4) (T := TX4) (N := 5) rfl (by decide) hin rfl (tp_gt_in (i := 93) (by decide +kernel)) (by decide +kernel) rfl (Nat.le_of_ble_eq_true rfl) (Nat.le_of_ble_eq_true rfl) hW fun q2 H locs hW => ?_
  refine ct_fa Z ct_aki h00 200 (n := 200) (by decide) (by decide) (by decide) (p2 := 26) dX4_init_22 (fun kk => lv_sipush Z.1 Z.2.1 dX4_init_23 (by decide) kk) dX4_init_26 2 16 dX4_init_28 (ci := 4) (T := TX4) (N := 5) rfl (by decide) hin rfl (tp_gt_in (i := 95) (by decide +kernel)) (by decide +kernel) rfl (Nat.le_of_ble_eq_true rfl) (Nat.le_of_ble_eq_true rfl) hW fun q3 H locs hW => ?_
  refine ct_fa Z ct_aki h00 200 (n := 200) (by decide) (by decide) (by decide) (p2 := 35) dX4_init_31 (fun kk => lv_sipush Z.1 Z.2.1 dX4_init_32 (by decide) kk) dX4_init_35 3 19 dX4_init_37 (ci := 4) (T := TX4) (N := 5) rfl (by decide) hin rfl (tp_gt_in (i := 97) (by decide +kernel)) (by decide +kernel) rfl (Nat.le_of_ble_eq_true rfl) (Nat.le_of_ble_eq_true rfl) hW fun q4 H locs hW => ?_
  exact ret 40 _ _ _ _ dX4_init_40 ⟨fun i => [h0, q1, q2, q3, q4].getD i 0, rfl, rfl⟩ hW
theorem dX5_init_0 : decode cX5_init 0 = .ok (.aload_n 0, 1) := by decide +kernel
theorem dX5_init_1 : decode cX5_init 1 = .ok (.invokespecial 1, 3) := by decide +kernel
theorem dX5_init_4 : decode cX5_init 4 = .ok (.aload_n 0, 1) := by decide +kernel
theorem dX5_init_5 : decode cX5_init 5 = .ok (.bipush 64, 2) := by decide +kernel
theorem dX5_init_7 : decode cX5_init 7 = .ok (.newarray .int, 2) := by decide +kernel
theorem dX5_init_9 : decode cX5_init 9 = .ok (.putfield 9, 3) := by decide +kernel
theorem dX5_init_12 : decode cX5_init 12 = .ok (.aload_n 0, 1) := by decide +kernel
theorem dX5_init_13 : decode cX5_init 13 = .ok (.iconst (-1), 1) := by decide +kernel
theorem dX5_init_14 : decode cX5_init 14 = .ok (.putfield 13, 3) := by decide +kernel
theorem dX5_init_17 : decode cX5_init 17 = .ok (.return_, 1) := by decide +kernel
def sw_X5 (cs : tp_CS) (r : Nat → Nat) : va_W := [((r 0), .inr (5, [.ref (r 1), .int 0, .int (-1)])),
  ((r 1), .inl (cs.1, 64, .inl fun _ => 0))]
def sh_X5 (h0 : Nat) (cs : tp_CS) (w : va_W) : Prop := ∃ (r : Nat → Nat), r 0 = h0 ∧ w = sw_X5 cs r
set_option maxHeartbeats 4000000 in
set_option maxRecDepth 100000 in
theorem ctor_X5 (l : Launch) : ct_Met l yX5_init cX5_init 1 1 12 1 64 5 [.null, .int 0, .int 0] sh_X5 := by
  refine ct_of (by decide +kernel) rfl (by decide) fun p e s m args below meth c D cs A h0 ls Q Z hin h00 hl hW ret => ?_
  refine ct_obj Z h00 hl.1 dX5_init_0 dX5_init_1 (tp_gt_in (i := 118) (by decide +kernel)) (tp_gt_in (i := 25) (by decide +kernel)) (tp_gt_in (i := 26) (by decide +kernel)) (Nat.le_of_ble_eq_true rfl) (Nat.le_of_ble_eq_true rfl) ?_
  refine ct_fa Z ct_aki h00 64 (n := 64) (by decide) (by decide) (by decide) (p2 := 7) dX5_init_4 (fun kk => lv_bipush Z.1 Z.2.1 dX5_init_5 (by decide) kk) dX5_init_7 0 9 dX5_init_9 (ci := 5) (T := TX5) (N := 3) rfl (by decide) hin rfl (tp_gt_in (i := 119) (by decide +kernel)) (by decide +kernel) rfl (Nat.le_of_ble_eq_true rfl) (Nat.le_of_ble_eq_true rfl) hW fun q1 H locs hW => ?_
  refine ct_fi Z h00 (-1) (p2 := 14) dX5_init_12 (fun kk => lv_iconst Z.1 Z.2.1 dX5_init_13 (by decide) kk) 2 13 dX5_init_14 (ci := 5) (T := TX5) (N := 3) rfl (by decide) hin rfl (tp_gt_in (i := 120) (by decide +kernel)) (by decide +kernel) rfl hW fun H locs hW => ?_
  exact ret 17 _ _ _ _ dX5_init_17 ⟨fun i => [h0, q1].getD i 0, rfl, rfl⟩ hW
theorem dX6_init_0 : decode cX6_init 0 = .ok (.aload_n 0, 1) := by decide +kernel
theorem dX6_init_1 : decode cX6_init 1 = .ok (.invokespecial 3, 3) := by decide +kernel
theorem dX6_init_4 : decode cX6_init 4 = .ok (.aload_n 0, 1) := by decide +kernel
theorem dX6_init_5 : decode cX6_init 5 = .ok (.sipush 200, 3) := by decide +kernel
theorem dX6_init_8 : decode cX6_init 8 = .ok (.newarray .byte, 2) := by decide +kernel
theorem dX6_init_10 : decode cX6_init 10 = .ok (.putfield 11, 3) := by decide +kernel
theorem dX6_init_13 : decode cX6_init 13 = .ok (.return_, 1) := by decide +kernel
def sw_X6 (cs : tp_CS) (r : Nat → Nat) : va_W := [((r 0), .inr (6, [.ref (r 1), .int 0, .int 0, .int 0, .int 0])),
  ((r 1), .inl (cs.2.1, 200, .inl fun _ => 0))]
def sh_X6 (h0 : Nat) (cs : tp_CS) (w : va_W) : Prop := ∃ (r : Nat → Nat), r 0 = h0 ∧ w = sw_X6 cs r
set_option maxHeartbeats 4000000 in
set_option maxRecDepth 100000 in
theorem ctor_X6 (l : Launch) : ct_Met l yX6_init cX6_init 1 1 12 1 200 6 [.null, .int 0, .int 0, .int 0, .int 0] sh_X6 := by
  refine ct_of (by decide +kernel) rfl (by decide) fun p e s m args below meth c D cs A h0 ls Q Z hin h00 hl hW ret => ?_
  refine ct_obj Z h00 hl.1 dX6_init_0 dX6_init_1 (tp_gt_in (i := 139) (by decide +kernel)) (tp_gt_in (i := 25) (by decide +kernel)) (tp_gt_in (i := 26) (by decide +kernel)) (Nat.le_of_ble_eq_true rfl) (Nat.le_of_ble_eq_true rfl) ?_
  refine ct_fa Z ct_akb h00 200 (n := 200) (by decide) (by decide) (by decide) (p2 := 8) dX6_init_4 (fun kk => lv_sipush Z.1 Z.2.1 dX6_init_5 (by decide) kk) dX6_init_8 0 11 dX6_init_10 (ci := 6) (T := TX6) (N := 5) rfl (by decide) hin rfl (tp_gt_in (i := 140) (by decide +kernel)) (by decide +kernel) rfl (Nat.le_of_ble_eq_true rfl) (Nat.le_of_ble_eq_true rfl) hW fun q1 H locs hW => ?_
  exact ret 13 _ _ _ _ dX6_init_13 ⟨fun i => [h0, q1].getD i 0, rfl, rfl⟩ hW
theorem dX1_init_0 : decode cX1_init 0 = .ok (.aload_n 0, 1) := by decide +kernel
theorem dX1_init_1 : decode cX1_init 1 = .ok (.invokespecial 3, 3) := by decide +kernel
theorem dX1_init_4 : decode cX1_init 4 = .ok (.aload_n 0, 1) := by decide +kernel
theorem dX1_init_5 : decode cX1_init 5 = .ok (.bipush 9, 2) := by decide +kernel
theorem dX1_init_7 : decode cX1_init 7 = .ok (.newarray .int, 2) := by decide +kernel
theorem dX1_init_9 : decode cX1_init 9 = .ok (.putfield 11, 3) := by decide +kernel
theorem dX1_init_12 : decode cX1_init 12 = .ok (.aload_n 0, 1) := by decide +kernel
theorem dX1_init_13 : decode cX1_init 13 = .ok (.bipush 9, 2) := by decide +kernel
theorem dX1_init_15 : decode cX1_init 15 = .ok (.newarray .int, 2) := by decide +kernel
theorem dX1_init_17 : decode cX1_init 17 = .ok (.putfield 15, 3) := by decide +kernel
theorem dX1_init_20 : decode cX1_init 20 = .ok (.aload_n 0, 1) := by decide +kernel
theorem dX1_init_21 : decode cX1_init 21 = .ok (.iconst 4, 1) := by decide +kernel
theorem dX1_init_22 : decode cX1_init 22 = .ok (.newarray .int, 2) := by decide +kernel
theorem dX1_init_24 : decode cX1_init 24 = .ok (.putfield 18, 3) := by decide +kernel
theorem dX1_init_27 : decode cX1_init 27 = .ok (.aload_n 0, 1) := by decide +kernel
theorem dX1_init_28 : decode cX1_init 28 = .ok (.iconst 4, 1) := by decide +kernel
theorem dX1_init_29 : decode cX1_init 29 = .ok (.newarray .int, 2) := by decide +kernel
theorem dX1_init_31 : decode cX1_init 31 = .ok (.putfield 21, 3) := by decide +kernel
theorem dX1_init_34 : decode cX1_init 34 = .ok (.aload_n 0, 1) := by decide +kernel
theorem dX1_init_35 : decode cX1_init 35 = .ok (.iconst 4, 1) := by decide +kernel
theorem dX1_init_36 : decode cX1_init 36 = .ok (.newarray .int, 2) := by decide +kernel
theorem dX1_init_38 : decode cX1_init 38 = .ok (.putfield 24, 3) := by decide +kernel
theorem dX1_init_41 : decode cX1_init 41 = .ok (.aload_n 0, 1) := by decide +kernel
theorem dX1_init_42 : decode cX1_init 42 = .ok (.iconst (-1), 1) := by decide +kernel
theorem dX1_init_43 : decode cX1_init 43 = .ok (.putfield 27, 3) := by decide +kernel
theorem dX1_init_46 : decode cX1_init 46 = .ok (.return_, 1) := by decide +kernel
def sw_X1 (cs : tp_CS) (r : Nat → Nat) : va_W := [((r 0), .inr (1, [.ref (r 1), .ref (r 2), .ref (r 3), .ref (r 4), .ref (r 5), .int 0, .int 0, .int (-1)])),
  ((r 1), .inl (cs.1, 9, .inl fun _ => 0)),
  ((r 2), .inl (cs.1, 9, .inl fun _ => 0)),
  ((r 3), .inl (cs.1, 4, .inl fun _ => 0)),
  ((r 4), .inl (cs.1, 4, .inl fun _ => 0)),
  ((r 5), .inl (cs.1, 4, .inl fun _ => 0))]
def sh_X1 (h0 : Nat) (cs : tp_CS) (w : va_W) : Prop := ∃ (r : Nat → Nat), r 0 = h0 ∧ w = sw_X1 cs r
set_option maxHeartbeats 4000000 in
set_option maxRecDepth 100000 in
theorem ctor_X1 (l : Launch) : ct_Met l yX1_init cX1_init 1 1 12 5 30 1 [.null, .null, .null, .null, .null, .int 0, .int 0, .int 0] sh_X1 := by
  refine ct_of (by decide +kernel) rfl (by decide) fun p e s m args below meth c D cs A h0 ls Q Z hin h00 hl hW ret => ?_
  refine ct_obj Z h00 hl.1 dX1_init_0 dX1_init_1 (tp_gt_in (i := 158) (by decide +kernel)) (tp_gt_in (i := 25) (by decide +kernel)) (tp_gt_in (i := 26) (by decide +kernel)) (Nat.le_of_ble_eq_true rfl) (Nat.le_of_ble_eq_true rfl) ?_
  refine ct_fa Z ct_aki h00 9 (n := 9) (by decide) (by decide) (by decide) (p2 := 7) dX1_init_4 (fun kk => lv_bipush Z.1 Z.2.1 dX1_init_5 (by decide) kk) dX1_init_7 0 11 dX1_init_9 (ci := 1) (T := TX1) (N := 8) rfl (by decide) hin rfl (tp_gt_in (i := 159) (by decide +kernel)) (by decide +kernel) rfl (Nat.le_of_ble_eq_true rfl) (Nat.le_of_ble_eq_true rfl) hW fun q1 H locs hW => ?_
  refine ct_fa Z ct_aki h00 9 (n := 9) (by decide) (by decide) (by decide) (p2 := 15) dX1_init_12 (fun kk => lv_bipush Z.1 Z.2.1 dX1_init_13 (by decide) kk) dX1_init_15 1 15 dX1_init_17 (ci := 1) (T := TX1) (N := 8) rfl (by decide) hin rfl (tp_gt_in (i := 160) (by decide +kernel)) (by decide +kernel) rfl (Nat.le_of_ble_eq_true rfl) (Nat.le_of_ble_eq_true rfl) hW fun q2 H locs hW => ?_
  refine ct_fa Z ct_aki h00 4 (n := 4) (by decide) (by decide) (by decide) (p2 := 22) dX1_init_20 (fun kk => lv_iconst Z.1 Z.2.1 dX1_init_21 (by decide) kk) dX1_init_22 2 18 dX1_init_24 (ci := 1) (T := TX1) (N := 8) rfl (by decide) hin rfl (tp_gt_in (i := 161) (by decide +kernel)) (by decide +kernel) rfl (Nat.le_of_ble_eq_true rfl) (Nat.le_of_ble_eq_true rfl) hW fun q3 H locs hW => ?_
  refine ct_fa Z ct_aki h00 4 (n := 4) (by decide) (by decide) (by decide) (p2 := 29) dX1_init_27 (fun kk => lv_iconst Z.1 Z.2.1 dX1_init_28 (by decide) kk) dX1_init_29 3 21 dX1_init_31 (ci := 1) (T := TX1) (N := 8) rfl (by decide) hin rfl (tp_gt_in (i := 162) (by decide +kernel)) (by decide +kernel) rfl (Nat.le_of_ble_eq_true rfl) (Nat.le_of_ble_eq_true rfl) hW fun q4 H locs hW => ?_
  refine ct_fa Z ct_aki h00 4 (n := 4) (by decide) (by decide) (by decide) (p2 := 36) dX1_init_34 (fun kk => lv_iconst Z.1 Z.2.1 dX1_init_35 (by decide) kk) dX1_init_36 4 24 dX1_init_38 (ci := 1) (T := TX1) (N := 8) rfl (by decide) hin rfl (tp_gt_in (i := 163) (by decide +kernel)) (by decide +kernel) rfl (Nat.le_of_ble_eq_true rfl) (Nat.le_of_ble_eq_true rfl) hW fun q5 H locs hW => ?_
  refine ct_fi Z h00 (-1) (p2 := 43) dX1_init_41 (fun kk => lv_iconst Z.1 Z.2.1 dX1_init_42 (by decide) kk) 7 27 dX1_init_43 (ci := 1) (T := TX1) (N := 8) rfl (by decide) hin rfl (tp_gt_in (i := 164) (by decide +kernel)) (by decide +kernel) rfl hW fun H locs hW => ?_
  exact ret 46 _ _ _ _ dX1_init_46 ⟨fun i => [h0, q1, q2, q3, q4, q5].getD i 0, rfl, rfl⟩ hW
theorem dX3_init_0 : decode cX3_init 0 = .ok (.aload_n 0, 1) := by decide +kernel
theorem dX3_init_1 : decode cX3_init 1 = .ok (.invokespecial 3, 3) := by decide +kernel
theorem dX3_init_4 : decode cX3_init 4 = .ok (.aload_n 0, 1) := by decide +kernel
theorem dX3_init_5 : decode cX3_init 5 = .ok (.bipush 10, 2) := by decide +kernel
theorem dX3_init_7 : decode cX3_init 7 = .ok (.newarray .int, 2) := by decide +kernel
theorem dX3_init_9 : decode cX3_init 9 = .ok (.putfield 11, 3) := by decide +kernel
theorem dX3_init_12 : decode cX3_init 12 = .ok (.aload_n 0, 1) := by decide +kernel
theorem dX3_init_13 : decode cX3_init 13 = .ok (.bipush 10, 2) := by decide +kernel
theorem dX3_init_15 : decode cX3_init 15 = .ok (.newarray .int, 2) := by decide +kernel
theorem dX3_init_17 : decode cX3_init 17 = .ok (.putfield 15, 3) := by decide +kernel
theorem dX3_init_20 : decode cX3_init 20 = .ok (.aload_n 0, 1) := by decide +kernel
theorem dX3_init_21 : decode cX3_init 21 = .ok (.bipush 10, 2) := by decide +kernel
theorem dX3_init_23 : decode cX3_init 23 = .ok (.newarray .int, 2) := by decide +kernel
theorem dX3_init_25 : decode cX3_init 25 = .ok (.putfield 18, 3) := by decide +kernel
theorem dX3_init_28 : decode cX3_init 28 = .ok (.aload_n 0, 1) := by decide +kernel
theorem dX3_init_29 : decode cX3_init 29 = .ok (.bipush 10, 2) := by decide +kernel
theorem dX3_init_31 : decode cX3_init 31 = .ok (.newarray .int, 2) := by decide +kernel
theorem dX3_init_33 : decode cX3_init 33 = .ok (.putfield 21, 3) := by decide +kernel
theorem dX3_init_36 : decode cX3_init 36 = .ok (.aload_n 0, 1) := by decide +kernel
theorem dX3_init_37 : decode cX3_init 37 = .ok (.bipush 30, 2) := by decide +kernel
theorem dX3_init_39 : decode cX3_init 39 = .ok (.putfield 24, 3) := by decide +kernel
theorem dX3_init_42 : decode cX3_init 42 = .ok (.return_, 1) := by decide +kernel
def sw_X3 (cs : tp_CS) (r : Nat → Nat) : va_W := [((r 0), .inr (3, [.ref (r 1), .ref (r 2), .ref (r 3), .ref (r 4), .int 0, .int 0, .int 30])),
  ((r 1), .inl (cs.1, 10, .inl fun _ => 0)),
  ((r 2), .inl (cs.1, 10, .inl fun _ => 0)),
  ((r 3), .inl (cs.1, 10, .inl fun _ => 0)),
  ((r 4), .inl (cs.1, 10, .inl fun _ => 0))]
def sh_X3 (h0 : Nat) (cs : tp_CS) (w : va_W) : Prop := ∃ (r : Nat → Nat), r 0 = h0 ∧ w = sw_X3 cs r
set_option maxHeartbeats 4000000 in
set_option maxRecDepth 100000 in
theorem ctor_X3 (l : Launch) : ct_Met l yX3_init cX3_init 1 1 12 4 40 3 [.null, .null, .null, .null, .int 0, .int 0, .int 0] sh_X3 := by
  refine ct_of (by decide +kernel) rfl (by decide) fun p e s m args below meth c D cs A h0 ls Q Z hin h00 hl hW ret => ?_
  refine ct_obj Z h00 hl.1 dX3_init_0 dX3_init_1 (tp_gt_in (i := 206) (by decide +kernel)) (tp_gt_in (i := 25) (by decide +kernel)) (tp_gt_in (i := 26) (by decide +kernel)) (Nat.le_of_ble_eq_true rfl) (Nat.le_of_ble_eq_true rfl) ?_
  refine ct_fa Z ct_aki h00 10 (n := 10) (by decide) (by decide) (by decide) (p2 := 7) dX3_init_4 (fun kk => lv_bipush Z.1 Z.2.1 dX3_init_5 (by decide) kk) dX3_init_7 0 11 dX3_init_9 (ci := 3) (T := TX3) (N := 7) rfl (by decide) hin rfl (tp_gt_in (i := 207) (by decide +kernel)) (by decide +kernel) rfl (Nat.le_of_ble_eq_true rfl) (Nat.le_of_ble_eq_true rfl) hW fun q1 H locs hW => ?_
  refine ct_fa Z ct_aki h00 10 (n := 10) (by decide) (by decide) (by decide) (p2 := 15) dX3_init_12 (fun kk => lv_bipush Z.1 Z.2.1 dX3_init_13 (by decide) kk) dX3_init_15 1 15 dX3_init_17 (ci := 3) (T := TX3) (N := 7) rfl (by decide) hin rfl (tp_gt_in (i := 208) (by decide +kernel)) (by decide +kernel) rfl (Nat.le_of_ble_eq_true rfl) (Nat.le_of_ble_eq_true rfl) hW fun q2 H locs hW => ?_
  refine ct_fa Z ct_aki h00 10 (n := 10) (by decide) (by decide) (by decide) (p2 := 23) dX3_init_20 (fun kk => lv_bipush Z.1 Z.2.1 dX3_init_21 (by decide) kk) dX3_init_23 2 18 dX3_init_25 (ci := 3) (T := TX3) (N := 7) rfl (by decide) hin rfl (tp_gt_in (i := 209) (by decide +kernel)) (by decide +kernel) rfl (Nat.le_of_ble_eq_true rfl) (Nat.le_of_ble_eq_true rfl) hW fun q3 H locs hW => ?_
  refine ct_fa Z ct_aki h00 10 (n := 10) (by decide) (by decide) (by decide) (p2 := 31) dX3_init_28 (fun kk => lv_bipush Z.1 Z.2.1 dX3_init_29 (by decide) kk) dX3_init_31 3 21 dX3_init_33 (ci := 3) (T := TX3) (N := 7) rfl (by decide) hin rfl (tp_gt_in (i := 210) (by decide +kernel)) (by decide +kernel) rfl (Nat.le_of_ble_eq_true rfl) (Nat.le_of_ble_eq_true rfl) hW fun q4 H locs hW => ?_
  refine ct_fi Z h00 30 (p2 := 39) dX3_init_36 (fun kk => lv_bipush Z.1 Z.2.1 dX3_init_37 (by decide) kk) 6 24 dX3_init_39 (ci := 3) (T := TX3) (N := 7) rfl (by decide) hin rfl (tp_gt_in (i := 211) (by decide +kernel)) (by decide +kernel) rfl hW fun H locs hW => ?_
  exact ret 42 _ _ _ _ dX3_init_42 ⟨fun i => [h0, q1, q2, q3, q4].getD i 0, rfl, rfl⟩ hW
end
section
/-! the constructors of Packs and LawBook -/
theorem dX2_init_0 : decode cX2_init 0 = .ok (.aload_n 0, 1) := by decide +kernel
theorem dX2_init_1 : decode cX2_init 1 = .ok (.invokespecial 3, 3) := by decide +kernel
theorem dX2_init_4 : decode cX2_init 4 = .ok (.aload_n 0, 1) := by decide +kernel
theorem dX2_init_5 : decode cX2_init 5 = .ok (.bipush 6, 2) := by decide +kernel
theorem dX2_init_7 : decode cX2_init 7 = .ok (.iconst 5, 1) := by decide +kernel
theorem dX2_init_8 : decode cX2_init 8 = .ok (.multianewarray 11 2, 4) := by decide +kernel
theorem dX2_init_12 : decode cX2_init 12 = .ok (.putfield 13, 3) := by decide +kernel
theorem dX2_init_15 : decode cX2_init 15 = .ok (.aload_n 0, 1) := by decide +kernel
theorem dX2_init_16 : decode cX2_init 16 = .ok (.bipush 6, 2) := by decide +kernel
theorem dX2_init_18 : decode cX2_init 18 = .ok (.iconst 5, 1) := by decide +kernel
theorem dX2_init_19 : decode cX2_init 19 = .ok (.multianewarray 11 2, 4) := by decide +kernel
theorem dX2_init_23 : decode cX2_init 23 = .ok (.putfield 18, 3) := by decide +kernel
theorem dX2_init_26 : decode cX2_init 26 = .ok (.return_, 1) := by decide +kernel
def sw_X2 (cs : tp_CS) (r : Nat → Nat) (u v : Nat → Nat) : va_W := [((r 0), .inr (2, [.ref (r 1), .ref (r 2)])),
  ((r 1), .inl (cs.2.2.2.2, 6, .inr (.inr (.inr (.inr (fun i => if i < 6 then some (u i) else none)))))),
  ((u 0), .inl (cs.1, 5, .inl fun _ => 0)),
  ((u 1), .inl (cs.1, 5, .inl fun _ => 0)),
  ((u 2), .inl (cs.1, 5, .inl fun _ => 0)),
  ((u 3), .inl (cs.1, 5, .inl fun _ => 0)),
  ((u 4), .inl (cs.1, 5, .inl fun _ => 0)),
  ((u 5), .inl (cs.1, 5, .inl fun _ => 0)),
  ((r 2), .inl (cs.2.2.2.2, 6, .inr (.inr (.inr (.inr (fun i => if i < 6 then some (v i) else none)))))),
  ((v 0), .inl (cs.1, 5, .inl fun _ => 0)),
  ((v 1), .inl (cs.1, 5, .inl fun _ => 0)),
  ((v 2), .inl (cs.1, 5, .inl fun _ => 0)),
  ((v 3), .inl (cs.1, 5, .inl fun _ => 0)),
  ((v 4), .inl (cs.1, 5, .inl fun _ => 0)),
  ((v 5), .inl (cs.1, 5, .inl fun _ => 0))]
def sh_X2 (h0 : Nat) (cs : tp_CS) (w : va_W) : Prop := ∃ (r u v : Nat → Nat), r 0 = h0 ∧ w = sw_X2 cs r u v
set_option maxHeartbeats 4000000 in
set_option maxRecDepth 100000 in
theorem ctor_X2 (l : Launch) : ct_Met l yX2_init cX2_init 1 1 12 14 72 2 [.null, .null] sh_X2 := by
  refine ct_of (by decide +kernel) rfl (by decide) fun p e s m args below meth c D cs A h0 ls Q Z hin h00 hl hW ret => ?_
  refine ct_obj Z h00 hl.1 dX2_init_0 dX2_init_1 (tp_gt_in (i := 51) (by decide +kernel)) (tp_gt_in (i := 25) (by decide +kernel)) (tp_gt_in (i := 26) (by decide +kernel)) (Nat.le_of_ble_eq_true rfl) (Nat.le_of_ble_eq_true rfl) ?_
  refine ct_fm Z h00 6 5 (n := 6) (n2 := 5) (by decide) (by decide) (by decide) (by decide) (by decide) (by decide) (p2 := 8) 11 (tp_gt_in (i := 52) (by decide +kernel)) dX2_init_4 (fun kk => lv_bipush Z.1 Z.2.1 dX2_init_5 (by decide) (lv_iconst Z.1 Z.2.1 dX2_init_7 (by decide) kk)) dX2_init_8 0 13 dX2_init_12 (ci := 2) (T := TX2) (N := 2) rfl (by decide) hin rfl (tp_gt_in (i := 54) (by decide +kernel)) (by decide +kernel) rfl (Nat.le_of_ble_eq_true rfl) (Nat.le_of_ble_eq_true rfl) hW fun q1 w1 H locs hW => ?_
  refine ct_fm Z h00 6 5 (n := 6) (n2 := 5) (by decide) (by decide) (by decide) (by decide) (by decide) (by decide) (p2 := 19) 11 (tp_gt_in (i := 52) (by decide +kernel)) dX2_init_15 (fun kk => lv_bipush Z.1 Z.2.1 dX2_init_16 (by decide) (lv_iconst Z.1 Z.2.1 dX2_init_18 (by decide) kk)) dX2_init_19 1 18 dX2_init_23 (ci := 2) (T := TX2) (N := 2) rfl (by decide) hin rfl (tp_gt_in (i := 56) (by decide +kernel)) (by decide +kernel) rfl (Nat.le_of_ble_eq_true rfl) (Nat.le_of_ble_eq_true rfl) hW fun q2 w2 H locs hW => ?_
  exact ret 26 _ _ _ _ dX2_init_26 ⟨fun i => [h0, q1, q2].getD i 0, w1, w2, rfl, rfl⟩ hW
theorem dX0_init_0 : decode cX0_init 0 = .ok (.aload_n 0, 1) := by decide +kernel
theorem dX0_init_1 : decode cX0_init 1 = .ok (.invokespecial 3, 3) := by decide +kernel
theorem dX0_init_4 : decode cX0_init 4 = .ok (.aload_n 0, 1) := by decide +kernel
theorem dX0_init_5 : decode cX0_init 5 = .ok (.new 9, 3) := by decide +kernel
theorem dX0_init_8 : decode cX0_init 8 = .ok (.dup, 1) := by decide +kernel
theorem dX0_init_9 : decode cX0_init 9 = .ok (.invokespecial 11, 3) := by decide +kernel
theorem dX0_init_12 : decode cX0_init 12 = .ok (.putfield 12, 3) := by decide +kernel
theorem dX0_init_15 : decode cX0_init 15 = .ok (.aload_n 0, 1) := by decide +kernel
theorem dX0_init_16 : decode cX0_init 16 = .ok (.new 18, 3) := by decide +kernel
theorem dX0_init_19 : decode cX0_init 19 = .ok (.dup, 1) := by decide +kernel
theorem dX0_init_20 : decode cX0_init 20 = .ok (.invokespecial 20, 3) := by decide +kernel
theorem dX0_init_23 : decode cX0_init 23 = .ok (.putfield 21, 3) := by decide +kernel
theorem dX0_init_26 : decode cX0_init 26 = .ok (.aload_n 0, 1) := by decide +kernel
theorem dX0_init_27 : decode cX0_init 27 = .ok (.new 18, 3) := by decide +kernel
theorem dX0_init_30 : decode cX0_init 30 = .ok (.dup, 1) := by decide +kernel
theorem dX0_init_31 : decode cX0_init 31 = .ok (.invokespecial 20, 3) := by decide +kernel
theorem dX0_init_34 : decode cX0_init 34 = .ok (.putfield 25, 3) := by decide +kernel
theorem dX0_init_37 : decode cX0_init 37 = .ok (.aload_n 0, 1) := by decide +kernel
theorem dX0_init_38 : decode cX0_init 38 = .ok (.iconst 3, 1) := by decide +kernel
theorem dX0_init_39 : decode cX0_init 39 = .ok (.newarray .int, 2) := by decide +kernel
theorem dX0_init_41 : decode cX0_init 41 = .ok (.putfield 28, 3) := by decide +kernel
theorem dX0_init_44 : decode cX0_init 44 = .ok (.return_, 1) := by decide +kernel
def sw_X0 (cs : tp_CS) (r : Nat → Nat) : va_W := [((r 0), .inr (0, [.ref (r 1), .ref (r 3), .int 0, .ref (r 9), .ref (r 15), .int 0, .int 0])),
  ((r 1), .inr (6, [.ref (r 2), .int 0, .int 0, .int 0, .int 0])),
  ((r 2), .inl (cs.2.1, 200, .inl fun _ => 0)),
  ((r 3), .inr (1, [.ref (r 4), .ref (r 5), .ref (r 6), .ref (r 7), .ref (r 8), .int 0, .int 0, .int (-1)])),
  ((r 4), .inl (cs.1, 9, .inl fun _ => 0)),
  ((r 5), .inl (cs.1, 9, .inl fun _ => 0)),
  ((r 6), .inl (cs.1, 4, .inl fun _ => 0)),
  ((r 7), .inl (cs.1, 4, .inl fun _ => 0)),
  ((r 8), .inl (cs.1, 4, .inl fun _ => 0)),
  ((r 9), .inr (1, [.ref (r 10), .ref (r 11), .ref (r 12), .ref (r 13), .ref (r 14), .int 0, .int 0, .int (-1)])),
  ((r 10), .inl (cs.1, 9, .inl fun _ => 0)),
  ((r 11), .inl (cs.1, 9, .inl fun _ => 0)),
  ((r 12), .inl (cs.1, 4, .inl fun _ => 0)),
  ((r 13), .inl (cs.1, 4, .inl fun _ => 0)),
  ((r 14), .inl (cs.1, 4, .inl fun _ => 0)),
  ((r 15), .inl (cs.1, 3, .inl fun _ => 0))]
def sh_X0 (h0 : Nat) (cs : tp_CS) (w : va_W) : Prop := ∃ (r : Nat → Nat), r 0 = h0 ∧ w = sw_X0 cs r
set_option maxHeartbeats 4000000 in
set_option maxRecDepth 100000 in
theorem ctor_X0 (l : Launch) : ct_Met l yX0_init cX0_init 1 2 32 15 284 0 [.null, .null, .int 0, .null, .null, .int 0, .int 0] sh_X0 := by
  refine ct_of (by decide +kernel) rfl (by decide) fun p e s m args below meth c D cs A h0 ls Q Z hin h00 hl hW ret => ?_
  refine ct_obj Z h00 hl.1 dX0_init_0 dX0_init_1 (tp_gt_in (i := 133) (by decide +kernel)) (tp_gt_in (i := 25) (by decide +kernel)) (tp_gt_in (i := 26) (by decide +kernel)) (Nat.le_of_ble_eq_true rfl) (Nat.le_of_ble_eq_true rfl) ?_
  refine ct_fo Z h00 (ctor_X6 l) 9 11 (C' := RX6) (T' := TX6) (N' := 5) rfl (ty0 := tyX6) tyX6_ok (by decide +kernel) (tp_gt_in (i := 134) (by decide +kernel)) (tp_gt_in (i := 135) (by decide +kernel)) (tp_gt_in (i := 15) (by decide +kernel)) rfl ⟨by decide +kernel, by decide +kernel⟩ (tp_gt_in (i := 137) (by decide +kernel)) (tp_gt_in (i := 138) (by decide +kernel)) (by decide +kernel) ⟨(Nat.le_of_ble_eq_true rfl), (Nat.le_of_ble_eq_true rfl)⟩ (Nat.le_of_ble_eq_true rfl) (Nat.le_of_ble_eq_true rfl) hl.1 dX0_init_4 dX0_init_5 dX0_init_8 dX0_init_9 0 12 dX0_init_12 (ci := 0) (T := TX0) (N := 7) rfl (by decide) hin rfl (tp_gt_in (i := 182) (by decide +kernel)) (by decide +kernel) rfl hW fun q w H locs hS hW => ?_
  obtain ⟨r1, rfl, rfl⟩ := hS
  refine ct_fo Z h00 (ctor_X1 l) 18 20 (C' := RX1) (T' := TX1) (N' := 8) rfl (ty0 := tyX1) tyX1_ok (by decide +kernel) (tp_gt_in (i := 153) (by decide +kernel)) (tp_gt_in (i := 154) (by decide +kernel)) (tp_gt_in (i := 16) (by decide +kernel)) rfl ⟨by decide +kernel, by decide +kernel⟩ (tp_gt_in (i := 156) (by decide +kernel)) (tp_gt_in (i := 157) (by decide +kernel)) (by decide +kernel) ⟨(Nat.le_of_ble_eq_true rfl), (Nat.le_of_ble_eq_true rfl)⟩ (Nat.le_of_ble_eq_true rfl) (Nat.le_of_ble_eq_true rfl) hl.1 dX0_init_15 dX0_init_16 dX0_init_19 dX0_init_20 1 21 dX0_init_23 (ci := 0) (T := TX0) (N := 7) rfl (by decide) hin rfl (tp_gt_in (i := 183) (by decide +kernel)) (by decide +kernel) rfl hW fun q w H locs hS hW => ?_
  obtain ⟨r2, rfl, rfl⟩ := hS
  refine ct_fo Z h00 (ctor_X1 l) 18 20 (C' := RX1) (T' := TX1) (N' := 8) rfl (ty0 := tyX1) tyX1_ok (by decide +kernel) (tp_gt_in (i := 153) (by decide +kernel)) (tp_gt_in (i := 154) (by decide +kernel)) (tp_gt_in (i := 16) (by decide +kernel)) rfl ⟨by decide +kernel, by decide +kernel⟩ (tp_gt_in (i := 156) (by decide +kernel)) (tp_gt_in (i := 157) (by decide +kernel)) (by decide +kernel) ⟨(Nat.le_of_ble_eq_true rfl), (Nat.le_of_ble_eq_true rfl)⟩ (Nat.le_of_ble_eq_true rfl) (Nat.le_of_ble_eq_true rfl) hl.1 dX0_init_26 dX0_init_27 dX0_init_30 dX0_init_31 3 25 dX0_init_34 (ci := 0) (T := TX0) (N := 7) rfl (by decide) hin rfl (tp_gt_in (i := 184) (by decide +kernel)) (by decide +kernel) rfl hW fun q w H locs hS hW => ?_
  obtain ⟨r3, rfl, rfl⟩ := hS
  refine ct_fa Z ct_aki h00 3 (n := 3) (by decide) (by decide) (by decide) (p2 := 39) dX0_init_37 (fun kk => lv_iconst Z.1 Z.2.1 dX0_init_38 (by decide) kk) dX0_init_39 4 28 dX0_init_41 (ci := 0) (T := TX0) (N := 7) rfl (by decide) hin rfl (tp_gt_in (i := 185) (by decide +kernel)) (by decide +kernel) rfl (Nat.le_of_ble_eq_true rfl) (Nat.le_of_ble_eq_true rfl) hW fun q4 H locs hW => ?_
  exact ret 44 _ _ _ _ dX0_init_44 ⟨fun i => [h0, r1 0, r1 1, r2 0, r2 1, r2 2, r2 3, r2 4, r2 5, r3 0, r3 1, r3 2, r3 3, r3 4, r3 5, q4].getD i 0, rfl, rfl⟩ hW
end
section
/-! the class's own constructor -/
theorem dX9_init_0 : decode cX9_init 0 = .ok (.aload_n 0, 1) := by decide +kernel
theorem dX9_init_1 : decode cX9_init 1 = .ok (.invokespecial 1, 3) := by decide +kernel
theorem dX9_init_4 : decode cX9_init 4 = .ok (.aload_n 0, 1) := by decide +kernel
theorem dX9_init_5 : decode cX9_init 5 = .ok (.new 7, 3) := by decide +kernel
theorem dX9_init_8 : decode cX9_init 8 = .ok (.dup, 1) := by decide +kernel
theorem dX9_init_9 : decode cX9_init 9 = .ok (.invokespecial 9, 3) := by decide +kernel
theorem dX9_init_12 : decode cX9_init 12 = .ok (.putfield 10, 3) := by decide +kernel
theorem dX9_init_15 : decode cX9_init 15 = .ok (.aload_n 0, 1) := by decide +kernel
theorem dX9_init_16 : decode cX9_init 16 = .ok (.new 16, 3) := by decide +kernel
theorem dX9_init_19 : decode cX9_init 19 = .ok (.dup, 1) := by decide +kernel
theorem dX9_init_20 : decode cX9_init 20 = .ok (.invokespecial 18, 3) := by decide +kernel
theorem dX9_init_23 : decode cX9_init 23 = .ok (.putfield 19, 3) := by decide +kernel
theorem dX9_init_26 : decode cX9_init 26 = .ok (.aload_n 0, 1) := by decide +kernel
theorem dX9_init_27 : decode cX9_init 27 = .ok (.new 23, 3) := by decide +kernel
theorem dX9_init_30 : decode cX9_init 30 = .ok (.dup, 1) := by decide +kernel
theorem dX9_init_31 : decode cX9_init 31 = .ok (.invokespecial 25, 3) := by decide +kernel
theorem dX9_init_34 : decode cX9_init 34 = .ok (.putfield 26, 3) := by decide +kernel
theorem dX9_init_37 : decode cX9_init 37 = .ok (.aload_n 0, 1) := by decide +kernel
theorem dX9_init_38 : decode cX9_init 38 = .ok (.new 30, 3) := by decide +kernel
theorem dX9_init_41 : decode cX9_init 41 = .ok (.dup, 1) := by decide +kernel
theorem dX9_init_42 : decode cX9_init 42 = .ok (.invokespecial 32, 3) := by decide +kernel
theorem dX9_init_45 : decode cX9_init 45 = .ok (.putfield 33, 3) := by decide +kernel
theorem dX9_init_48 : decode cX9_init 48 = .ok (.aload_n 0, 1) := by decide +kernel
theorem dX9_init_49 : decode cX9_init 49 = .ok (.iconst 4, 1) := by decide +kernel
theorem dX9_init_50 : decode cX9_init 50 = .ok (.anewarray 37, 3) := by decide +kernel
theorem dX9_init_53 : decode cX9_init 53 = .ok (.putfield 39, 3) := by decide +kernel
theorem dX9_init_56 : decode cX9_init 56 = .ok (.iconst 0, 1) := by decide +kernel
theorem dX9_init_57 : decode cX9_init 57 = .ok (.istore_n 1, 1) := by decide +kernel
theorem dX9_init_58 : decode cX9_init 58 = .ok (.iload_n 1, 1) := by decide +kernel
theorem dX9_init_59 : decode cX9_init 59 = .ok (.iconst 4, 1) := by decide +kernel
theorem dX9_init_60 : decode cX9_init 60 = .ok (.if_icmp .ge 22, 3) := by decide +kernel
theorem dX9_init_63 : decode cX9_init 63 = .ok (.aload_n 0, 1) := by decide +kernel
theorem dX9_init_64 : decode cX9_init 64 = .ok (.getfield 39, 3) := by decide +kernel
theorem dX9_init_67 : decode cX9_init 67 = .ok (.iload_n 1, 1) := by decide +kernel
theorem dX9_init_68 : decode cX9_init 68 = .ok (.new 37, 3) := by decide +kernel
theorem dX9_init_71 : decode cX9_init 71 = .ok (.dup, 1) := by decide +kernel
theorem dX9_init_72 : decode cX9_init 72 = .ok (.invokespecial 43, 3) := by decide +kernel
theorem dX9_init_75 : decode cX9_init 75 = .ok (.aastore, 1) := by decide +kernel
theorem dX9_init_76 : decode cX9_init 76 = .ok (.iinc 1 1, 3) := by decide +kernel
theorem dX9_init_79 : decode cX9_init 79 = .ok (.goto (-21), 3) := by decide +kernel
theorem dX9_init_82 : decode cX9_init 82 = .ok (.aload_n 0, 1) := by decide +kernel
theorem dX9_init_83 : decode cX9_init 83 = .ok (.new 44, 3) := by decide +kernel
theorem dX9_init_86 : decode cX9_init 86 = .ok (.dup, 1) := by decide +kernel
theorem dX9_init_87 : decode cX9_init 87 = .ok (.invokespecial 46, 3) := by decide +kernel
theorem dX9_init_90 : decode cX9_init 90 = .ok (.putfield 47, 3) := by decide +kernel
theorem dX9_init_93 : decode cX9_init 93 = .ok (.aload_n 0, 1) := by decide +kernel
theorem dX9_init_94 : decode cX9_init 94 = .ok (.new 51, 3) := by decide +kernel
theorem dX9_init_97 : decode cX9_init 97 = .ok (.dup, 1) := by decide +kernel
theorem dX9_init_98 : decode cX9_init 98 = .ok (.invokespecial 53, 3) := by decide +kernel
theorem dX9_init_101 : decode cX9_init 101 = .ok (.putfield 54, 3) := by decide +kernel
theorem dX9_init_104 : decode cX9_init 104 = .ok (.return_, 1) := by decide +kernel
set_option maxHeartbeats 4000000 in
/-- one turn of the loop that makes the sheets -/
theorem ct_turn {p : Program} {l : Launch} {e : Env} {R : Room} {s : State} {m : MethodId} {args : Array Value} {below : List Frame} {meth : Method} {c : Code} {H : Heap} {locs : List Loc} {cells slots : Nat} {Q : State → Prop} {D : va_G} {cs : tp_CS} {A : Nat → Prop} {h0 : Nat} {ls : Array Slot} {fs : List Value} {X : va_W} {qa j : Nat} {f : Nat → Option Nat}
    (Z : ct_S p s m args c cX9_init 2 yX9_init.cls D cs A) (i i' : Int32) (t : Nat) (hi : ¬ (4 : Int32) ≤ i) (hi' : i + Int32.ofInt 1 = i') (hit : i.toNatClampNeg = t) (hin : vp_in i 4) (hl : lv_has ls 2 [(1, .int i), (0, .ref h0)]) (hf : fs[4]? = some (.ref qa)) (hX : X[j]? = some (qa, .inl (cs.2.2.2.1, 4, .inr (.inr (.inr (.inr f))))))
    (hroom : 2 ≤ R.frames ∧ 32 ≤ R.locals) (hcells : cells + 1 + 1 ≤ R.cells) (hslots : slots + 3 + 64 ≤ R.slots) (hW : ct_W D A s ((h0, .inr (9, fs)) :: X) H locs)
    (kk : ∀ (q : Nat) (w1 : va_W) (H1 : Heap) (locs1 : List Loc) (ls1 : Array Slot), sh_X5 q cs w1 → lv_has ls1 2 [(1, .int i'), (0, .ref h0)] → ct_W D A s ((h0, .inr (9, fs)) :: (X ++ w1).set j (qa, .inl (cs.2.2.2.1, 4, .inr (.inr (.inr (.inr (va_up f t (some q)))))))) H1 locs1 → W p l e R s m args below meth c H1 locs1 (cells + 1 + 1) (slots + 3 + 64) Q (F0 m 58 ls1 [])) : W p l e R s m args below meth c H locs cells slots Q (F0 m 58 ls []) := by
  have Z0 := Z
  obtain ⟨hx, hb, hml, hown, hts, hK, hA, hE⟩ := Z
  refine lv_iload_n (i := 1) hx hb dX9_init_58 rfl (lv_at hl 0 rfl) ?_
  refine lv_iconst (v := 4) hx hb dX9_init_59 rfl ?_
  refine lv_icmp_ge (tgt := 82) hx hb dX9_init_60 rfl (fun z => absurd z hi) (fun _ => ?_)
  refine lv_aload_n (i := 0) hx hb dX9_init_63 rfl (lv_at hl 1 rfl) ?_
  refine va_get (D := D) (ci := 9) (v := .ref qa) (C := RX9) (T := TX9) (N := 7) hx hb hts tp_cl9 hown hK hW.1 0 rfl rfl 4 (by decide) (hts _ (tp_gt_in (i := 231) (by decide +kernel))) (fun _ h9 => h9) hf dX9_init_64 ?_
  refine lv_iload_n (i := 1) hx hb dX9_init_67 rfl (lv_at hl 0 rfl) ?_
  refine ct_make Z0 (ctor_X5 l) 37 43 (C' := RX5) (T' := TX5) (N' := 3) rfl (ty0 := tyX5) tyX5_ok (by decide +kernel) (tp_gt_in (i := 112) (by decide +kernel)) (tp_gt_in (i := 114) (by decide +kernel)) (tp_gt_in (i := 13) (by decide +kernel)) rfl ⟨by decide +kernel, by decide +kernel⟩ (tp_gt_in (i := 116) (by decide +kernel)) (tp_gt_in (i := 117) (by decide +kernel)) (Or.inl (hE.1 ("TramPence", 43, yX5_init) (by decide +kernel))) hroom hcells hslots hl.1 (show 1 + (1 + 0) + 1 ≤ 8 by decide) dX9_init_68 dX9_init_71 dX9_init_72 hW fun q w1 H1 locs1 hSh hW1 => ?_
  obtain ⟨hP, hD, hS⟩ := hW1
  have hjl : j < X.length := (List.getElem?_eq_some_iff.mp hX).1
  have ha : ((h0, .inr (9, fs)) :: X ++ w1 : va_W)[j + 1]? = some (qa, .inl (cs.2.2.2.1, 4, .inr (.inr (.inr (.inr f))))) := by
    rw [List.cons_append, List.getElem?_cons_succ, List.getElem?_append_left hjl]
    exact hX
  have hq : ∃ vs : List Value, ((h0, .inr (9, fs)) :: X ++ w1 : va_W)[X.length + 1]? = some (q, .inr (5, vs)) := by
    obtain ⟨r, rfl, rfl⟩ := hSh
    rw [List.cons_append, List.getElem?_cons_succ, List.getElem?_append_right (Nat.le_refl _), Nat.sub_self]
    exact ⟨_, rfl⟩
  obtain ⟨vs, hq⟩ := hq
  refine va_astq (r := (RX5, TX5, 3)) hx hb hK hP hD hS (j + 1) 3 (X.length + 1) 5 ha rfl hq rfl hin dX9_init_75 fun H2 locs2 hP2 hD2 hS2 => ?_
  rw [hit] at hP2 hD2
  refine lv_iinc hx hb dX9_init_76 hl (k := 0) rfl hi' (by decide) rfl fun ls1 hl1 => ?_
  refine lv_goto (tgt := 58) hx hb dX9_init_79 rfl ?_
  exact kk q w1 H2 locs2 ls1 hSh hl1 ⟨hP2, hD2, hS2⟩
def sw_X9 (cs : tp_CS) (r : Nat → Nat) (u1 u2 : Nat → Nat) : va_W := [((r 0), .inr (9, [.ref (r 1), .ref (r 4), .ref (r 19), .ref (r 23), .ref (r 28), .ref (r 37), .ref (r 53)])),
  ((r 1), .inr (8, [.ref (r 2), .ref (r 3), .int 0])),
  ((r 2), .inl (cs.1, 5, .inl fun _ => 0)),
  ((r 3), .inl (cs.1, 5, .inl fun _ => 0)),
  ((r 4), .inr (2, [.ref (r 5), .ref (r 12)])),
  ((r 5), .inl (cs.2.2.2.2, 6, .inr (.inr (.inr (.inr (fun i => if i < 6 then some (u1 i) else none)))))),
  ((u1 0), .inl (cs.1, 5, .inl fun _ => 0)),
  ((u1 1), .inl (cs.1, 5, .inl fun _ => 0)),
  ((u1 2), .inl (cs.1, 5, .inl fun _ => 0)),
  ((u1 3), .inl (cs.1, 5, .inl fun _ => 0)),
  ((u1 4), .inl (cs.1, 5, .inl fun _ => 0)),
  ((u1 5), .inl (cs.1, 5, .inl fun _ => 0)),
  ((r 12), .inl (cs.2.2.2.2, 6, .inr (.inr (.inr (.inr (fun i => if i < 6 then some (u2 i) else none)))))),
  ((u2 0), .inl (cs.1, 5, .inl fun _ => 0)),
  ((u2 1), .inl (cs.1, 5, .inl fun _ => 0)),
  ((u2 2), .inl (cs.1, 5, .inl fun _ => 0)),
  ((u2 3), .inl (cs.1, 5, .inl fun _ => 0)),
  ((u2 4), .inl (cs.1, 5, .inl fun _ => 0)),
  ((u2 5), .inl (cs.1, 5, .inl fun _ => 0)),
  ((r 19), .inr (7, [.ref (r 20), .ref (r 21), .ref (r 22), .int 0])),
  ((r 20), .inl (cs.1, 16, .inl fun _ => 0)),
  ((r 21), .inl (cs.2.2.1, 16, .inl fun _ => 0)),
  ((r 22), .inl (cs.2.2.1, 16, .inl fun _ => 0)),
  ((r 23), .inr (4, [.ref (r 24), .ref (r 25), .ref (r 26), .ref (r 27), .int 0])),
  ((r 24), .inl (cs.1, 200, .inl fun _ => 0)),
  ((r 25), .inl (cs.1, 200, .inl fun _ => 0)),
  ((r 26), .inl (cs.1, 200, .inl fun _ => 0)),
  ((r 27), .inl (cs.1, 200, .inl fun _ => 0)),
  ((r 28), .inl (cs.2.2.2.1, 4, .inr (.inr (.inr (.inr (va_up (va_up (va_up (va_up (fun _ => none) 0 (some (r 29))) 1 (some (r 31))) 2 (some (r 33))) 3 (some (r 35)))))))),
  ((r 29), .inr (5, [.ref (r 30), .int 0, .int (-1)])),
  ((r 30), .inl (cs.1, 64, .inl fun _ => 0)),
  ((r 31), .inr (5, [.ref (r 32), .int 0, .int (-1)])),
  ((r 32), .inl (cs.1, 64, .inl fun _ => 0)),
  ((r 33), .inr (5, [.ref (r 34), .int 0, .int (-1)])),
  ((r 34), .inl (cs.1, 64, .inl fun _ => 0)),
  ((r 35), .inr (5, [.ref (r 36), .int 0, .int (-1)])),
  ((r 36), .inl (cs.1, 64, .inl fun _ => 0)),
  ((r 37), .inr (0, [.ref (r 38), .ref (r 40), .int 0, .ref (r 46), .ref (r 52), .int 0, .int 0])),
  ((r 38), .inr (6, [.ref (r 39), .int 0, .int 0, .int 0, .int 0])),
  ((r 39), .inl (cs.2.1, 200, .inl fun _ => 0)),
  ((r 40), .inr (1, [.ref (r 41), .ref (r 42), .ref (r 43), .ref (r 44), .ref (r 45), .int 0, .int 0, .int (-1)])),
  ((r 41), .inl (cs.1, 9, .inl fun _ => 0)),
  ((r 42), .inl (cs.1, 9, .inl fun _ => 0)),
  ((r 43), .inl (cs.1, 4, .inl fun _ => 0)),
  ((r 44), .inl (cs.1, 4, .inl fun _ => 0)),
  ((r 45), .inl (cs.1, 4, .inl fun _ => 0)),
  ((r 46), .inr (1, [.ref (r 47), .ref (r 48), .ref (r 49), .ref (r 50), .ref (r 51), .int 0, .int 0, .int (-1)])),
  ((r 47), .inl (cs.1, 9, .inl fun _ => 0)),
  ((r 48), .inl (cs.1, 9, .inl fun _ => 0)),
  ((r 49), .inl (cs.1, 4, .inl fun _ => 0)),
  ((r 50), .inl (cs.1, 4, .inl fun _ => 0)),
  ((r 51), .inl (cs.1, 4, .inl fun _ => 0)),
  ((r 52), .inl (cs.1, 3, .inl fun _ => 0)),
  ((r 53), .inr (3, [.ref (r 54), .ref (r 55), .ref (r 56), .ref (r 57), .int 0, .int 0, .int 30])),
  ((r 54), .inl (cs.1, 10, .inl fun _ => 0)),
  ((r 55), .inl (cs.1, 10, .inl fun _ => 0)),
  ((r 56), .inl (cs.1, 10, .inl fun _ => 0)),
  ((r 57), .inl (cs.1, 10, .inl fun _ => 0))]
def sh_X9 (h0 : Nat) (cs : tp_CS) (w : va_W) : Prop := ∃ (r u1 u2 : Nat → Nat), r 0 = h0 ∧ w = sw_X9 cs r u1 u2
set_option maxHeartbeats 4000000 in
set_option maxRecDepth 100000 in
theorem ctor_X9 (l : Launch) : ct_Met l yX9_init cX9_init 2 3 52 57 1554 9 [.null, .null, .null, .null, .null, .null, .null] sh_X9 := by
  refine ct_of (by decide +kernel) rfl (by decide) fun p e s m args below meth c D cs A h0 ls Q Z hin h00 hl hW ret => ?_
  refine ct_obj Z h00 hl.1 dX9_init_0 dX9_init_1 (tp_gt_in (i := 24) (by decide +kernel)) (tp_gt_in (i := 25) (by decide +kernel)) (tp_gt_in (i := 26) (by decide +kernel)) (Nat.le_of_ble_eq_true rfl) (Nat.le_of_ble_eq_true rfl) ?_
  refine ct_fo Z h00 (ctor_X8 l) 7 9 (C' := RX8) (T' := TX8) (N' := 3) rfl (ty0 := tyX8) tyX8_ok (by decide +kernel) (tp_gt_in (i := 27) (by decide +kernel)) (tp_gt_in (i := 28) (by decide +kernel)) (tp_gt_in (i := 9) (by decide +kernel)) rfl ⟨by decide +kernel, by decide +kernel⟩ (tp_gt_in (i := 30) (by decide +kernel)) (tp_gt_in (i := 31) (by decide +kernel)) (by decide +kernel) ⟨(Nat.le_of_ble_eq_true rfl), (Nat.le_of_ble_eq_true rfl)⟩ (Nat.le_of_ble_eq_true rfl) (Nat.le_of_ble_eq_true rfl) hl.1 dX9_init_4 dX9_init_5 dX9_init_8 dX9_init_9 0 10 dX9_init_12 (ci := 9) (T := TX9) (N := 7) rfl (by decide) hin rfl (tp_gt_in (i := 227) (by decide +kernel)) (by decide +kernel) rfl hW fun q w H locs hS hW => ?_
  obtain ⟨r1, rfl, rfl⟩ := hS
  have hW : ct_W D A s [(h0, .inr (9, [.ref (r1 0), .null, .null, .null, .null, .null, .null])), ((r1 0), .inr (8, [.ref (r1 1), .ref (r1 2), .int 0])), ((r1 1), .inl (cs.1, 5, .inl fun _ => 0)), ((r1 2), .inl (cs.1, 5, .inl fun _ => 0))] H locs := hW
  refine ct_fo Z h00 (ctor_X2 l) 16 18 (C' := RX2) (T' := TX2) (N' := 2) rfl (ty0 := tyX2) tyX2_ok (by decide +kernel) (tp_gt_in (i := 46) (by decide +kernel)) (tp_gt_in (i := 47) (by decide +kernel)) (tp_gt_in (i := 10) (by decide +kernel)) rfl ⟨by decide +kernel, by decide +kernel⟩ (tp_gt_in (i := 49) (by decide +kernel)) (tp_gt_in (i := 50) (by decide +kernel)) (by decide +kernel) ⟨(Nat.le_of_ble_eq_true rfl), (Nat.le_of_ble_eq_true rfl)⟩ (Nat.le_of_ble_eq_true rfl) (Nat.le_of_ble_eq_true rfl) hl.1 dX9_init_15 dX9_init_16 dX9_init_19 dX9_init_20 1 19 dX9_init_23 (ci := 9) (T := TX9) (N := 7) rfl (by decide) hin rfl (tp_gt_in (i := 228) (by decide +kernel)) (by decide +kernel) rfl hW fun q w H locs hS hW => ?_
  obtain ⟨r2, u1, u2, rfl, rfl⟩ := hS
  have hW : ct_W D A s [(h0, .inr (9, [.ref (r1 0), .ref (r2 0), .null, .null, .null, .null, .null])), ((r1 0), .inr (8, [.ref (r1 1), .ref (r1 2), .int 0])), ((r1 1), .inl (cs.1, 5, .inl fun _ => 0)), ((r1 2), .inl (cs.1, 5, .inl fun _ => 0)), ((r2 0), .inr (2, [.ref (r2 1), .ref (r2 2)])), ((r2 1), .inl (cs.2.2.2.2, 6, .inr (.inr (.inr (.inr (fun i => if i < 6 then some (u1 i) else none)))))), ((u1 0), .inl (cs.1, 5, .inl fun _ => 0)), ((u1 1), .inl (cs.1, 5, .inl fun _ => 0)), ((u1 2), .inl (cs.1, 5, .inl fun _ => 0)), ((u1 3), .inl (cs.1, 5, .inl fun _ => 0)), ((u1 4), .inl (cs.1, 5, .inl fun _ => 0)), ((u1 5), .inl (cs.1, 5, .inl fun _ => 0)), ((r2 2), .inl (cs.2.2.2.2, 6, .inr (.inr (.inr (.inr (fun i => if i < 6 then some (u2 i) else none)))))), ((u2 0), .inl (cs.1, 5, .inl fun _ => 0)), ((u2 1), .inl (cs.1, 5, .inl fun _ => 0)), ((u2 2), .inl (cs.1, 5, .inl fun _ => 0)), ((u2 3), .inl (cs.1, 5, .inl fun _ => 0)), ((u2 4), .inl (cs.1, 5, .inl fun _ => 0)), ((u2 5), .inl (cs.1, 5, .inl fun _ => 0))] H locs := hW
  refine ct_fo Z h00 (ctor_X7 l) 23 25 (C' := RX7) (T' := TX7) (N' := 4) rfl (ty0 := tyX7) tyX7_ok (by decide +kernel) (tp_gt_in (i := 62) (by decide +kernel)) (tp_gt_in (i := 63) (by decide +kernel)) (tp_gt_in (i := 11) (by decide +kernel)) rfl ⟨by decide +kernel, by decide +kernel⟩ (tp_gt_in (i := 65) (by decide +kernel)) (tp_gt_in (i := 66) (by decide +kernel)) (by decide +kernel) ⟨(Nat.le_of_ble_eq_true rfl), (Nat.le_of_ble_eq_true rfl)⟩ (Nat.le_of_ble_eq_true rfl) (Nat.le_of_ble_eq_true rfl) hl.1 dX9_init_26 dX9_init_27 dX9_init_30 dX9_init_31 2 26 dX9_init_34 (ci := 9) (T := TX9) (N := 7) rfl (by decide) hin rfl (tp_gt_in (i := 229) (by decide +kernel)) (by decide +kernel) rfl hW fun q w H locs hS hW => ?_
  obtain ⟨r3, rfl, rfl⟩ := hS
  have hW : ct_W D A s [(h0, .inr (9, [.ref (r1 0), .ref (r2 0), .ref (r3 0), .null, .null, .null, .null])), ((r1 0), .inr (8, [.ref (r1 1), .ref (r1 2), .int 0])), ((r1 1), .inl (cs.1, 5, .inl fun _ => 0)), ((r1 2), .inl (cs.1, 5, .inl fun _ => 0)), ((r2 0), .inr (2, [.ref (r2 1), .ref (r2 2)])), ((r2 1), .inl (cs.2.2.2.2, 6, .inr (.inr (.inr (.inr (fun i => if i < 6 then some (u1 i) else none)))))), ((u1 0), .inl (cs.1, 5, .inl fun _ => 0)), ((u1 1), .inl (cs.1, 5, .inl fun _ => 0)), ((u1 2), .inl (cs.1, 5, .inl fun _ => 0)), ((u1 3), .inl (cs.1, 5, .inl fun _ => 0)), ((u1 4), .inl (cs.1, 5, .inl fun _ => 0)), ((u1 5), .inl (cs.1, 5, .inl fun _ => 0)), ((r2 2), .inl (cs.2.2.2.2, 6, .inr (.inr (.inr (.inr (fun i => if i < 6 then some (u2 i) else none)))))), ((u2 0), .inl (cs.1, 5, .inl fun _ => 0)), ((u2 1), .inl (cs.1, 5, .inl fun _ => 0)), ((u2 2), .inl (cs.1, 5, .inl fun _ => 0)), ((u2 3), .inl (cs.1, 5, .inl fun _ => 0)), ((u2 4), .inl (cs.1, 5, .inl fun _ => 0)), ((u2 5), .inl (cs.1, 5, .inl fun _ => 0)), ((r3 0), .inr (7, [.ref (r3 1), .ref (r3 2), .ref (r3 3), .int 0])), ((r3 1), .inl (cs.1, 16, .inl fun _ => 0)), ((r3 2), .inl (cs.2.2.1, 16, .inl fun _ => 0)), ((r3 3), .inl (cs.2.2.1, 16, .inl fun _ => 0))] H locs := hW
  refine ct_fo Z h00 (ctor_X4 l) 30 32 (C' := RX4) (T' := TX4) (N' := 5) rfl (ty0 := tyX4) tyX4_ok (by decide +kernel) (tp_gt_in (i := 85) (by decide +kernel)) (tp_gt_in (i := 86) (by decide +kernel)) (tp_gt_in (i := 12) (by decide +kernel)) rfl ⟨by decide +kernel, by decide +kernel⟩ (tp_gt_in (i := 88) (by decide +kernel)) (tp_gt_in (i := 89) (by decide +kernel)) (by decide +kernel) ⟨(Nat.le_of_ble_eq_true rfl), (Nat.le_of_ble_eq_true rfl)⟩ (Nat.le_of_ble_eq_true rfl) (Nat.le_of_ble_eq_true rfl) hl.1 dX9_init_37 dX9_init_38 dX9_init_41 dX9_init_42 3 33 dX9_init_45 (ci := 9) (T := TX9) (N := 7) rfl (by decide) hin rfl (tp_gt_in (i := 230) (by decide +kernel)) (by decide +kernel) rfl hW fun q w H locs hS hW => ?_
  obtain ⟨r4, rfl, rfl⟩ := hS
  have hW : ct_W D A s [(h0, .inr (9, [.ref (r1 0), .ref (r2 0), .ref (r3 0), .ref (r4 0), .null, .null, .null])), ((r1 0), .inr (8, [.ref (r1 1), .ref (r1 2), .int 0])), ((r1 1), .inl (cs.1, 5, .inl fun _ => 0)), ((r1 2), .inl (cs.1, 5, .inl fun _ => 0)), ((r2 0), .inr (2, [.ref (r2 1), .ref (r2 2)])), ((r2 1), .inl (cs.2.2.2.2, 6, .inr (.inr (.inr (.inr (fun i => if i < 6 then some (u1 i) else none)))))), ((u1 0), .inl (cs.1, 5, .inl fun _ => 0)), ((u1 1), .inl (cs.1, 5, .inl fun _ => 0)), ((u1 2), .inl (cs.1, 5, .inl fun _ => 0)), ((u1 3), .inl (cs.1, 5, .inl fun _ => 0)), ((u1 4), .inl (cs.1, 5, .inl fun _ => 0)), ((u1 5), .inl (cs.1, 5, .inl fun _ => 0)), ((r2 2), .inl (cs.2.2.2.2, 6, .inr (.inr (.inr (.inr (fun i => if i < 6 then some (u2 i) else none)))))), ((u2 0), .inl (cs.1, 5, .inl fun _ => 0)), ((u2 1), .inl (cs.1, 5, .inl fun _ => 0)), ((u2 2), .inl (cs.1, 5, .inl fun _ => 0)), ((u2 3), .inl (cs.1, 5, .inl fun _ => 0)), ((u2 4), .inl (cs.1, 5, .inl fun _ => 0)), ((u2 5), .inl (cs.1, 5, .inl fun _ => 0)), ((r3 0), .inr (7, [.ref (r3 1), .ref (r3 2), .ref (r3 3), .int 0])), ((r3 1), .inl (cs.1, 16, .inl fun _ => 0)), ((r3 2), .inl (cs.2.2.1, 16, .inl fun _ => 0)), ((r3 3), .inl (cs.2.2.1, 16, .inl fun _ => 0)), ((r4 0), .inr (4, [.ref (r4 1), .ref (r4 2), .ref (r4 3), .ref (r4 4), .int 0])), ((r4 1), .inl (cs.1, 200, .inl fun _ => 0)), ((r4 2), .inl (cs.1, 200, .inl fun _ => 0)), ((r4 3), .inl (cs.1, 200, .inl fun _ => 0)), ((r4 4), .inl (cs.1, 200, .inl fun _ => 0))] H locs := hW
  refine ct_fq Z h00 4 (n := 4) (by decide) (by decide) (by decide) (p2 := 50) 37 (tp_gt_in (i := 112) (by decide +kernel)) dX9_init_48 (fun kk => lv_iconst Z.1 Z.2.1 dX9_init_49 (by decide) kk) dX9_init_50 4 39 dX9_init_53 (ci := 9) (T := TX9) (N := 7) rfl (by decide) hin rfl (tp_gt_in (i := 231) (by decide +kernel)) (by decide +kernel) rfl (Nat.le_of_ble_eq_true rfl) (Nat.le_of_ble_eq_true rfl) hW fun q5 H locs hW => ?_
  have hW : ct_W D A s [(h0, .inr (9, [.ref (r1 0), .ref (r2 0), .ref (r3 0), .ref (r4 0), .ref q5, .null, .null])), ((r1 0), .inr (8, [.ref (r1 1), .ref (r1 2), .int 0])), ((r1 1), .inl (cs.1, 5, .inl fun _ => 0)), ((r1 2), .inl (cs.1, 5, .inl fun _ => 0)), ((r2 0), .inr (2, [.ref (r2 1), .ref (r2 2)])), ((r2 1), .inl (cs.2.2.2.2, 6, .inr (.inr (.inr (.inr (fun i => if i < 6 then some (u1 i) else none)))))), ((u1 0), .inl (cs.1, 5, .inl fun _ => 0)), ((u1 1), .inl (cs.1, 5, .inl fun _ => 0)), ((u1 2), .inl (cs.1, 5, .inl fun _ => 0)), ((u1 3), .inl (cs.1, 5, .inl fun _ => 0)), ((u1 4), .inl (cs.1, 5, .inl fun _ => 0)), ((u1 5), .inl (cs.1, 5, .inl fun _ => 0)), ((r2 2), .inl (cs.2.2.2.2, 6, .inr (.inr (.inr (.inr (fun i => if i < 6 then some (u2 i) else none)))))), ((u2 0), .inl (cs.1, 5, .inl fun _ => 0)), ((u2 1), .inl (cs.1, 5, .inl fun _ => 0)), ((u2 2), .inl (cs.1, 5, .inl fun _ => 0)), ((u2 3), .inl (cs.1, 5, .inl fun _ => 0)), ((u2 4), .inl (cs.1, 5, .inl fun _ => 0)), ((u2 5), .inl (cs.1, 5, .inl fun _ => 0)), ((r3 0), .inr (7, [.ref (r3 1), .ref (r3 2), .ref (r3 3), .int 0])), ((r3 1), .inl (cs.1, 16, .inl fun _ => 0)), ((r3 2), .inl (cs.2.2.1, 16, .inl fun _ => 0)), ((r3 3), .inl (cs.2.2.1, 16, .inl fun _ => 0)), ((r4 0), .inr (4, [.ref (r4 1), .ref (r4 2), .ref (r4 3), .ref (r4 4), .int 0])), ((r4 1), .inl (cs.1, 200, .inl fun _ => 0)), ((r4 2), .inl (cs.1, 200, .inl fun _ => 0)), ((r4 3), .inl (cs.1, 200, .inl fun _ => 0)), ((r4 4), .inl (cs.1, 200, .inl fun _ => 0)), (q5, .inl (cs.2.2.2.1, 4, .inr (.inr (.inr (.inr (fun _ => none))))))] H locs := hW
  refine lv_iconst (v := 0) Z.1 Z.2.1 dX9_init_56 rfl ?_
  refine lv_istore_n (i := 1) Z.1 Z.2.1 dX9_init_57 rfl hl (by decide) rfl fun ls hl => ?_
  refine ct_turn (j := 27) Z 0 1 0 (by decide) (by decide) (by decide) (show ¬ ((0 : Int32) < 0 ∨ 4 ≤ (0 : Int32).toNatClampNeg) by decide) hl rfl rfl ⟨(Nat.le_of_ble_eq_true rfl), (Nat.le_of_ble_eq_true rfl)⟩ (Nat.le_of_ble_eq_true rfl) (Nat.le_of_ble_eq_true rfl) hW fun q w H locs ls hS hl hW => ?_
  obtain ⟨s0, rfl, rfl⟩ := hS
  have hW : ct_W D A s [(h0, .inr (9, [.ref (r1 0), .ref (r2 0), .ref (r3 0), .ref (r4 0), .ref q5, .null, .null])), ((r1 0), .inr (8, [.ref (r1 1), .ref (r1 2), .int 0])), ((r1 1), .inl (cs.1, 5, .inl fun _ => 0)), ((r1 2), .inl (cs.1, 5, .inl fun _ => 0)), ((r2 0), .inr (2, [.ref (r2 1), .ref (r2 2)])), ((r2 1), .inl (cs.2.2.2.2, 6, .inr (.inr (.inr (.inr (fun i => if i < 6 then some (u1 i) else none)))))), ((u1 0), .inl (cs.1, 5, .inl fun _ => 0)), ((u1 1), .inl (cs.1, 5, .inl fun _ => 0)), ((u1 2), .inl (cs.1, 5, .inl fun _ => 0)), ((u1 3), .inl (cs.1, 5, .inl fun _ => 0)), ((u1 4), .inl (cs.1, 5, .inl fun _ => 0)), ((u1 5), .inl (cs.1, 5, .inl fun _ => 0)), ((r2 2), .inl (cs.2.2.2.2, 6, .inr (.inr (.inr (.inr (fun i => if i < 6 then some (u2 i) else none)))))), ((u2 0), .inl (cs.1, 5, .inl fun _ => 0)), ((u2 1), .inl (cs.1, 5, .inl fun _ => 0)), ((u2 2), .inl (cs.1, 5, .inl fun _ => 0)), ((u2 3), .inl (cs.1, 5, .inl fun _ => 0)), ((u2 4), .inl (cs.1, 5, .inl fun _ => 0)), ((u2 5), .inl (cs.1, 5, .inl fun _ => 0)), ((r3 0), .inr (7, [.ref (r3 1), .ref (r3 2), .ref (r3 3), .int 0])), ((r3 1), .inl (cs.1, 16, .inl fun _ => 0)), ((r3 2), .inl (cs.2.2.1, 16, .inl fun _ => 0)), ((r3 3), .inl (cs.2.2.1, 16, .inl fun _ => 0)), ((r4 0), .inr (4, [.ref (r4 1), .ref (r4 2), .ref (r4 3), .ref (r4 4), .int 0])), ((r4 1), .inl (cs.1, 200, .inl fun _ => 0)), ((r4 2), .inl (cs.1, 200, .inl fun _ => 0)), ((r4 3), .inl (cs.1, 200, .inl fun _ => 0)), ((r4 4), .inl (cs.1, 200, .inl fun _ => 0)), (q5, .inl (cs.2.2.2.1, 4, .inr (.inr (.inr (.inr (va_up (fun _ => none) 0 (some (s0 0)))))))), ((s0 0), .inr (5, [.ref (s0 1), .int 0, .int (-1)])), ((s0 1), .inl (cs.1, 64, .inl fun _ => 0))] H locs := hW
  refine ct_turn (j := 27) Z 1 2 1 (by decide) (by decide) (by decide) (show ¬ ((1 : Int32) < 0 ∨ 4 ≤ (1 : Int32).toNatClampNeg) by decide) hl rfl rfl ⟨(Nat.le_of_ble_eq_true rfl), (Nat.le_of_ble_eq_true rfl)⟩ (Nat.le_of_ble_eq_true rfl) (Nat.le_of_ble_eq_true rfl) hW fun q w H locs ls hS hl hW => ?_
  obtain ⟨s1, rfl, rfl⟩ := hS
  have hW : ct_W D A s [(h0, .inr (9, [.ref (r1 0), .ref (r2 0), .ref (r3 0), .ref (r4 0), .ref q5, .null, .null])), ((r1 0), .inr (8, [.ref (r1 1), .ref (r1 2), .int 0])), ((r1 1), .inl (cs.1, 5, .inl fun _ => 0)), ((r1 2), .inl (cs.1, 5, .inl fun _ => 0)), ((r2 0), .inr (2, [.ref (r2 1), .ref (r2 2)])), ((r2 1), .inl (cs.2.2.2.2, 6, .inr (.inr (.inr (.inr (fun i => if i < 6 then some (u1 i) else none)))))), ((u1 0), .inl (cs.1, 5, .inl fun _ => 0)), ((u1 1), .inl (cs.1, 5, .inl fun _ => 0)), ((u1 2), .inl (cs.1, 5, .inl fun _ => 0)), ((u1 3), .inl (cs.1, 5, .inl fun _ => 0)), ((u1 4), .inl (cs.1, 5, .inl fun _ => 0)), ((u1 5), .inl (cs.1, 5, .inl fun _ => 0)), ((r2 2), .inl (cs.2.2.2.2, 6, .inr (.inr (.inr (.inr (fun i => if i < 6 then some (u2 i) else none)))))), ((u2 0), .inl (cs.1, 5, .inl fun _ => 0)), ((u2 1), .inl (cs.1, 5, .inl fun _ => 0)), ((u2 2), .inl (cs.1, 5, .inl fun _ => 0)), ((u2 3), .inl (cs.1, 5, .inl fun _ => 0)), ((u2 4), .inl (cs.1, 5, .inl fun _ => 0)), ((u2 5), .inl (cs.1, 5, .inl fun _ => 0)), ((r3 0), .inr (7, [.ref (r3 1), .ref (r3 2), .ref (r3 3), .int 0])), ((r3 1), .inl (cs.1, 16, .inl fun _ => 0)), ((r3 2), .inl (cs.2.2.1, 16, .inl fun _ => 0)), ((r3 3), .inl (cs.2.2.1, 16, .inl fun _ => 0)), ((r4 0), .inr (4, [.ref (r4 1), .ref (r4 2), .ref (r4 3), .ref (r4 4), .int 0])), ((r4 1), .inl (cs.1, 200, .inl fun _ => 0)), ((r4 2), .inl (cs.1, 200, .inl fun _ => 0)), ((r4 3), .inl (cs.1, 200, .inl fun _ => 0)), ((r4 4), .inl (cs.1, 200, .inl fun _ => 0)), (q5, .inl (cs.2.2.2.1, 4, .inr (.inr (.inr (.inr (va_up (va_up (fun _ => none) 0 (some (s0 0))) 1 (some (s1 0)))))))), ((s0 0), .inr (5, [.ref (s0 1), .int 0, .int (-1)])), ((s0 1), .inl (cs.1, 64, .inl fun _ => 0)), ((s1 0), .inr (5, [.ref (s1 1), .int 0, .int (-1)])), ((s1 1), .inl (cs.1, 64, .inl fun _ => 0))] H locs := hW
  refine ct_turn (j := 27) Z 2 3 2 (by decide) (by decide) (by decide) (show ¬ ((2 : Int32) < 0 ∨ 4 ≤ (2 : Int32).toNatClampNeg) by decide) hl rfl rfl ⟨(Nat.le_of_ble_eq_true rfl), (Nat.le_of_ble_eq_true rfl)⟩ (Nat.le_of_ble_eq_true rfl) (Nat.le_of_ble_eq_true rfl) hW fun q w H locs ls hS hl hW => ?_
  obtain ⟨s2, rfl, rfl⟩ := hS
  have hW : ct_W D A s [(h0, .inr (9, [.ref (r1 0), .ref (r2 0), .ref (r3 0), .ref (r4 0), .ref q5, .null, .null])), ((r1 0), .inr (8, [.ref (r1 1), .ref (r1 2), .int 0])), ((r1 1), .inl (cs.1, 5, .inl fun _ => 0)), ((r1 2), .inl (cs.1, 5, .inl fun _ => 0)), ((r2 0), .inr (2, [.ref (r2 1), .ref (r2 2)])), ((r2 1), .inl (cs.2.2.2.2, 6, .inr (.inr (.inr (.inr (fun i => if i < 6 then some (u1 i) else none)))))), ((u1 0), .inl (cs.1, 5, .inl fun _ => 0)), ((u1 1), .inl (cs.1, 5, .inl fun _ => 0)), ((u1 2), .inl (cs.1, 5, .inl fun _ => 0)), ((u1 3), .inl (cs.1, 5, .inl fun _ => 0)), ((u1 4), .inl (cs.1, 5, .inl fun _ => 0)), ((u1 5), .inl (cs.1, 5, .inl fun _ => 0)), ((r2 2), .inl (cs.2.2.2.2, 6, .inr (.inr (.inr (.inr (fun i => if i < 6 then some (u2 i) else none)))))), ((u2 0), .inl (cs.1, 5, .inl fun _ => 0)), ((u2 1), .inl (cs.1, 5, .inl fun _ => 0)), ((u2 2), .inl (cs.1, 5, .inl fun _ => 0)), ((u2 3), .inl (cs.1, 5, .inl fun _ => 0)), ((u2 4), .inl (cs.1, 5, .inl fun _ => 0)), ((u2 5), .inl (cs.1, 5, .inl fun _ => 0)), ((r3 0), .inr (7, [.ref (r3 1), .ref (r3 2), .ref (r3 3), .int 0])), ((r3 1), .inl (cs.1, 16, .inl fun _ => 0)), ((r3 2), .inl (cs.2.2.1, 16, .inl fun _ => 0)), ((r3 3), .inl (cs.2.2.1, 16, .inl fun _ => 0)), ((r4 0), .inr (4, [.ref (r4 1), .ref (r4 2), .ref (r4 3), .ref (r4 4), .int 0])), ((r4 1), .inl (cs.1, 200, .inl fun _ => 0)), ((r4 2), .inl (cs.1, 200, .inl fun _ => 0)), ((r4 3), .inl (cs.1, 200, .inl fun _ => 0)), ((r4 4), .inl (cs.1, 200, .inl fun _ => 0)), (q5, .inl (cs.2.2.2.1, 4, .inr (.inr (.inr (.inr (va_up (va_up (va_up (fun _ => none) 0 (some (s0 0))) 1 (some (s1 0))) 2 (some (s2 0)))))))), ((s0 0), .inr (5, [.ref (s0 1), .int 0, .int (-1)])), ((s0 1), .inl (cs.1, 64, .inl fun _ => 0)), ((s1 0), .inr (5, [.ref (s1 1), .int 0, .int (-1)])), ((s1 1), .inl (cs.1, 64, .inl fun _ => 0)), ((s2 0), .inr (5, [.ref (s2 1), .int 0, .int (-1)])), ((s2 1), .inl (cs.1, 64, .inl fun _ => 0))] H locs := hW
  refine ct_turn (j := 27) Z 3 4 3 (by decide) (by decide) (by decide) (show ¬ ((3 : Int32) < 0 ∨ 4 ≤ (3 : Int32).toNatClampNeg) by decide) hl rfl rfl ⟨(Nat.le_of_ble_eq_true rfl), (Nat.le_of_ble_eq_true rfl)⟩ (Nat.le_of_ble_eq_true rfl) (Nat.le_of_ble_eq_true rfl) hW fun q w H locs ls hS hl hW => ?_
  obtain ⟨s3, rfl, rfl⟩ := hS
  have hW : ct_W D A s [(h0, .inr (9, [.ref (r1 0), .ref (r2 0), .ref (r3 0), .ref (r4 0), .ref q5, .null, .null])), ((r1 0), .inr (8, [.ref (r1 1), .ref (r1 2), .int 0])), ((r1 1), .inl (cs.1, 5, .inl fun _ => 0)), ((r1 2), .inl (cs.1, 5, .inl fun _ => 0)), ((r2 0), .inr (2, [.ref (r2 1), .ref (r2 2)])), ((r2 1), .inl (cs.2.2.2.2, 6, .inr (.inr (.inr (.inr (fun i => if i < 6 then some (u1 i) else none)))))), ((u1 0), .inl (cs.1, 5, .inl fun _ => 0)), ((u1 1), .inl (cs.1, 5, .inl fun _ => 0)), ((u1 2), .inl (cs.1, 5, .inl fun _ => 0)), ((u1 3), .inl (cs.1, 5, .inl fun _ => 0)), ((u1 4), .inl (cs.1, 5, .inl fun _ => 0)), ((u1 5), .inl (cs.1, 5, .inl fun _ => 0)), ((r2 2), .inl (cs.2.2.2.2, 6, .inr (.inr (.inr (.inr (fun i => if i < 6 then some (u2 i) else none)))))), ((u2 0), .inl (cs.1, 5, .inl fun _ => 0)), ((u2 1), .inl (cs.1, 5, .inl fun _ => 0)), ((u2 2), .inl (cs.1, 5, .inl fun _ => 0)), ((u2 3), .inl (cs.1, 5, .inl fun _ => 0)), ((u2 4), .inl (cs.1, 5, .inl fun _ => 0)), ((u2 5), .inl (cs.1, 5, .inl fun _ => 0)), ((r3 0), .inr (7, [.ref (r3 1), .ref (r3 2), .ref (r3 3), .int 0])), ((r3 1), .inl (cs.1, 16, .inl fun _ => 0)), ((r3 2), .inl (cs.2.2.1, 16, .inl fun _ => 0)), ((r3 3), .inl (cs.2.2.1, 16, .inl fun _ => 0)), ((r4 0), .inr (4, [.ref (r4 1), .ref (r4 2), .ref (r4 3), .ref (r4 4), .int 0])), ((r4 1), .inl (cs.1, 200, .inl fun _ => 0)), ((r4 2), .inl (cs.1, 200, .inl fun _ => 0)), ((r4 3), .inl (cs.1, 200, .inl fun _ => 0)), ((r4 4), .inl (cs.1, 200, .inl fun _ => 0)), (q5, .inl (cs.2.2.2.1, 4, .inr (.inr (.inr (.inr (va_up (va_up (va_up (va_up (fun _ => none) 0 (some (s0 0))) 1 (some (s1 0))) 2 (some (s2 0))) 3 (some (s3 0)))))))), ((s0 0), .inr (5, [.ref (s0 1), .int 0, .int (-1)])), ((s0 1), .inl (cs.1, 64, .inl fun _ => 0)), ((s1 0), .inr (5, [.ref (s1 1), .int 0, .int (-1)])), ((s1 1), .inl (cs.1, 64, .inl fun _ => 0)), ((s2 0), .inr (5, [.ref (s2 1), .int 0, .int (-1)])), ((s2 1), .inl (cs.1, 64, .inl fun _ => 0)), ((s3 0), .inr (5, [.ref (s3 1), .int 0, .int (-1)])), ((s3 1), .inl (cs.1, 64, .inl fun _ => 0))] H locs := hW
  refine lv_iload_n (i := 1) Z.1 Z.2.1 dX9_init_58 rfl (lv_at hl 0 rfl) ?_
  refine lv_iconst (v := 4) Z.1 Z.2.1 dX9_init_59 rfl ?_
  refine lv_icmp_ge (tgt := 82) Z.1 Z.2.1 dX9_init_60 rfl (fun _ => ?_) (fun z => absurd (by decide) z)
  have h01 := lv_at hl 1 rfl
  refine ct_fo Z h01 (ctor_X0 l) 44 46 (C' := RX0) (T' := TX0) (N' := 7) rfl (ty0 := tyX0) tyX0_ok (by decide +kernel) (tp_gt_in (i := 128) (by decide +kernel)) (tp_gt_in (i := 129) (by decide +kernel)) (tp_gt_in (i := 14) (by decide +kernel)) rfl ⟨by decide +kernel, by decide +kernel⟩ (tp_gt_in (i := 131) (by decide +kernel)) (tp_gt_in (i := 132) (by decide +kernel)) (by decide +kernel) ⟨(Nat.le_of_ble_eq_true rfl), (Nat.le_of_ble_eq_true rfl)⟩ (Nat.le_of_ble_eq_true rfl) (Nat.le_of_ble_eq_true rfl) hl.1 dX9_init_82 dX9_init_83 dX9_init_86 dX9_init_87 5 47 dX9_init_90 (ci := 9) (T := TX9) (N := 7) rfl (by decide) hin rfl (tp_gt_in (i := 232) (by decide +kernel)) (by decide +kernel) rfl hW fun q w H locs hS hW => ?_
  obtain ⟨r6, rfl, rfl⟩ := hS
  have hW : ct_W D A s [(h0, .inr (9, [.ref (r1 0), .ref (r2 0), .ref (r3 0), .ref (r4 0), .ref q5, .ref (r6 0), .null])), ((r1 0), .inr (8, [.ref (r1 1), .ref (r1 2), .int 0])), ((r1 1), .inl (cs.1, 5, .inl fun _ => 0)), ((r1 2), .inl (cs.1, 5, .inl fun _ => 0)), ((r2 0), .inr (2, [.ref (r2 1), .ref (r2 2)])), ((r2 1), .inl (cs.2.2.2.2, 6, .inr (.inr (.inr (.inr (fun i => if i < 6 then some (u1 i) else none)))))), ((u1 0), .inl (cs.1, 5, .inl fun _ => 0)), ((u1 1), .inl (cs.1, 5, .inl fun _ => 0)), ((u1 2), .inl (cs.1, 5, .inl fun _ => 0)), ((u1 3), .inl (cs.1, 5, .inl fun _ => 0)), ((u1 4), .inl (cs.1, 5, .inl fun _ => 0)), ((u1 5), .inl (cs.1, 5, .inl fun _ => 0)), ((r2 2), .inl (cs.2.2.2.2, 6, .inr (.inr (.inr (.inr (fun i => if i < 6 then some (u2 i) else none)))))), ((u2 0), .inl (cs.1, 5, .inl fun _ => 0)), ((u2 1), .inl (cs.1, 5, .inl fun _ => 0)), ((u2 2), .inl (cs.1, 5, .inl fun _ => 0)), ((u2 3), .inl (cs.1, 5, .inl fun _ => 0)), ((u2 4), .inl (cs.1, 5, .inl fun _ => 0)), ((u2 5), .inl (cs.1, 5, .inl fun _ => 0)), ((r3 0), .inr (7, [.ref (r3 1), .ref (r3 2), .ref (r3 3), .int 0])), ((r3 1), .inl (cs.1, 16, .inl fun _ => 0)), ((r3 2), .inl (cs.2.2.1, 16, .inl fun _ => 0)), ((r3 3), .inl (cs.2.2.1, 16, .inl fun _ => 0)), ((r4 0), .inr (4, [.ref (r4 1), .ref (r4 2), .ref (r4 3), .ref (r4 4), .int 0])), ((r4 1), .inl (cs.1, 200, .inl fun _ => 0)), ((r4 2), .inl (cs.1, 200, .inl fun _ => 0)), ((r4 3), .inl (cs.1, 200, .inl fun _ => 0)), ((r4 4), .inl (cs.1, 200, .inl fun _ => 0)), (q5, .inl (cs.2.2.2.1, 4, .inr (.inr (.inr (.inr (va_up (va_up (va_up (va_up (fun _ => none) 0 (some (s0 0))) 1 (some (s1 0))) 2 (some (s2 0))) 3 (some (s3 0)))))))), ((s0 0), .inr (5, [.ref (s0 1), .int 0, .int (-1)])), ((s0 1), .inl (cs.1, 64, .inl fun _ => 0)), ((s1 0), .inr (5, [.ref (s1 1), .int 0, .int (-1)])), ((s1 1), .inl (cs.1, 64, .inl fun _ => 0)), ((s2 0), .inr (5, [.ref (s2 1), .int 0, .int (-1)])), ((s2 1), .inl (cs.1, 64, .inl fun _ => 0)), ((s3 0), .inr (5, [.ref (s3 1), .int 0, .int (-1)])), ((s3 1), .inl (cs.1, 64, .inl fun _ => 0)), ((r6 0), .inr (0, [.ref (r6 1), .ref (r6 3), .int 0, .ref (r6 9), .ref (r6 15), .int 0, .int 0])), ((r6 1), .inr (6, [.ref (r6 2), .int 0, .int 0, .int 0, .int 0])), ((r6 2), .inl (cs.2.1, 200, .inl fun _ => 0)), ((r6 3), .inr (1, [.ref (r6 4), .ref (r6 5), .ref (r6 6), .ref (r6 7), .ref (r6 8), .int 0, .int 0, .int (-1)])), ((r6 4), .inl (cs.1, 9, .inl fun _ => 0)), ((r6 5), .inl (cs.1, 9, .inl fun _ => 0)), ((r6 6), .inl (cs.1, 4, .inl fun _ => 0)), ((r6 7), .inl (cs.1, 4, .inl fun _ => 0)), ((r6 8), .inl (cs.1, 4, .inl fun _ => 0)), ((r6 9), .inr (1, [.ref (r6 10), .ref (r6 11), .ref (r6 12), .ref (r6 13), .ref (r6 14), .int 0, .int 0, .int (-1)])), ((r6 10), .inl (cs.1, 9, .inl fun _ => 0)), ((r6 11), .inl (cs.1, 9, .inl fun _ => 0)), ((r6 12), .inl (cs.1, 4, .inl fun _ => 0)), ((r6 13), .inl (cs.1, 4, .inl fun _ => 0)), ((r6 14), .inl (cs.1, 4, .inl fun _ => 0)), ((r6 15), .inl (cs.1, 3, .inl fun _ => 0))] H locs := hW
  refine ct_fo Z h01 (ctor_X3 l) 51 53 (C' := RX3) (T' := TX3) (N' := 7) rfl (ty0 := tyX3) tyX3_ok (by decide +kernel) (tp_gt_in (i := 201) (by decide +kernel)) (tp_gt_in (i := 202) (by decide +kernel)) (tp_gt_in (i := 17) (by decide +kernel)) rfl ⟨by decide +kernel, by decide +kernel⟩ (tp_gt_in (i := 204) (by decide +kernel)) (tp_gt_in (i := 205) (by decide +kernel)) (by decide +kernel) ⟨(Nat.le_of_ble_eq_true rfl), (Nat.le_of_ble_eq_true rfl)⟩ (Nat.le_of_ble_eq_true rfl) (Nat.le_of_ble_eq_true rfl) hl.1 dX9_init_93 dX9_init_94 dX9_init_97 dX9_init_98 6 54 dX9_init_101 (ci := 9) (T := TX9) (N := 7) rfl (by decide) hin rfl (tp_gt_in (i := 233) (by decide +kernel)) (by decide +kernel) rfl hW fun q w H locs hS hW => ?_
  obtain ⟨r7, rfl, rfl⟩ := hS
  have hW : ct_W D A s [(h0, .inr (9, [.ref (r1 0), .ref (r2 0), .ref (r3 0), .ref (r4 0), .ref q5, .ref (r6 0), .ref (r7 0)])), ((r1 0), .inr (8, [.ref (r1 1), .ref (r1 2), .int 0])), ((r1 1), .inl (cs.1, 5, .inl fun _ => 0)), ((r1 2), .inl (cs.1, 5, .inl fun _ => 0)), ((r2 0), .inr (2, [.ref (r2 1), .ref (r2 2)])), ((r2 1), .inl (cs.2.2.2.2, 6, .inr (.inr (.inr (.inr (fun i => if i < 6 then some (u1 i) else none)))))), ((u1 0), .inl (cs.1, 5, .inl fun _ => 0)), ((u1 1), .inl (cs.1, 5, .inl fun _ => 0)), ((u1 2), .inl (cs.1, 5, .inl fun _ => 0)), ((u1 3), .inl (cs.1, 5, .inl fun _ => 0)), ((u1 4), .inl (cs.1, 5, .inl fun _ => 0)), ((u1 5), .inl (cs.1, 5, .inl fun _ => 0)), ((r2 2), .inl (cs.2.2.2.2, 6, .inr (.inr (.inr (.inr (fun i => if i < 6 then some (u2 i) else none)))))), ((u2 0), .inl (cs.1, 5, .inl fun _ => 0)), ((u2 1), .inl (cs.1, 5, .inl fun _ => 0)), ((u2 2), .inl (cs.1, 5, .inl fun _ => 0)), ((u2 3), .inl (cs.1, 5, .inl fun _ => 0)), ((u2 4), .inl (cs.1, 5, .inl fun _ => 0)), ((u2 5), .inl (cs.1, 5, .inl fun _ => 0)), ((r3 0), .inr (7, [.ref (r3 1), .ref (r3 2), .ref (r3 3), .int 0])), ((r3 1), .inl (cs.1, 16, .inl fun _ => 0)), ((r3 2), .inl (cs.2.2.1, 16, .inl fun _ => 0)), ((r3 3), .inl (cs.2.2.1, 16, .inl fun _ => 0)), ((r4 0), .inr (4, [.ref (r4 1), .ref (r4 2), .ref (r4 3), .ref (r4 4), .int 0])), ((r4 1), .inl (cs.1, 200, .inl fun _ => 0)), ((r4 2), .inl (cs.1, 200, .inl fun _ => 0)), ((r4 3), .inl (cs.1, 200, .inl fun _ => 0)), ((r4 4), .inl (cs.1, 200, .inl fun _ => 0)), (q5, .inl (cs.2.2.2.1, 4, .inr (.inr (.inr (.inr (va_up (va_up (va_up (va_up (fun _ => none) 0 (some (s0 0))) 1 (some (s1 0))) 2 (some (s2 0))) 3 (some (s3 0)))))))), ((s0 0), .inr (5, [.ref (s0 1), .int 0, .int (-1)])), ((s0 1), .inl (cs.1, 64, .inl fun _ => 0)), ((s1 0), .inr (5, [.ref (s1 1), .int 0, .int (-1)])), ((s1 1), .inl (cs.1, 64, .inl fun _ => 0)), ((s2 0), .inr (5, [.ref (s2 1), .int 0, .int (-1)])), ((s2 1), .inl (cs.1, 64, .inl fun _ => 0)), ((s3 0), .inr (5, [.ref (s3 1), .int 0, .int (-1)])), ((s3 1), .inl (cs.1, 64, .inl fun _ => 0)), ((r6 0), .inr (0, [.ref (r6 1), .ref (r6 3), .int 0, .ref (r6 9), .ref (r6 15), .int 0, .int 0])), ((r6 1), .inr (6, [.ref (r6 2), .int 0, .int 0, .int 0, .int 0])), ((r6 2), .inl (cs.2.1, 200, .inl fun _ => 0)), ((r6 3), .inr (1, [.ref (r6 4), .ref (r6 5), .ref (r6 6), .ref (r6 7), .ref (r6 8), .int 0, .int 0, .int (-1)])), ((r6 4), .inl (cs.1, 9, .inl fun _ => 0)), ((r6 5), .inl (cs.1, 9, .inl fun _ => 0)), ((r6 6), .inl (cs.1, 4, .inl fun _ => 0)), ((r6 7), .inl (cs.1, 4, .inl fun _ => 0)), ((r6 8), .inl (cs.1, 4, .inl fun _ => 0)), ((r6 9), .inr (1, [.ref (r6 10), .ref (r6 11), .ref (r6 12), .ref (r6 13), .ref (r6 14), .int 0, .int 0, .int (-1)])), ((r6 10), .inl (cs.1, 9, .inl fun _ => 0)), ((r6 11), .inl (cs.1, 9, .inl fun _ => 0)), ((r6 12), .inl (cs.1, 4, .inl fun _ => 0)), ((r6 13), .inl (cs.1, 4, .inl fun _ => 0)), ((r6 14), .inl (cs.1, 4, .inl fun _ => 0)), ((r6 15), .inl (cs.1, 3, .inl fun _ => 0)), ((r7 0), .inr (3, [.ref (r7 1), .ref (r7 2), .ref (r7 3), .ref (r7 4), .int 0, .int 0, .int 30])), ((r7 1), .inl (cs.1, 10, .inl fun _ => 0)), ((r7 2), .inl (cs.1, 10, .inl fun _ => 0)), ((r7 3), .inl (cs.1, 10, .inl fun _ => 0)), ((r7 4), .inl (cs.1, 10, .inl fun _ => 0))] H locs := hW
  exact ret 104 _ _ _ _ dX9_init_104 ⟨fun i => [h0, r1 0, r1 1, r1 2, r2 0, r2 1, u1 0, u1 1, u1 2, u1 3, u1 4, u1 5, r2 2, u2 0, u2 1, u2 2, u2 3, u2 4, u2 5, r3 0, r3 1, r3 2, r3 3, r4 0, r4 1, r4 2, r4 3, r4 4, q5, s0 0, s0 1, s1 0, s1 1, s2 0, s2 1, s3 0, s3 1, r6 0, r6 1, r6 2, r6 3, r6 4, r6 5, r6 6, r6 7, r6 8, r6 9, r6 10, r6 11, r6 12, r6 13, r6 14, r6 15, r7 0, r7 1, r7 2, r7 3, r7 4].getD i 0, u1, u2, rfl, rfl⟩ hW
end
section
/-! THE BEGIN: what the tables and the premises give -/
theorem bg_inst : ∀ (a : Nat) (q : vw_C), vwCl[a]? = some q → Cond.instantiable q.1 q.2.2 ∈ tp_gt
  | 0, q, h => by cases h; exact tp_gt_in (i := 129) (by decide +kernel)
  | 1, q, h => by cases h; exact tp_gt_in (i := 154) (by decide +kernel)
  | 2, q, h => by cases h; exact tp_gt_in (i := 47) (by decide +kernel)
  | 3, q, h => by cases h; exact tp_gt_in (i := 202) (by decide +kernel)
  | 4, q, h => by cases h; exact tp_gt_in (i := 86) (by decide +kernel)
  | 5, q, h => by cases h; exact tp_gt_in (i := 114) (by decide +kernel)
  | 6, q, h => by cases h; exact tp_gt_in (i := 135) (by decide +kernel)
  | 7, q, h => by cases h; exact tp_gt_in (i := 63) (by decide +kernel)
  | 8, q, h => by cases h; exact tp_gt_in (i := 28) (by decide +kernel)
  | 9, q, h => by cases h; exact tp_gt_in (i := 20) (by decide +kernel)
  | k + 10, q, h => by
    rw [List.getElem?_eq_none (by rw [tp_vwcl]; omega)] at h
    cases h
theorem bg_classes {s : State} {args : Array Value} (hts : ∀ w ∈ tp_gt, w.before args s = true) : ∃ D : va_G, ∀ (c : Nat) (q : vw_C), vwCl[c]? = some q → u_Kn s q.1 q.2.1 q.2.2 (D.1 c) (D.2 c) := by
  have h : ∀ c : Nat, ∃ z : ClassId × (Nat → Nat), ∀ q, vwCl[c]? = some q → u_Kn s q.1 q.2.1 q.2.2 z.1 z.2 := by
    intro c
    cases hc : vwCl[c]? with
    | none => exact ⟨(0, fun _ => 0), fun q h => by cases h⟩
    | some q =>
      obtain ⟨hin, -⟩ := tp_clf c q.1 q.2.1 q.2.2 hc
      obtain ⟨cC, iS, hk⟩ := u_known hts hin (hts _ (bg_inst c q hc))
      exact ⟨(cC, iS), fun q' h => by cases h; exact hk⟩
  exact ⟨(fun c => (Classical.choose (h c)).1, fun c => (Classical.choose (h c)).2), fun c q hq => Classical.choose_spec (h c) q hq⟩
theorem bg_prim {s : State} {args : Array Value} {ty : FieldType} (h : (Cond.arrayClass ty).before args s = true) : ∃ cA, s.vm.findClass ("[" ++ ty.toString) = some cA ∧ ArrOfT s cA ty := by
  obtain ⟨cA, k, comp, h1, h2, h3⟩ := Cond.arrayClass_spec h
  exact ⟨cA, h1, fun n z => ⟨fun k h => (by cases h), k, h2, comp, h3⟩⟩
theorem bg_tb {s : State} {args : Array Value} (htbl : ∀ w ∈ lw_tbl, w.before args s = true) (i : Nat) {w : Cond} (h : lw_tbl[i]? = some w) : w.before args s = true := htbl w (List.mem_of_getElem? h)
theorem bg_arr {s : State} {args : Array Value} (htbl : ∀ w ∈ lw_tbl, w.before args s = true) : ∃ cs : tp_CS, ∀ (k : Nat) (q : ClassId × FieldType), (tp_tys cs)[k]? = some q → ArrOfT s q.1 q.2 ∧ va_RA s q.1 q.2 := by
  obtain ⟨c1, f1, a1⟩ := bg_prim (bg_tb htbl 45 (w := .arrayClass .int) (by decide +kernel))
  obtain ⟨c2, f2, a2⟩ := bg_prim (bg_tb htbl 152 (w := .arrayClass .byte) (by decide +kernel))
  obtain ⟨c3, f3, a3⟩ := bg_prim (bg_tb htbl 84 (w := .arrayClass .boolean) (by decide +kernel))
  obtain ⟨comp4, c4, k4, e1, -, e3, e4, e5⟩ := Cond.arrayOver_spec (bg_tb htbl 113 (w := .arrayOver (.object "TramPence$Sheet")) (by decide +kernel))
  obtain ⟨comp5, c5, k5, g1, -, g3, g4, g5⟩ := arrayOverA_spec (bg_tb htbl 53 (w := .arrayOver (.array .int)) (by decide +kernel))
  refine ⟨(c1, c2, c3, c4, c5), fun k q hk => ?_⟩
  match k, hk with
  | 0, hk => cases hk; exact ⟨a1, f1⟩
  | 1, hk => cases hk; exact ⟨a2, f2⟩
  | 2, hk => cases hk; exact ⟨a3, f3⟩
  | 3, hk => cases hk; exact ⟨fun n z => ⟨fun k h => (by cases h), k4, e3, comp4, e4⟩, k4, comp4, e3, e4, e1, e5⟩
  | 4, hk => cases hk; exact ⟨fun n z => ⟨fun k h => (by cases h), k5, g3, comp5, g4⟩, g5⟩
  | k + 5, hk => cases hk
theorem bg_E {s : State} {args : Array Value} (htbl : ∀ w ∈ lw_tbl, w.before args s = true) : ct_E s := by
  refine ⟨fun q hq => va_Nw.of rfl (htbl _ ?_), va_AO.of (A := args) (bg_tb htbl 113 (w := .arrayOver (.object "TramPence$Sheet")) (by decide +kernel)), over_moved (Vm.Alike.refl s.vm) (bg_tb htbl 53 (w := .arrayOver (.array .int)) (by decide +kernel))⟩
  have h : ∀ q ∈ ct_nl, Cond.methodLinkNest q.1 q.2.1 q.2.2 "TramPence" ∈ lw_tbl := by decide +kernel
  exact h q hq
theorem bg_T {ty : FieldType} {t N : Nat} {f g : Nat → Value} {A : Nat → Prop} {U : State} {H : Heap} (h : va_T ty t N f A U H) (e : ∀ j, j < N → f j = g j) : va_T ty t N g A U H := by
  obtain ⟨cell, h1, h2, h3, h4, h5, h6, h7⟩ := h
  exact ⟨cell, h1, h2, h3, h4, h5, fun j hj => by rw [← e j hj]; exact h6 j hj, h7⟩
end
section
/-! THE LAW MAKES AN ARRAY: the world grows by one object; the runs between two of them -/
theorem al_kd : ∀ o, o < 65 → tp_kd o < 25 := by decide +kernel
theorem al_rrt : ∀ o, o < 65 → ∀ k, k < 10 → (tp_rrl.getD o []).getD k 0 < 58 := by decide +kernel
theorem al_nf : ∀ c, c < 10 → tp_nf c ≤ 8 := by decide +kernel
theorem al_cls : ∀ o, o < 65 → tp_kd o < 20 → tp_kd o < 10 := by decide +kernel
theorem al_row : ∀ o, o < 65 → ¬ tp_kd o < 20 → ¬ tp_kd o = 20 → ¬ tp_kd o = 21 → ¬ tp_kd o = 22 → (tp_rrl.getD o []).getD 0 0 + tp_ln o ≤ 58 := by decide +kernel
theorem al_rr1 {σ : tp_St} {o k : Nat} (h : o < 65) (hk : k < 8) (hc : tp_kd o < 20) : tp_rr σ o k < 58 := by
  unfold tp_rr
  rw [if_pos hc]
  exact al_rrt o h k (by omega)
theorem al_cell {D : va_G} {cs : tp_CS} {ad ad' : Nat → Nat} {σ σ' : tp_St} {H : Heap} {o : Nat} (ho : o < 65) (ha : ∀ i, i < 58 → ad' i = ad i) (hao : ad' o = ad o) (hs : σ'.1 o = σ.1 o) (h : va_at D vwCl (ad o, tp_cell cs ad σ o) H) : va_at D vwCl (ad' o, tp_cell cs ad' σ' o) H := by
  rw [hao]
  have hr : ∀ k, tp_rr σ' o k = tp_rr σ o k := fun _ => rfl
  by_cases h1 : tp_kd o < 20
  · rw [tp_cell_cls h1] at h ⊢
    have e : tp_fs ad' σ' o = tp_fs ad σ o := by
      unfold tp_fs
      refine List.map_congr_left fun k hk => ?_
      have hk8 : k < 8 := Nat.lt_of_lt_of_le (List.mem_range.mp hk) (al_nf _ (al_cls o ho h1))
      unfold tp_fv
      rw [hs, hr, ha _ (al_rr1 ho hk8 h1)]
    rw [e]
    exact h
  · by_cases h2 : tp_kd o = 20
    · rw [tp_cell_20 h2] at h ⊢
      rw [hs]
      exact h
    · by_cases h3 : tp_kd o = 21
      · rw [tp_cell_21 h3] at h ⊢
        rw [hs]
        exact h
      · by_cases h4 : tp_kd o = 22
        · rw [tp_cell_22 h4] at h ⊢
          rw [hs]
          exact h
        · have hrow := al_row o ho h1 h2 h3 h4
          have hlt : ∀ j, j < tp_ln o → tp_rr σ o j < 58 := fun j hj => by
            unfold tp_rr
            rw [if_neg h1]
            omega
          by_cases h5 : tp_kd o = 23
          · rw [tp_cell_23 h5] at h ⊢
            have h : H[ad o]? = some (vp_cell cs.2.2.2.1 (tp_ln o, .inr (.inr (.inr (.inr (fun j => some (ad (tp_rr σ o j)))))))) := h
            show H[ad o]? = some (vp_cell cs.2.2.2.1 (tp_ln o, .inr (.inr (.inr (.inr (fun j => some (ad' (tp_rr σ' o j))))))))
            rw [h, vp_cell_q, vp_cell_q]
            exact congrArg some (ct_arr fun j hj => by rw [hr, ha _ (hlt j hj)])
          · have h6 : tp_kd o = 24 := by have := al_kd o ho; omega
            rw [tp_cell_24 h6] at h ⊢
            have h : H[ad o]? = some (vp_cell cs.2.2.2.2 (tp_ln o, .inr (.inr (.inr (.inr (fun j => some (ad (tp_rr σ o j)))))))) := h
            show H[ad o]? = some (vp_cell cs.2.2.2.2 (tp_ln o, .inr (.inr (.inr (.inr (fun j => some (ad' (tp_rr σ' o j))))))))
            rw [h, vp_cell_q, vp_cell_q]
            exact congrArg some (ct_arr fun j hj => by rw [hr, ha _ (hlt j hj)])
/-- the new object's address is put in -/
def al_ad (ad : Nat → Nat) (N q : Nat) : Nat → Nat := fun o => if o = N then q else ad o
theorem al_ne {ad : Nat → Nat} {N q o : Nat} (h : ¬ o = N) : al_ad ad N q o = ad o := if_neg h
theorem al_eq {ad : Nat → Nat} {N q : Nat} : al_ad ad N q N = q := if_pos rfl
theorem al_lv {ad ad' : Nat → Nat} {ls : Array Slot} {n : Nat} {L : List Value} (h : tp_lv ad ls n L) (e : ∀ o, .ref o ∈ L → ad' o = ad o) : tp_lv ad' ls n L := by
  refine ⟨⟨h.1.1, h.1.2.1, fun q hq => ?_⟩, h.2⟩
  obtain ⟨v, h1, h2, h3⟩ := tp_al_mem.mp hq
  refine h.1.2.2 q (tp_al_mem.mpr ⟨v, h1, h2, ?_⟩)
  rw [h3]
  cases v with
  | ref o => exact congrArg Value.ref (e o (List.mem_of_getElem? h1))
  | _ => rfl
section ALN
variable {p : Program} {l : Launch} {e : Env} {s : State} {m : MethodId} {args : Array Value} {below : List Frame} {meth : Method} {c : Code} {cells slots : Nat} {Q : State → Prop}
variable {D : va_G} {cs : tp_CS} {A : Nat → Prop}
theorem al_new {R : Room} {cc : ByteArray} {nL n pc : Nat} {own : String} (Z : ct_S p s m args c cc nL own D cs A) {ad : Nat → Nat} {σ0 σ : tp_St} {H : Heap} {locs : List Loc} {ls : Array Slot} {L : List Value} (hW : tp_Wd D cs ad A s σ0 σ H locs) (hap : tp_ap ad A σ.2.1) (hN : σ.2.1 ≤ 64) (hkd : tp_kd σ.2.1 = 20) (hle : tp_ln σ.2.1 ≤ 100) (hcells : cells + 1 ≤ R.cells) (hslots : slots + tp_ln σ.2.1 ≤ R.slots) (hdg : decode cc pc = .ok (.newarray .int, 2)) (hl : tp_lv ad ls n L) (hL : ∀ o, .ref o ∈ L → ¬ o = σ.2.1)
    (kk : ∀ (q : Nat) (H1 : Heap), tp_Wd D cs (al_ad ad σ.2.1 q) A s (tp_new σ) (tp_new σ) H1 locs → tp_ap (al_ad ad σ.2.1 q) A (σ.2.1 + 1) → tp_lv (al_ad ad σ.2.1 q) ls n L → W p l e R s m args below meth c H1 locs (cells + 1) (slots + tp_ln σ.2.1) Q (F0 m (pc + 2) ls [.ref q])) : W p l e R s m args below meth c H locs cells slots Q (F0 m pc ls [.int (Int32.ofNat (tp_ln σ.2.1))]) := by
  obtain ⟨hP, hσ, hS⟩ := hW
  refine ct_newa Z ct_aki (tp_ln σ.2.1) (n := nI (tp_ln σ.2.1)) (nI_pos (by omega)) (nI_clamp (by omega)) (by omega) hcells hslots hdg ⟨hP, tp_ap_D hap, hS⟩ fun q H1 hW1 => ?_
  obtain ⟨hP1, hD1, hS1⟩ := hW1
  have hold : ∀ i, i < σ.2.1 → (tp_ws cs ad σ ++ [(q, .inl (cs.1, tp_ln σ.2.1, .inl fun _ => 0))])[i]? = some (ad i, tp_cell cs ad σ i) := fun i hi => by
    rw [List.getElem?_append_left (by rw [tp_ws_len]; exact hi), tp_ws_at hi]
  have hlast : (tp_ws cs ad σ ++ [(q, .inl (cs.1, tp_ln σ.2.1, .inl fun _ => 0))])[σ.2.1]? = some (q, .inl (cs.1, tp_ln σ.2.1, .inl fun _ => 0)) := by
    rw [List.getElem?_append_right (by rw [tp_ws_len]; exact Nat.le_refl _), tp_ws_len, Nat.sub_self]
    rfl
  have hat : ∀ i, i < σ.2.1 + 1 → ∃ x, (tp_ws cs ad σ ++ [(q, .inl (cs.1, tp_ln σ.2.1, .inl fun _ => 0))])[i]? = some (al_ad ad σ.2.1 q i, x) := fun i hi => by
    by_cases hi2 : i = σ.2.1
    · subst hi2
      rw [al_eq]
      exact ⟨_, hlast⟩
    · rw [al_ne hi2]
      exact ⟨_, hold i (by omega)⟩
  refine kk q H1 ⟨fun k x hk => ?_, ⟨fun _ _ => rfl, rfl⟩, hS1⟩ ⟨⟨by have := hap.1.1; omega, by omega⟩, fun i j hi hj hij => ?_, fun i hi => ?_⟩ (al_lv hl fun o ho => al_ne (hL o ho))
  · obtain ⟨hk1, rfl⟩ := tp_ws_q hk
    have hk2 : k < σ.2.1 + 1 := hk1
    by_cases hkN : k = σ.2.1
    · subst hkN
      rw [tp_cell_20 hkd, al_eq, show (tp_new σ).1 σ.2.1 = fun _ => 0 from funext fun _ => tp_new_eq]
      exact hP1 _ _ hlast
    · exact al_cell (by omega) (fun i hi => al_ne (by have := hap.1.1; omega)) (al_ne hkN) (funext fun j => tp_new_ne hkN) (hP1 k _ (hold k (by omega)))
  · obtain ⟨x, hx⟩ := hat i hi
    obtain ⟨y, hy⟩ := hat j hj
    exact hD1.1 i j _ _ hx hy hij
  · obtain ⟨x, hx⟩ := hat i hi
    exact hD1.2 i _ hx
/-- from a place where the law makes an array, the rest is done -/
def al_Go (p : Program) (l : Launch) (e : Env) (s : State) (m : MethodId) (args : Array Value) (below : List Frame) (meth : Method) (c : Code) (Q : State → Prop) (D : va_G) (cs : tp_CS) (A : Nat → Prop) (pc : Nat) (R : tp_St → Prop) (k : Nat) : Prop :=
  ∀ ad σ0 σ H locs ls cells slots, tp_Wd D cs ad A s σ0 σ H locs → tp_ap ad A σ.2.1 → tp_ro ad A s s.heap σ → tp_lv ad ls 24 (tp_exL pc) → R σ → cells + k ≤ 600000 → slots + 100 * k ≤ 7302250 → W p l e room_1 s m args below meth c H locs cells slots Q (F0 m pc ls [.int (Int32.ofNat (tp_ln σ.2.1))])
theorem al_go {own : String} (Z : ct_S p s m args c code 24 own D cs A) (hown : s.vm.findClass (tp_cls 43) = some m.cls) {pc pn N k : Nat} {R R' : tp_St → Prop} (hdg : decode code pc = .ok (.newarray .int, 2)) (hN : N ≤ 64) (hkd : tp_kd N = 20) (hle : tp_ln N ≤ 100) (hL : ∀ o, .ref o ∈ tp_exL pc → ¬ o = N) (hpn : pn < 1000000) (hnb : ¬ narrow .boolean (.int (nI pn)) = .int (nI pn))
    (hR : ∀ σ, R σ → σ.2.1 = N ∧ tp_E 43 (pc + 2) (tp_exL pc) [.ref N] (tp_new σ) (fun r σ' => r = nI pn ∧ R' σ')) (nx : al_Go p l e s m args below meth c Q D cs A pn R' k) : al_Go p l e s m args below meth c Q D cs A pc R (k + 1) := by
  intro ad σ0 σ H locs ls cells slots hW hap hro hl hRσ hc hs
  obtain ⟨hNσ, hE⟩ := hR σ hRσ
  obtain ⟨hx, hb, hml, hown0, hts, hK, hA, hEE⟩ := id Z
  rw [← hNσ] at hN hkd hle hL hE
  refine al_new (R := room_1) Z hW hap hN hkd hle (show cells + 1 ≤ 600000 by omega) (show slots + tp_ln σ.2.1 ≤ 7302250 by omega) hdg hl hL fun q H1 hW1 hap1 hl1 => ?_
  have hro1 : tp_ro (al_ad ad σ.2.1 q) A s s.heap (tp_new σ) := by
    unfold tp_ro at hro ⊢
    rw [al_ne (by omega), tp_new_ne (by omega), show (tp_new σ).1 90 = σ.1 90 from funext fun j => tp_new_ne (by omega)]
    exact hro
  have hst : [Value.ref q] = [Value.ref σ.2.1].map (tp_v (al_ad ad σ.2.1 q)) := by
    show _ = [Value.ref (al_ad ad σ.2.1 q σ.2.1)]
    rw [al_eq]
  rw [hst]
  refine tp_sound (l := l) (D := D) (cs := cs) (ad := al_ad ad σ.2.1 q) hE p e room_1 s m args below meth c _ _ _ A (tp_new σ) ⟨hx, hb, hml, hown, hts, hK, hap1, hA, hro1, Nat.le_of_ble_eq_true rfl, Nat.le_of_ble_eq_true rfl, (show cells + 1 ≤ 600000 by omega), (show slots + tp_ln σ.2.1 ≤ 7302250 by omega)⟩ ?_ ?_ ?_ H1 locs ls hW1 hl1
  · intro pc' v t σ' H locs ls hret hdg' hn hv hWd
    have ht : t = .boolean := by
      have : tp_ret 43 = some .boolean := by decide +kernel
      rw [this] at hret
      exact (Option.some.inj hret).symm
    rw [ht, hv.1] at hn
    exact absurd hn hnb
  · intro pc' σ' H locs ls hret
    exact absurd hret (by decide +kernel)
  · intro pc' σ' H2 locs2 ls2 _ hpc hdg' hv hWd hl2
    have hp : pc' = pn := (tp_ne (a := pc') (b := pn) hpc hpn).mp hv.1
    subst hp
    have e2 : σ'.2 = (tp_new σ).2 := hWd.2.1.2
    refine nx _ _ σ' H2 locs2 ls2 _ _ hWd (by rw [e2]; exact hap1) ?_ hl2 hv.2 (by omega) (by omega)
    unfold tp_ro at hro1 ⊢
    rw [hWd.2.1.1 89 (by decide), hWd.2.1.1 90 (by decide)]
    exact hro1
theorem al_end {own : String} (Z : ct_S p s m args c code 24 own D cs A) (hown : s.vm.findClass (tp_cls 43) = some m.cls) {pc N k : Nat} {R : tp_St → Prop} (hdg : decode code pc = .ok (.newarray .int, 2)) (hN : N ≤ 64) (hkd : tp_kd N = 20) (hle : tp_ln N ≤ 100) (hL : ∀ o, .ref o ∈ tp_exL pc → ¬ o = N)
    (hR : ∀ σ, R σ → σ.2.1 = N ∧ tp_E 43 (pc + 2) (tp_exL pc) [.ref N] (tp_new σ) (fun r _ => r = 1))
    (fin : ∀ pc H locs ls cells slots, decode code pc = .ok (.ireturn, 1) → va_S A s.heap H locs → cells ≤ 600000 → slots ≤ 7302250 → W p l e room_1 s m args below meth c H locs cells slots Q (F0 m pc ls [.int 1])) : al_Go p l e s m args below meth c Q D cs A pc R (k + 1) := by
  intro ad σ0 σ H locs ls cells slots hW hap hro hl hRσ hc hs
  obtain ⟨hNσ, hE⟩ := hR σ hRσ
  obtain ⟨hx, hb, hml, hown0, hts, hK, hA, hEE⟩ := id Z
  rw [← hNσ] at hN hkd hle hL hE
  refine al_new (R := room_1) Z hW hap hN hkd hle (show cells + 1 ≤ 600000 by omega) (show slots + tp_ln σ.2.1 ≤ 7302250 by omega) hdg hl hL fun q H1 hW1 hap1 hl1 => ?_
  have hro1 : tp_ro (al_ad ad σ.2.1 q) A s s.heap (tp_new σ) := by
    unfold tp_ro at hro ⊢
    rw [al_ne (by omega), tp_new_ne (by omega), show (tp_new σ).1 90 = σ.1 90 from funext fun j => tp_new_ne (by omega)]
    exact hro
  have hst : [Value.ref q] = [Value.ref σ.2.1].map (tp_v (al_ad ad σ.2.1 q)) := by
    show _ = [Value.ref (al_ad ad σ.2.1 q σ.2.1)]
    rw [al_eq]
  rw [hst]
  refine tp_sound (l := l) (D := D) (cs := cs) (ad := al_ad ad σ.2.1 q) hE p e room_1 s m args below meth c _ _ _ A (tp_new σ) ⟨hx, hb, hml, hown, hts, hK, hap1, hA, hro1, Nat.le_of_ble_eq_true rfl, Nat.le_of_ble_eq_true rfl, (show cells + 1 ≤ 600000 by omega), (show slots + tp_ln σ.2.1 ≤ 7302250 by omega)⟩ ?_ ?_ ?_ H1 locs ls hW1 hl1
  · intro pc' v t σ' H locs ls hret hdg' hn hv hWd
    have hv : v = 1 := hv
    subst hv
    exact fin pc' H locs ls _ _ hdg' hWd.2.2 (by omega) (by omega)
  · intro pc' σ' H locs ls hret
    exact absurd hret (by decide +kernel)
  · intro pc' σ' H2 locs2 ls2 _ hpc hdg' hv hWd hl2
    have hv : nI pc' = nI 1 := hv
    have hp : pc' = 1 := (tp_ne (a := pc') (b := 1) hpc (by omega)).mp hv
    subst hp
    exact absurd hdg' (by decide +kernel)
end ALN
end
section
/-! THE WORLD behind both constructors, as the mini machine has it -/
def bg_fw (cs : tp_CS) (r u1 u2 : Nat → Nat) : va_W := [((r 0), .inr (9, [.ref (r 1), .ref (r 4), .ref (r 19), .ref (r 23), .ref (r 28), .ref (r 37), .ref (r 53)])),
  ((r 1), .inr (8, [.ref (r 2), .ref (r 3), .int 0])),
  ((r 4), .inr (2, [.ref (r 5), .ref (r 12)])),
  ((r 19), .inr (7, [.ref (r 20), .ref (r 21), .ref (r 22), .int 0])),
  ((r 23), .inr (4, [.ref (r 24), .ref (r 25), .ref (r 26), .ref (r 27), .int 0])),
  ((r 28), .inl (cs.2.2.2.1, 4, .inr (.inr (.inr (.inr (va_up (va_up (va_up (va_up (fun _ => none) 0 (some (r 29))) 1 (some (r 31))) 2 (some (r 33))) 3 (some (r 35)))))))),
  ((r 37), .inr (0, [.ref (r 38), .ref (r 40), .int 0, .ref (r 46), .ref (r 52), .int 0, .int 0])),
  ((r 53), .inr (3, [.ref (r 54), .ref (r 55), .ref (r 56), .ref (r 57), .int 0, .int 0, .int 30])),
  ((r 2), .inl (cs.1, 5, .inl fun _ => 0)),
  ((r 3), .inl (cs.1, 5, .inl fun _ => 0)),
  ((r 5), .inl (cs.2.2.2.2, 6, .inr (.inr (.inr (.inr (fun i => if i < 6 then some (u1 i) else none)))))),
  ((r 12), .inl (cs.2.2.2.2, 6, .inr (.inr (.inr (.inr (fun i => if i < 6 then some (u2 i) else none)))))),
  ((r 20), .inl (cs.1, 16, .inl fun _ => 0)),
  ((r 21), .inl (cs.2.2.1, 16, .inl fun _ => 0)),
  ((r 22), .inl (cs.2.2.1, 16, .inl fun _ => 0)),
  ((r 24), .inl (cs.1, 200, .inl fun _ => 0)),
  ((r 25), .inl (cs.1, 200, .inl fun _ => 0)),
  ((r 26), .inl (cs.1, 200, .inl fun _ => 0)),
  ((r 27), .inl (cs.1, 200, .inl fun _ => 0)),
  ((r 38), .inr (6, [.ref (r 39), .int 0, .int 0, .int 0, .int 0])),
  ((r 29), .inr (5, [.ref (r 30), .int 0, .int (-1)])),
  ((r 31), .inr (5, [.ref (r 32), .int 0, .int (-1)])),
  ((r 33), .inr (5, [.ref (r 34), .int 0, .int (-1)])),
  ((r 35), .inr (5, [.ref (r 36), .int 0, .int (-1)])),
  ((r 40), .inr (1, [.ref (r 41), .ref (r 42), .ref (r 43), .ref (r 44), .ref (r 45), .int 0, .int 0, .int (-1)])),
  ((r 46), .inr (1, [.ref (r 47), .ref (r 48), .ref (r 49), .ref (r 50), .ref (r 51), .int 0, .int 0, .int (-1)])),
  ((r 52), .inl (cs.1, 3, .inl fun _ => 0)),
  ((r 39), .inl (cs.2.1, 200, .inl fun _ => 0)),
  ((r 54), .inl (cs.1, 10, .inl fun _ => 0)),
  ((r 55), .inl (cs.1, 10, .inl fun _ => 0)),
  ((r 56), .inl (cs.1, 10, .inl fun _ => 0)),
  ((r 57), .inl (cs.1, 10, .inl fun _ => 0)),
  ((r 30), .inl (cs.1, 64, .inl fun _ => 0)),
  ((r 32), .inl (cs.1, 64, .inl fun _ => 0)),
  ((r 34), .inl (cs.1, 64, .inl fun _ => 0)),
  ((r 36), .inl (cs.1, 64, .inl fun _ => 0)),
  ((r 41), .inl (cs.1, 9, .inl fun _ => 0)),
  ((r 42), .inl (cs.1, 9, .inl fun _ => 0)),
  ((r 43), .inl (cs.1, 4, .inl fun _ => 0)),
  ((r 44), .inl (cs.1, 4, .inl fun _ => 0)),
  ((r 45), .inl (cs.1, 4, .inl fun _ => 0)),
  ((r 47), .inl (cs.1, 9, .inl fun _ => 0)),
  ((r 48), .inl (cs.1, 9, .inl fun _ => 0)),
  ((r 49), .inl (cs.1, 4, .inl fun _ => 0)),
  ((r 50), .inl (cs.1, 4, .inl fun _ => 0)),
  ((r 51), .inl (cs.1, 4, .inl fun _ => 0)),
  ((u1 0), .inl (cs.1, 5, .inl fun _ => 0)),
  ((u1 1), .inl (cs.1, 5, .inl fun _ => 0)),
  ((u1 2), .inl (cs.1, 5, .inl fun _ => 0)),
  ((u1 3), .inl (cs.1, 5, .inl fun _ => 0)),
  ((u1 4), .inl (cs.1, 5, .inl fun _ => 0)),
  ((u1 5), .inl (cs.1, 5, .inl fun _ => 0)),
  ((u2 0), .inl (cs.1, 5, .inl fun _ => 0)),
  ((u2 1), .inl (cs.1, 5, .inl fun _ => 0)),
  ((u2 2), .inl (cs.1, 5, .inl fun _ => 0)),
  ((u2 3), .inl (cs.1, 5, .inl fun _ => 0)),
  ((u2 4), .inl (cs.1, 5, .inl fun _ => 0)),
  ((u2 5), .inl (cs.1, 5, .inl fun _ => 0))]
def bg_ad (r u1 u2 : Nat → Nat) (b : Nat) : Nat → Nat := fun o => [(r 0), (r 1), (r 4), (r 19), (r 23), (r 28), (r 37), (r 53), (r 2), (r 3), (r 5), (r 12), (r 20), (r 21), (r 22), (r 24), (r 25), (r 26), (r 27), (r 38), (r 29), (r 31), (r 33), (r 35), (r 40), (r 46), (r 52), (r 39), (r 54), (r 55), (r 56), (r 57), (r 30), (r 32), (r 34), (r 36), (r 41), (r 42), (r 43), (r 44), (r 45), (r 47), (r 48), (r 49), (r 50), (r 51), (u1 0), (u1 1), (u1 2), (u1 3), (u1 4), (u1 5), (u2 0), (u2 1), (u2 2), (u2 3), (u2 4), (u2 5), 0, 0, 0, 0, 0, 0, 0, 0, 0, 0, 0, 0, 0, 0, 0, 0, 0, 0, 0, 0, 0, 0, 0, 0, 0, 0, 0, 0, 0, 0, 0, 0, b].getD o 0
section CTC
variable {D : va_G} {cs : tp_CS} {A : Nat → Prop} {s : State} {H : Heap} {locs : List Loc} {ad : Nat → Nat} {ro : Nat → Nat → Int32} {k a n : Nat}
theorem bg_int (hk : tp_kd k = 20) (hn : tp_ln k = n) (ha : ad k = a) (hz : 8 ≤ k ∧ k < 58 ∧ (k < 20 ∨ 25 < k)) (h : va_at D vwCl (a, .inl (cs.1, n, .inl fun _ => 0)) H) : va_at D vwCl (ad k, tp_cell cs ad (s_i ro) k) H := by
  subst ha
  subst hn
  rw [tp_cell_20 hk, show (s_i ro).1 k = fun _ => 0 from funext fun j => s_i0 (by omega)]
  exact h
theorem bg_byt (hk : tp_kd k = 21) (hn : tp_ln k = n) (ha : ad k = a) (hz : 8 ≤ k ∧ k < 58 ∧ (k < 20 ∨ 25 < k)) (h : va_at D vwCl (a, .inl (cs.2.1, n, .inl fun _ => 0)) H) : va_at D vwCl (ad k, tp_cell cs ad (s_i ro) k) H := by
  subst ha
  subst hn
  rw [tp_cell_21 hk, show (s_i ro).1 k = fun _ => 0 from funext fun j => s_i0 (by omega)]
  exact h
theorem bg_boo (hk : tp_kd k = 22) (hn : tp_ln k = n) (ha : ad k = a) (hz : 8 ≤ k ∧ k < 58 ∧ (k < 20 ∨ 25 < k)) (h : va_at D vwCl (a, .inl (cs.2.2.1, n, .inl fun _ => 0)) H) : va_at D vwCl (ad k, tp_cell cs ad (s_i ro) k) H := by
  subst ha
  subst hn
  rw [tp_cell_22 hk, show (s_i ro).1 k = fun _ => 0 from funext fun j => s_i0 (by omega)]
  exact h
theorem bg_obj {c : Nat} {fs : List Value} (hk : tp_kd k = c) (hc : c < 20) (ha : ad k = a) (hf : tp_fs ad (s_i ro) k = fs) (h : va_at D vwCl (a, .inr (c, fs)) H) : va_at D vwCl (ad k, tp_cell cs ad (s_i ro) k) H := by
  subst ha
  subst hk
  subst hf
  rw [tp_cell_cls hc]
  exact h
theorem bg_shs {f : Nat → Option Nat} (hk : tp_kd k = 23) (hn : tp_ln k = n) (ha : ad k = a) (hf : ∀ j, j < n → f j = some (ad (tp_rr (s_i ro) k j))) (h : va_at D vwCl (a, .inl (cs.2.2.2.1, n, .inr (.inr (.inr (.inr f))))) H) : va_at D vwCl (ad k, tp_cell cs ad (s_i ro) k) H := by
  subst ha
  subst hn
  rw [tp_cell_23 hk]
  have h : H[ad k]? = some (vp_cell cs.2.2.2.1 (tp_ln k, .inr (.inr (.inr (.inr f))))) := h
  show H[ad k]? = some (vp_cell cs.2.2.2.1 (tp_ln k, .inr (.inr (.inr (.inr (fun j => some (ad (tp_rr (s_i ro) k j))))))))
  rw [h, vp_cell_q, vp_cell_q]
  exact congrArg some (ct_arr fun j hj => by rw [hf j hj])
theorem bg_row {f : Nat → Option Nat} (hk : tp_kd k = 24) (hn : tp_ln k = n) (ha : ad k = a) (hf : ∀ j, j < n → f j = some (ad (tp_rr (s_i ro) k j))) (h : va_at D vwCl (a, .inl (cs.2.2.2.2, n, .inr (.inr (.inr (.inr f))))) H) : va_at D vwCl (ad k, tp_cell cs ad (s_i ro) k) H := by
  subst ha
  subst hn
  rw [tp_cell_24 hk]
  have h : H[ad k]? = some (vp_cell cs.2.2.2.2 (tp_ln k, .inr (.inr (.inr (.inr f))))) := h
  show H[ad k]? = some (vp_cell cs.2.2.2.2 (tp_ln k, .inr (.inr (.inr (.inr (fun j => some (ad (tp_rr (s_i ro) k j))))))))
  rw [h, vp_cell_q, vp_cell_q]
  exact congrArg some (ct_arr fun j hj => by rw [hf j hj])
end CTC
set_option maxHeartbeats 4000000 in
set_option maxRecDepth 100000 in
theorem bg_fwW {D : va_G} {cs : tp_CS} {A : Nat → Prop} {s : State} {H : Heap} {locs : List Loc} {r u1 u2 : Nat → Nat} (hW : ct_W D A s (sw_X9 cs r u1 u2) H locs) : ct_W D A s (bg_fw cs r u1 u2) H locs :=
  ⟨hW.1.sub [0, 1, 4, 19, 23, 28, 37, 53, 2, 3, 5, 12, 20, 21, 22, 24, 25, 26, 27, 38, 29, 31, 33, 35, 40, 46, 52, 39, 54, 55, 56, 57, 30, 32, 34, 36, 41, 42, 43, 44, 45, 47, 48, 49, 50, 51, 6, 7, 8, 9, 10, 11, 13, 14, 15, 16, 17, 18] rfl, hW.2.1.sub [0, 1, 4, 19, 23, 28, 37, 53, 2, 3, 5, 12, 20, 21, 22, 24, 25, 26, 27, 38, 29, 31, 33, 35, 40, 46, 52, 39, 54, 55, 56, 57, 30, 32, 34, 36, 41, 42, 43, 44, 45, 47, 48, 49, 50, 51, 6, 7, 8, 9, 10, 11, 13, 14, 15, 16, 17, 18] (by decide +kernel) rfl, hW.2.2⟩
set_option maxHeartbeats 4000000 in
set_option maxRecDepth 100000 in
theorem bg_P {D : va_G} {cs : tp_CS} {H : Heap} {r u1 u2 : Nat → Nat} {b : Nat} {ro : Nat → Nat → Int32} (h : va_P D vwCl (bg_fw cs r u1 u2) H) : ∀ k, k < 58 → va_at D vwCl (bg_ad r u1 u2 b k, tp_cell cs (bg_ad r u1 u2 b) (s_i ro) k) H
  | 0, _ => bg_obj (c := 9) rfl (by decide) rfl rfl (h 0 _ rfl)
  | 1, _ => bg_obj (c := 8) rfl (by decide) rfl rfl (h 1 _ rfl)
  | 2, _ => bg_obj (c := 2) rfl (by decide) rfl rfl (h 2 _ rfl)
  | 3, _ => bg_obj (c := 7) rfl (by decide) rfl rfl (h 3 _ rfl)
  | 4, _ => bg_obj (c := 4) rfl (by decide) rfl rfl (h 4 _ rfl)
  | 5, _ => bg_shs (n := 4) rfl rfl rfl (fun j hj => by
      match j, hj with
      | 0, _ => rfl
      | 1, _ => rfl
      | 2, _ => rfl
      | 3, _ => rfl
      | j + 4, h => exact absurd h (by omega)) (h 5 _ rfl)
  | 6, _ => bg_obj (c := 0) rfl (by decide) rfl rfl (h 6 _ rfl)
  | 7, _ => bg_obj (c := 3) rfl (by decide) rfl rfl (h 7 _ rfl)
  | 8, _ => bg_int rfl rfl rfl (by decide) (h 8 _ rfl)
  | 9, _ => bg_int rfl rfl rfl (by decide) (h 9 _ rfl)
  | 10, _ => bg_row (n := 6) rfl rfl rfl (fun j hj => by
      match j, hj with
      | 0, _ => rfl
      | 1, _ => rfl
      | 2, _ => rfl
      | 3, _ => rfl
      | 4, _ => rfl
      | 5, _ => rfl
      | j + 6, h => exact absurd h (by omega)) (h 10 _ rfl)
  | 11, _ => bg_row (n := 6) rfl rfl rfl (fun j hj => by
      match j, hj with
      | 0, _ => rfl
      | 1, _ => rfl
      | 2, _ => rfl
      | 3, _ => rfl
      | 4, _ => rfl
      | 5, _ => rfl
      | j + 6, h => exact absurd h (by omega)) (h 11 _ rfl)
  | 12, _ => bg_int rfl rfl rfl (by decide) (h 12 _ rfl)
  | 13, _ => bg_boo rfl rfl rfl (by decide) (h 13 _ rfl)
  | 14, _ => bg_boo rfl rfl rfl (by decide) (h 14 _ rfl)
  | 15, _ => bg_int rfl rfl rfl (by decide) (h 15 _ rfl)
  | 16, _ => bg_int rfl rfl rfl (by decide) (h 16 _ rfl)
  | 17, _ => bg_int rfl rfl rfl (by decide) (h 17 _ rfl)
  | 18, _ => bg_int rfl rfl rfl (by decide) (h 18 _ rfl)
  | 19, _ => bg_obj (c := 6) rfl (by decide) rfl rfl (h 19 _ rfl)
  | 20, _ => bg_obj (c := 5) rfl (by decide) rfl rfl (h 20 _ rfl)
  | 21, _ => bg_obj (c := 5) rfl (by decide) rfl rfl (h 21 _ rfl)
  | 22, _ => bg_obj (c := 5) rfl (by decide) rfl rfl (h 22 _ rfl)
  | 23, _ => bg_obj (c := 5) rfl (by decide) rfl rfl (h 23 _ rfl)
  | 24, _ => bg_obj (c := 1) rfl (by decide) rfl rfl (h 24 _ rfl)
  | 25, _ => bg_obj (c := 1) rfl (by decide) rfl rfl (h 25 _ rfl)
  | 26, _ => bg_int rfl rfl rfl (by decide) (h 26 _ rfl)
  | 27, _ => bg_byt rfl rfl rfl (by decide) (h 27 _ rfl)
  | 28, _ => bg_int rfl rfl rfl (by decide) (h 28 _ rfl)
  | 29, _ => bg_int rfl rfl rfl (by decide) (h 29 _ rfl)
  | 30, _ => bg_int rfl rfl rfl (by decide) (h 30 _ rfl)
  | 31, _ => bg_int rfl rfl rfl (by decide) (h 31 _ rfl)
  | 32, _ => bg_int rfl rfl rfl (by decide) (h 32 _ rfl)
  | 33, _ => bg_int rfl rfl rfl (by decide) (h 33 _ rfl)
  | 34, _ => bg_int rfl rfl rfl (by decide) (h 34 _ rfl)
  | 35, _ => bg_int rfl rfl rfl (by decide) (h 35 _ rfl)
  | 36, _ => bg_int rfl rfl rfl (by decide) (h 36 _ rfl)
  | 37, _ => bg_int rfl rfl rfl (by decide) (h 37 _ rfl)
  | 38, _ => bg_int rfl rfl rfl (by decide) (h 38 _ rfl)
  | 39, _ => bg_int rfl rfl rfl (by decide) (h 39 _ rfl)
  | 40, _ => bg_int rfl rfl rfl (by decide) (h 40 _ rfl)
  | 41, _ => bg_int rfl rfl rfl (by decide) (h 41 _ rfl)
  | 42, _ => bg_int rfl rfl rfl (by decide) (h 42 _ rfl)
  | 43, _ => bg_int rfl rfl rfl (by decide) (h 43 _ rfl)
  | 44, _ => bg_int rfl rfl rfl (by decide) (h 44 _ rfl)
  | 45, _ => bg_int rfl rfl rfl (by decide) (h 45 _ rfl)
  | 46, _ => bg_int rfl rfl rfl (by decide) (h 46 _ rfl)
  | 47, _ => bg_int rfl rfl rfl (by decide) (h 47 _ rfl)
  | 48, _ => bg_int rfl rfl rfl (by decide) (h 48 _ rfl)
  | 49, _ => bg_int rfl rfl rfl (by decide) (h 49 _ rfl)
  | 50, _ => bg_int rfl rfl rfl (by decide) (h 50 _ rfl)
  | 51, _ => bg_int rfl rfl rfl (by decide) (h 51 _ rfl)
  | 52, _ => bg_int rfl rfl rfl (by decide) (h 52 _ rfl)
  | 53, _ => bg_int rfl rfl rfl (by decide) (h 53 _ rfl)
  | 54, _ => bg_int rfl rfl rfl (by decide) (h 54 _ rfl)
  | 55, _ => bg_int rfl rfl rfl (by decide) (h 55 _ rfl)
  | 56, _ => bg_int rfl rfl rfl (by decide) (h 56 _ rfl)
  | 57, _ => bg_int rfl rfl rfl (by decide) (h 57 _ rfl)
  | k + 58, h => absurd h (by omega)
theorem bg_ws {D : va_G} {cs : tp_CS} {A : Nat → Prop} {s : State} {H : Heap} {locs : List Loc} {r u1 u2 : Nat → Nat} {b : Nat} {ro : Nat → Nat → Int32} (hW : ct_W D A s (bg_fw cs r u1 u2) H locs) : va_P D vwCl (tp_ws cs (bg_ad r u1 u2 b) (s_i ro)) H ∧ tp_ap (bg_ad r u1 u2 b) A 58 := by
  have hl : (bg_fw cs r u1 u2).length = 58 := rfl
  have hm : (bg_fw cs r u1 u2).map Prod.fst = (List.range 58).map (bg_ad r u1 u2 b) := rfl
  have ha : ∀ i, i < 58 → ∃ e, (bg_fw cs r u1 u2)[i]? = some (bg_ad r u1 u2 b i, e) := by
    intro i hi
    have h1 : ((bg_fw cs r u1 u2).map Prod.fst)[i]? = some (bg_ad r u1 u2 b i) := by
      rw [hm, List.getElem?_map, List.getElem?_range hi]
      rfl
    rw [List.getElem?_map] at h1
    cases hq : (bg_fw cs r u1 u2)[i]? with
    | none => rw [hq] at h1; cases h1
    | some q =>
      rw [hq] at h1
      exact ⟨q.2, by rw [← Option.some.inj h1]⟩
  refine ⟨fun k q hk => ?_, ⟨by omega, by omega⟩, fun i j hi hj e => ?_, fun i hi => ?_⟩
  · obtain ⟨hl, rfl⟩ := tp_ws_q hk
    exact bg_P hW.1 k hl
  · obtain ⟨e1, h1⟩ := ha i hi
    obtain ⟨e2, h2⟩ := ha j hj
    exact hW.2.1.1 i j _ _ h1 h2 e
  · obtain ⟨e1, h1⟩ := ha i hi
    exact hW.2.1.2 i _ h1
end
section
/-! THE CLAIM OUT OF ONE WALK OF THE LAW'S BODY. Your part is whole_start (and what it stands on); all else here is the same for every law, but numbers. -/
def R_law : String := "TramPenceLaw"
def lw_P (b : Addr) (xs : List Int32) (args : Array Value) (s : State) : Prop := args = #[.ref b] ∧ s.IntsAt b xs ∧ xs.length ≤ 260 ∧ (Jvm.Cond.and given_1 narrow_1).before args s = true
def lw_Q (_ : Array Value) (s : State) (o : Outcome) (t : State) : Prop := o = .returned (some (.int 1)) ∧ Framed s o t [] 600000 7302250
def lw_Z (below : List Frame) (a : Array Value) (s : State) : State → Prop := fun t => ∃ o, t.status = .running ∧ Ended t below o ∧ lw_Q a s o t
/-- the law's own end, with 1 on the stack, nothing written that was there before, its room as the claim has it -/
theorem lw_ret {p : Program} {l : Launch} {e : Env} {s : State} {m : MethodId} {below : List Frame} {meth : Method} {c : Code} {b : Nat} (hx : p.tables.exec = Jvm.exec) (hb : c.code = code) (hr : meth.sig.returnType = ret) (hlocks : meth.locks = false) {pc : Nat} {H : Heap} {ls : Array Slot} (hdg : decode code pc = .ok (.ireturn, 1)) : W p l e room_1 s m #[Value.ref b] below meth c H [] 600000 7302250 (lw_Z below #[Value.ref b] s) (F0 m pc ls [.int 1]) := by
  intro T hT X
  obtain ⟨fs, hret, hrun, hended, hW, hframe⟩ := X.leave (v := some (.int 1)) (hlocks := hlocks) (fun h => by rw [hr] at h; cases h)
  have hmeth' : T.vm.method? m = some meth := X.method'
  refine ⟨T.setFrames fs, ?_, .returned (some (.int 1)), hrun, hended, rfl, ⟨_, rfl⟩, hW, hframe⟩
  jvm_step X.here [X.here.top, hx, hb, hdg, hmeth', hr, ret, narrow_b1]
  (try refine ⟨rfl, ?_⟩); (try refine ⟨rfl, ?_⟩)
  first | (intro acts; rw [hret _ acts rfl rfl rfl]) | rw [hret _ _ rfl rfl rfl]
  exact Steps.refl _
/-- what holds at the law's entry: the machine, the code, the tables' words (any of lw_tbl by 'hts w (by decide +kernel)'), the script of L ints xs at the cell b, what the Statement gives of the start (any of its parts by flat_of_before) -/
def lw_At (p : Program) (s : State) (m : MethodId) (meth : Method) (c : Code) (b L : Nat) (xs : Nat → Int32) : Prop :=
  p.tables.exec = Jvm.exec ∧ c.code = code ∧ meth.sig.returnType = ret ∧ c.maxLocals = 24 ∧ s.vm.findClass R_law = some m.cls ∧ (∀ w ∈ lw_tbl, w.before #[Value.ref b] s = true) ∧ va_X b L xs s s.heap ∧ b < s.heap.size ∧ meth.locks = false ∧ (Jvm.Cond.and given_1 narrow_1).before #[Value.ref b] s = true
-- ===== YOUR PART BEGINS =====
theorem sl_0 : decode code 0 = .ok (.new 20, 3) := by decide +kernel
theorem sl_3 : decode code 3 = .ok (.dup, 1) := by decide +kernel
theorem sl_4 : decode code 4 = .ok (.invokespecial 25, 3) := by decide +kernel
theorem sl_7 : decode code 7 = .ok (.astore_n 1, 1) := by decide +kernel
theorem sl_8 : decode code 8 = .ok (.iconst 2, 1) := by decide +kernel
theorem sl_9 : decode code 9 = .ok (.newarray .int, 2) := by decide +kernel
theorem sl_43 : decode code 43 = .ok (.newarray .int, 2) := by decide +kernel
theorem sl_110 : decode code 110 = .ok (.newarray .int, 2) := by decide +kernel
theorem sl_115 : decode code 115 = .ok (.newarray .int, 2) := by decide +kernel
theorem sl_141 : decode code 141 = .ok (.newarray .int, 2) := by decide +kernel
theorem sl_147 : decode code 147 = .ok (.newarray .int, 2) := by decide +kernel
theorem sl_321 : decode code 321 = .ok (.newarray .int, 2) := by decide +kernel
/-- what is only read: the script and its length -/
def sl_ro (L : Nat) (xs : Nat → Int32) : Nat → Nat → Int32 := fun o k => if o = 89 then nI L else if o = 90 then xs k else 0
theorem sl_X {b L : Nat} {xs : Nat → Int32} {s : State} {A : Nat → Prop} (hL : L < 2 ^ 31) (h : va_X b L xs s s.heap) (hA : ¬ A b) : va_T .int b L (fun j => .int (xs j)) A s s.heap := by
  obtain ⟨scr, h1, h2, h3, h4, h5⟩ := h
  exact ⟨scr, h1, h2, h3, by rw [h4]; exact Nat.le_refl _, by rw [h4], h5, hA⟩
theorem sl_exL {pc N : Nat} (h : ((tp_exL pc).all fun v => match v with
  | .ref o => o != N
  | _ => true) = true) : ∀ o, .ref o ∈ tp_exL pc → ¬ o = N := fun o ho => by
  have := List.all_eq_true.mp h _ ho
  simpa using this
set_option maxHeartbeats 4000000 in
set_option maxRecDepth 100000 in
/-- YOUR PART: from the entry, for every script of at most 260 ints, the law comes to its end with true -/
theorem whole_start {p : Program} {e : Env} {s : State} {m : MethodId} {below : List Frame} {meth : Method} {c : Code} (l : Launch) (hflags : l.flags = flags0) {b L : Nat} {xs : Nat → Int32} (hL : L ≤ 260) (C0 : lw_At p s m meth c b L xs) : W p l e room_1 s m #[Value.ref b] below meth c s.heap [] 0 0 (lw_Z below #[Value.ref b] s) (entryFrame m ([Value.ref b] : List Value).toArray 24) := by
  obtain ⟨hx, hb, hr, hml, hown, htbl, hX, hbl, hlocks, hgv⟩ := C0
  have hts : ∀ w ∈ tp_gt, w.before #[.ref b] s = true := fun w hw => htbl w (List.mem_filter.mp hw).1
  obtain ⟨D, hD0⟩ := bg_classes hts
  obtain ⟨cs, hcs⟩ := bg_arr htbl
  have hK : va_K D vwCl (tp_tys cs) s := ⟨hD0, hcs⟩
  generalize hAe : (fun q : Nat => s.heap.size ≤ q) = A
  have hA : ∀ q : Nat, s.heap.size ≤ q → A q := fun q h => by rw [← hAe]; exact h
  have hA2 : ∀ q : Nat, A q → s.heap.size ≤ q := fun q h => by rw [← hAe] at h; exact h
  have hA3 : ∀ a : Nat, a < s.heap.size → ¬ A a := fun a h h2 => by have := hA2 a h2; omega
  have Z : ct_S p s m #[.ref b] c code 24 R_law D cs A := ⟨hx, hb, hml, hown, hts, hK, hA, bg_E htbl⟩
  have hl := lv_entry ([.ref b]) (n := 24) (Nat.le_of_ble_eq_true rfl)
  rw [lg_entry_eq]
  generalize (lg_sl ([.ref b]) ++ List.replicate (24 - (lg_sl ([.ref b])).length) Slot.unset).toArray = ls at hl ⊢
  have hl : lv_has ls 24 [(0, .ref b)] := hl
  have hW : ct_W D A s [] s.heap [] := ⟨fun k q h => (by cases h), ⟨fun i j x y h => (by cases h), fun k q h => (by cases h)⟩, va_S.rf⟩
  refine ct_make Z (ctor_X9 l) 20 25 (C' := RX9) (T' := TX9) (N' := 7) rfl (ty0 := tyX9) tyX9_ok (by decide +kernel) (tp_gt_in (i := 19) (by decide +kernel)) (tp_gt_in (i := 20) (by decide +kernel)) (tp_gt_in (i := 8) (by decide +kernel)) rfl ⟨by decide +kernel, by decide +kernel⟩ (tp_gt_in (i := 22) (by decide +kernel)) (tp_gt_in (i := 23) (by decide +kernel)) (Or.inr (tp_gt_in (i := 21) (by decide +kernel))) ⟨Nat.le_of_ble_eq_true rfl, Nat.le_of_ble_eq_true rfl⟩ (Nat.le_of_ble_eq_true rfl) (Nat.le_of_ble_eq_true rfl) hl.1 (show 0 + 1 ≤ 8 by decide) sl_0 sl_3 sl_4 hW fun q1 w1 H locs hS1 hW => ?_
  obtain ⟨r, u1, u2, rfl, rfl⟩ := hS1
  have hW : ct_W D A s (sw_X9 cs r u1 u2) H locs := hW
  refine lv_astore_n (i := 1) hx hb sl_7 rfl hl (by decide) rfl fun ls hl => ?_
  refine lv_iconst (v := 2) hx hb sl_8 rfl ?_
  have hW := bg_fwW hW
  obtain ⟨hP, hap⟩ := bg_ws (b := b) (ro := sl_ro L xs) hW
  have h89 : (s_i (sl_ro L xs)).1 89 0 = nI L := s_i_ro (by decide)
  have hcl : ((s_i (sl_ro L xs)).1 89 0).toNatClampNeg = L := by
    rw [h89]
    exact nI_clamp (by omega)
  have hro : tp_ro (bg_ad r u1 u2 b) A s s.heap (s_i (sl_ro L xs)) := by
    unfold tp_ro
    rw [hcl]
    exact bg_T (sl_X (by omega) hX (hA3 b hbl)) (fun j _ => by rw [show (s_i (sl_ro L xs)).1 90 j = xs j from s_i_ro (by decide)])
  have hlv : tp_lv (bg_ad r u1 u2 b) ls 24 (tp_exL 9) := ⟨lv_sub hl [1, 0] rfl, rfl⟩
  have hown2 : s.vm.findClass (tp_cls 43) = some m.cls := hown
  have g7 : al_Go p l e s m #[.ref b] below meth c (lw_Z below #[Value.ref b] s) D cs A 321 (R6 L) 1 :=
    al_end Z hown2 (N := 64) sl_321 (by omega) (by decide +kernel) (by decide +kernel) (sl_exL (by decide +kernel)) (fun σ h => ⟨by obtain ⟨_, _, _, _, h, _⟩ := h; rw [h], r_7 h⟩) (fun pc H locs ls cells slots hdg hS hc hs => by
      refine va_forget (fun q hq => hA2 _ (hS.2.2 q hq)) ?_
      refine W.widen (k := 600000) (n := 7302250) hc hs ?_
      exact lw_ret hx hb hr hlocks hdg)
  have g6 := al_go Z hown2 (N := 63) (pn := 321) (R := R5 L) sl_147 (by omega) (by decide +kernel) (by decide +kernel) (sl_exL (by decide +kernel)) (by omega) (by decide +kernel) (fun σ h => ⟨by rw [h.1], r_6 h⟩) g7
  have g5 := al_go Z hown2 (N := 62) (pn := 147) (R := R4 L) sl_141 (by omega) (by decide +kernel) (by decide +kernel) (sl_exL (by decide +kernel)) (by omega) (by decide +kernel) (fun σ h => ⟨by rw [h.1], r_5 h⟩) g6
  have g4 := al_go Z hown2 (N := 61) (pn := 141) (R := R3 L) sl_115 (by omega) (by decide +kernel) (by decide +kernel) (sl_exL (by decide +kernel)) (by omega) (by decide +kernel) (fun σ h => ⟨by rw [h.1], r_4 h⟩) g5
  have g3 := al_go Z hown2 (N := 60) (pn := 115) (R := R2 L) sl_110 (by omega) (by decide +kernel) (by decide +kernel) (sl_exL (by decide +kernel)) (by omega) (by decide +kernel) (fun σ h => ⟨by rw [h.1], r_3 h⟩) g4
  have g2 := al_go Z hown2 (N := 59) (pn := 110) (R := R1 L) sl_43 (by omega) (by decide +kernel) (by decide +kernel) (sl_exL (by decide +kernel)) (by omega) (by decide +kernel) (fun σ h => ⟨by rw [h.1], r_2 h⟩) g3
  have g1 := al_go Z hown2 (N := 58) (pn := 43) (R := R0 L) sl_9 (by omega) (by decide +kernel) (by decide +kernel) (sl_exL (by decide +kernel)) (by omega) (by decide +kernel) (fun σ h => ⟨by rw [h.1], r_0 h⟩) g2
  exact g1 (bg_ad r u1 u2 b) (s_i (sl_ro L xs)) (s_i (sl_ro L xs)) H locs ls _ _ ⟨hP, ⟨fun _ _ => rfl, rfl⟩, hW.2.2⟩ hap hro hlv (s_i_R rfl (by omega)) (Nat.le_of_ble_eq_true rfl) (Nat.le_of_ble_eq_true rfl)
-- ===== YOUR PART ENDS =====
set_option maxHeartbeats 4000000 in
theorem lw_walk (l : Launch) (hflags : l.flags = flags0) (b : Addr) (xs : List Int32) : MetFree l x (headSpec (Jvm.Cond.code x code maxLocals ret :: tables_1) room_1) (lw_P b xs) (fun _ _ _ _ _ => True) lw_Q := by
  refine MetFree.of_bodyS (code := code) (maxLocals := maxLocals) (ret := ret) (by decide) ?_ ?_
  · intro args s m h hn
    obtain ⟨meth, c, h1, h2, h3, h4, h5, h6, -, -⟩ := Cond.code_spec hn (atoms_spec (ws := Jvm.Cond.code x code maxLocals ret :: tables_1) h _ List.mem_cons_self)
    exact ⟨meth, c, h1, h2, h3, h4, h5, h6⟩
  · intro p e s m args below meth c s₁ B hml0 hP _
    obtain ⟨rfl, hx, hbd, hgv⟩ := hP
    obtain ⟨scr, harrAt, hlist, hof, hsmall⟩ := hx
    obtain ⟨hcb, hkn, -, -⟩ := State.arrayAt?_spec harrAt
    have hown : s.vm.findClass R_law = some m.cls := findClass_of_methodNamed B.named
    have hts0 : ∀ c ∈ (Jvm.Cond.code x code maxLocals ret :: tables_1), c.before #[Value.ref b] s = true := atoms_spec (ws := Jvm.Cond.code x code maxLocals ret :: tables_1) B.pre
    have hts : ∀ w ∈ lw_tbl, w.before #[Value.ref b] s = true := k2_hts_sels lw_privs (fun w hw => hts0 w (List.mem_cons_of_mem _ hw)) lw_privs_ok
    have hml : c.maxLocals = 24 := B.maxLocals_eq (hts0 _ List.mem_cons_self)
    have X₀ : Stand p l e room_1 s m #[Value.ref b] below meth c s₁ [] 0 0 := Stand.of_body B
    have hh0 : s₁.heap = s.heap := by rw [B.state]; rfl
    have hsz : scr.slots.size = xs.length := by rw [← Array.length_toList, hlist, List.length_map]
    have hval : ∀ j : Nat, j < xs.length → scr.slots[j]? = some (.int (xs.getD j 0)) := fun j hj => by
      rw [← Array.getElem?_toList, hlist]
      simp [hj]
    have hbl : b < s.heap.size := (Array.getElem?_eq_some_iff.mp hcb).1
    have hX : va_X b xs.length (fun j => xs.getD j 0) s s.heap := ⟨scr, hcb, hof, hkn, hsz, hval⟩
    have K : W p l e room_1 s m #[Value.ref b] below meth c s₁.heap [] 0 0 (lw_Z below #[Value.ref b] s) (entryFrame m ([Value.ref b] : List Value).toArray 24) := by
      rw [hh0]
      exact whole_start l hflags hbd ⟨B.exec, B.bytes, B.returns, hml, hown, hts, hX, hbl, B.notSynchronized, hgv⟩
    obtain ⟨t, a1, o, b1, b2, b3⟩ := K s₁ rfl X₀
    exact ⟨t, o, a1, b1, b2, b3⟩
theorem lw_pre_spec {args : Array Value} {s : State} (h : (Jvm.Cond.and given_1 narrow_1).before args s = true) (hr : rest_1_c.before args s = true) : ∃ (b : Addr) (xs : List Int32), lw_P b xs args s := by
  have hs := flat_of_before _ h
  have hq := flat_of_before _ hr
  have hc : (Cond.count 1).before args s = true := hs _ (by decide +kernel)
  have harr : (Cond.arrayOf (.arg 0) .int).before args s = true := hs _ (by decide +kernel)
  have hle : (Cond.le (.length (.arg 0)) (.int 260)).before args s = true := hs _ (by decide +kernel)
  have hlen : (Cond.isInt (.length (.arg 0))).before args s = true := hq _ (by decide +kernel)
  have hall : (Cond.all (.arg 0) (.isInt (.elem (.arg 0) (.index 0)))).before args s = true := hq _ (by decide +kernel)
  obtain ⟨b, xs, hb, hx⟩ := State.ints_of_pre rfl harr hlen hall
  have hsm : xs.length < 2 ^ 31 := hx.choose_spec.2.2.2
  have hev : (Term.length (.arg 0)).eval args s none [] s = some (.int xs.length.toInt32) := hx.length_eval hb
  have hv := Cond.le_ints hev (show (Term.int 260).eval args s none [] s = some (.int 260) from rfl)
  have hd : xs.length.toInt32 ≤ 260 := by
    simpa [Cond.before, Cond.holds, hv] using hle
  have hN : xs.length ≤ 260 := (Int32.ofNat_le_ofNat hsm (by decide)).mp (show Int32.ofNat xs.length ≤ Int32.ofNat 260 from hd)
  exact ⟨b, xs, Cond.one_arg hc (show args[0]? = some (.ref b) from hb), hx, hN, h⟩
theorem lw_comes (l : Launch) (hflags : l.flags = flags0) : Comes l x (Jvm.Cond.code x code maxLocals ret :: tables_1) room_1 (fun tb e args s => Calls_1 tb e args s ∧ rest_1 tb e args s ∧ Pre_1 tb e args s)
    (fun _ _ args s o t => lw_Q args s o t) := by
  intro p e ha hc hk s m args below hf hfit hheap happ hpre
  obtain ⟨b, xs, hP⟩ := lw_pre_spec hpre.2.2 hpre.2.1
  obtain ⟨k, o, h1, h2, h3, hQ⟩ := lw_walk l hflags b xs p e ha hc hk s m args below hf ((Spec.applies_iff_loose hf).mp happ).1 hP trivial
  exact ⟨k, o, h1, h2, h3, hQ⟩
theorem lw_frame {s t : State} {o : Outcome} {args : Array Value} (h : Framed s o t [] 600000 7302250) :
    Framed s o t (fieldLocs frame_1_writes args s ++ arrayLocs frame_1_arrays args s ++ staticLocs frame_1_statics s) 600000 7302250 := h
theorem lw_limb (L : Cond) (hL : ∀ (args : Array Value) (s t : State), L.after args s (.returned (some (.int 1))) t = true) :
    ArmFor flags0 classFile x code maxLocals ret World_1 tables_1 room_1 Calls_1 rest_1 Pre_1
      (fun tb e a s o t => postC L tb e a s o t ∧ Framed s o t (fieldLocs frame_1_writes a s ++ arrayLocs frame_1_arrays a s ++ staticLocs frame_1_statics s) 600000 7302250) := by
  intro l hflags _ _ p e ha hc hk s m args below hf hfit hheap happ hpre
  obtain ⟨k, o, h1, h2, h3, rfl, hF⟩ := lw_comes l hflags p e ha hc hk s m args below hf hfit hheap happ hpre
  exact ⟨k, _, h1, h2, h3, hL args s _, lw_frame hF⟩
theorem i_vc : Claimed_1_1 ∧ Claimed_1_2 := ⟨lw_limb limb_1_1 (fun args s t => by simp [limb_1_1, Cond.after, Cond.holds, Cond.value]), lw_limb limb_1_2 (fun args s t => Cond.after_iff.mpr (by
  first | (rw [show limb_1_2 = Cond.eq .result (.int 1) from rfl, Cond.eq_ints (x := 1) (y := 1) rfl rfl]; simp; done) | (simp [limb_1_2, Cond.value, Term.eval]; done)))⟩
end
