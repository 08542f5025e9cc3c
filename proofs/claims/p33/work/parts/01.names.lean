-- ===== PART A: goes FIRST, ahead of the names: the tables' words, and 'selects' of the private methods out of them =====
/-- a private method of a class that the tables say can be made, by its rows of tables_1 -/
def lw_okq (q : MethodName × Nat) : Prop := (q.1.cls ≠ "java/lang/invoke/MethodHandle" ∧ q.1.cls ≠ "java/lang/invoke/VarHandle") ∧ Cond.instantiable q.1.cls q.2 ∈ tables_1 ∧ Cond.privateMethod q.1 ∈ tables_1 ∧ Cond.instanceMethod q.1 ∈ tables_1
theorem lw_p0 : lw_okq (⟨"TramPence", "hasPack", "(II)Z"⟩, 7) := ⟨⟨by decide +kernel, by decide +kernel⟩, List.mem_of_getElem? (i := 13) (by decide +kernel), List.mem_of_getElem? (i := 258) (by decide +kernel), List.mem_of_getElem? (i := 259) (by decide +kernel)⟩
theorem lw_p1 : lw_okq (⟨"TramPence", "takings", "(I)I"⟩, 7) := ⟨⟨by decide +kernel, by decide +kernel⟩, List.mem_of_getElem? (i := 13) (by decide +kernel), List.mem_of_getElem? (i := 313) (by decide +kernel), List.mem_of_getElem? (i := 314) (by decide +kernel)⟩
theorem lw_p2 : lw_okq (⟨"TramPence", "takeBackLatest", "()V"⟩, 7) := ⟨⟨by decide +kernel, by decide +kernel⟩, List.mem_of_getElem? (i := 13) (by decide +kernel), List.mem_of_getElem? (i := 321) (by decide +kernel), List.mem_of_getElem? (i := 322) (by decide +kernel)⟩
theorem lw_p3 : lw_okq (⟨"TramPence", "howManyAboard", "(III)I"⟩, 7) := ⟨⟨by decide +kernel, by decide +kernel⟩, List.mem_of_getElem? (i := 13) (by decide +kernel), List.mem_of_getElem? (i := 333) (by decide +kernel), List.mem_of_getElem? (i := 334) (by decide +kernel)⟩
theorem lw_p4 : lw_okq (⟨"TramPence", "isAboard", "(III)Z"⟩, 7) := ⟨⟨by decide +kernel, by decide +kernel⟩, List.mem_of_getElem? (i := 13) (by decide +kernel), List.mem_of_getElem? (i := 337) (by decide +kernel), List.mem_of_getElem? (i := 338) (by decide +kernel)⟩
theorem lw_p5 : lw_okq (⟨"TramPence", "isGoodAt", "(II)Z"⟩, 7) := ⟨⟨by decide +kernel, by decide +kernel⟩, List.mem_of_getElem? (i := 13) (by decide +kernel), List.mem_of_getElem? (i := 345) (by decide +kernel), List.mem_of_getElem? (i := 346) (by decide +kernel)⟩
theorem lw_p6 : lw_okq (⟨"TramPence", "beyondHeld", "(II)I"⟩, 7) := ⟨⟨by decide +kernel, by decide +kernel⟩, List.mem_of_getElem? (i := 13) (by decide +kernel), List.mem_of_getElem? (i := 375) (by decide +kernel), List.mem_of_getElem? (i := 376) (by decide +kernel)⟩
def lw_privs_1 : List (MethodName × Nat) := [(⟨"TramPence", "hasPack", "(II)Z"⟩, 7), (⟨"TramPence", "takings", "(I)I"⟩, 7), (⟨"TramPence", "takeBackLatest", "()V"⟩, 7), (⟨"TramPence", "howManyAboard", "(III)I"⟩, 7), (⟨"TramPence", "isAboard", "(III)Z"⟩, 7), (⟨"TramPence", "isGoodAt", "(II)Z"⟩, 7), (⟨"TramPence", "beyondHeld", "(II)I"⟩, 7)]
theorem lw_r1 : ∀ q ∈ lw_privs_1, lw_okq q := List.forall_mem_cons.mpr ⟨lw_p0, List.forall_mem_cons.mpr ⟨lw_p1, List.forall_mem_cons.mpr ⟨lw_p2, List.forall_mem_cons.mpr ⟨lw_p3, List.forall_mem_cons.mpr ⟨lw_p4, List.forall_mem_cons.mpr ⟨lw_p5, List.forall_mem_cons.mpr ⟨lw_p6, fun _ h => absurd h List.not_mem_nil⟩⟩⟩⟩⟩⟩⟩
def lw_privs : List (MethodName × Nat) := lw_privs_1
def lw_tbl : List Cond := k2_sels lw_privs ++ tables_1
theorem lw_privs_ok : ∀ q ∈ lw_privs, lw_okq q := lw_r1
/-! ===== BEGIN words of one list among another's, by their places ===== -/
theorem goodIn_r {big : List Cond} (ws : List Cond) (ps : List Nat) (hp : ws = ps.filterMap (fun i => big[i]?)) (h : ws.all goodWord = true) : GoodIn big ws := by
  intro w hw
  have h1 := List.all_eq_true.mp h w hw
  rw [hp] at hw
  obtain ⟨i, -, hi⟩ := List.mem_filterMap.mp hw
  have hm : w ∈ big := by first | exact List.mem_of_getElem? hi | exact List.getElem?_mem hi
  exact ⟨hm, good_of_word h1⟩
theorem goodIn_app {big a b : List Cond} (ha : GoodIn big a) (hb : GoodIn big b) : GoodIn big (a ++ b) := fun w h => (List.mem_append.mp h).elim (ha w) (hb w)
theorem goodIn_ca {big a b : List Cond} {c : Cond} (ha : GoodIn big (c :: a)) (hb : GoodIn big b) : GoodIn big (c :: (a ++ b)) := fun w h => (List.mem_cons.mp h).elim (fun e => ha w (List.mem_cons.mpr (Or.inl e))) (fun h => (List.mem_append.mp h).elim (fun h => ha w (List.mem_cons.mpr (Or.inr h))) (hb w))
theorem goodIn_sub {big ws : List Cond} (hm : ∀ w ∈ ws, w ∈ big) (h : ws.all goodWord = true) : GoodIn big ws := fun w hw => ⟨hm w hw, good_of_word (List.all_eq_true.mp h w hw)⟩
/-! ===== END ===== -/
def RX0 : String := "TramPence$LawBook"
def TX0 : u_T := fun k => match k with
  | 0 => ("TramPence$LawBook", "tape", "LTramPence$Tape;", true)
  | 1 => ("TramPence$LawBook", "told", "LTramPence$Laws;", false)
  | 2 => ("TramPence$LawBook", "fault", "I", false)
  | 3 => ("TramPence$LawBook", "draft", "LTramPence$Laws;", false)
  | 4 => ("TramPence$LawBook", "numbers", "[I", true)
  | 5 => ("TramPence$LawBook", "law", "I", false)
  | _ => ("TramPence$LawBook", "taken", "I", false)
def tyX0 : Nat → FieldType := fun k => match k with
  | 0 => .object "TramPence$Tape"
  | 1 => .object "TramPence$Laws"
  | 2 => .int
  | 3 => .object "TramPence$Laws"
  | 4 => .array .int
  | 5 => .int
  | _ => .int
abbrev wsX00 : List Cond := u_ws RX0 TX0 7
theorem nmX0 : ∀ a, a < 7 → ∀ b, b < 7 → a ≠ b → (TX0 a).2.1 ≠ (TX0 b).2.1 := by decide +kernel
theorem tyX0_ok : ∀ k, k < 7 → parseFieldDescriptor (TX0 k).2.2.1 = some (tyX0 k) := by decide +kernel
abbrev cX0_init : ByteArray := prog_2_method_1_code
def yX0_init : MethodName := ⟨RX0, "<init>", "()V"⟩
def RX1 : String := "TramPence$Laws"
def TX1 : u_T := fun k => match k with
  | 0 => ("TramPence$Laws", "sections", "[I", true)
  | 1 => ("TramPence$Laws", "pence", "[I", true)
  | 2 => ("TramPence$Laws", "fromHour", "[I", true)
  | 3 => ("TramPence$Laws", "toHour", "[I", true)
  | 4 => ("TramPence$Laws", "ofHundred", "[I", true)
  | 5 => ("TramPence$Laws", "fares", "I", false)
  | 6 => ("TramPence$Laws", "works", "I", false)
  | _ => ("TramPence$Laws", "changeMinutes", "I", false)
def tyX1 : Nat → FieldType := fun k => match k with
  | 0 => .array .int
  | 1 => .array .int
  | 2 => .array .int
  | 3 => .array .int
  | 4 => .array .int
  | 5 => .int
  | 6 => .int
  | _ => .int
abbrev wsX10 : List Cond := u_ws RX1 TX1 8
theorem nmX1 : ∀ a, a < 8 → ∀ b, b < 8 → a ≠ b → (TX1 a).2.1 ≠ (TX1 b).2.1 := by decide +kernel
theorem tyX1_ok : ∀ k, k < 8 → parseFieldDescriptor (TX1 k).2.2.1 = some (tyX1 k) := by decide +kernel
abbrev cX1_init : ByteArray := prog_3_method_1_code
def yX1_init : MethodName := ⟨RX1, "<init>", "()V"⟩
def RX2 : String := "TramPence$Packs"
def TX2 : u_T := fun k => match k with
  | 0 => ("TramPence$Packs", "next", "[[I", true)
  | _ => ("TramPence$Packs", "limit", "[[I", true)
def tyX2 : Nat → FieldType := fun k => match k with
  | 0 => .array (.array .int)
  | _ => .array (.array .int)
abbrev wsX20 : List Cond := u_ws RX2 TX2 2
theorem nmX2 : ∀ a, a < 2 → ∀ b, b < 2 → a ≠ b → (TX2 a).2.1 ≠ (TX2 b).2.1 := by decide +kernel
theorem tyX2_ok : ∀ k, k < 2 → parseFieldDescriptor (TX2 k).2.2.1 = some (tyX2 k) := by decide +kernel
abbrev cX2_init : ByteArray := prog_4_method_1_code
def yX2_init : MethodName := ⟨RX2, "<init>", "()V"⟩
abbrev cX2_size : ByteArray := prog_4_method_2_code
def yX2_size : MethodName := ⟨RX2, "size", "(II)I"⟩
abbrev cX2_replace : ByteArray := prog_4_method_3_code
def yX2_replace : MethodName := ⟨RX2, "replace", "(IIII)V"⟩
abbrev cX2_takeNext : ByteArray := prog_4_method_4_code
def yX2_takeNext : MethodName := ⟨RX2, "takeNext", "(II)I"⟩
abbrev cX2_anyWithOthers : ByteArray := prog_4_method_5_code
def yX2_anyWithOthers : MethodName := ⟨RX2, "anyWithOthers", "(IIII)Z"⟩
abbrev cX2_beyond : ByteArray := prog_4_method_6_code
def yX2_beyond : MethodName := ⟨RX2, "beyond", "(II)I"⟩
def RX3 : String := "TramPence$Roster"
def TX3 : u_T := fun k => match k with
  | 0 => ("TramPence$Roster", "from", "[I", true)
  | 1 => ("TramPence$Roster", "to", "[I", true)
  | 2 => ("TramPence$Roster", "freeFrom", "[I", true)
  | 3 => ("TramPence$Roster", "crewOf", "[I", true)
  | 4 => ("TramPence$Roster", "used", "I", false)
  | 5 => ("TramPence$Roster", "crewsUsed", "I", false)
  | _ => ("TramPence$Roster", "restMinutes", "I", false)
def tyX3 : Nat → FieldType := fun k => match k with
  | 0 => .array .int
  | 1 => .array .int
  | 2 => .array .int
  | 3 => .array .int
  | 4 => .int
  | 5 => .int
  | _ => .int
abbrev wsX30 : List Cond := u_ws RX3 TX3 7
theorem nmX3 : ∀ a, a < 7 → ∀ b, b < 7 → a ≠ b → (TX3 a).2.1 ≠ (TX3 b).2.1 := by decide +kernel
theorem tyX3_ok : ∀ k, k < 7 → parseFieldDescriptor (TX3 k).2.2.1 = some (tyX3 k) := by decide +kernel
abbrev cX3_init : ByteArray := prog_5_method_1_code
def yX3_init : MethodName := ⟨RX3, "<init>", "()V"⟩
def RX4 : String := "TramPence$Sales"
def TX4 : u_T := fun k => match k with
  | 0 => ("TramPence$Sales", "trip", "[I", true)
  | 1 => ("TramPence$Sales", "type", "[I", true)
  | 2 => ("TramPence$Sales", "step", "[I", true)
  | 3 => ("TramPence$Sales", "number", "[I", true)
  | _ => ("TramPence$Sales", "used", "I", false)
def tyX4 : Nat → FieldType := fun k => match k with
  | 0 => .array .int
  | 1 => .array .int
  | 2 => .array .int
  | 3 => .array .int
  | _ => .int
abbrev wsX40 : List Cond := u_ws RX4 TX4 5
theorem nmX4 : ∀ a, a < 5 → ∀ b, b < 5 → a ≠ b → (TX4 a).2.1 ≠ (TX4 b).2.1 := by decide +kernel
theorem tyX4_ok : ∀ k, k < 5 → parseFieldDescriptor (TX4 k).2.2.1 = some (tyX4 k) := by decide +kernel
abbrev cX4_init : ByteArray := prog_6_method_1_code
def yX4_init : MethodName := ⟨RX4, "<init>", "()V"⟩
abbrev cX4_isFull : ByteArray := prog_6_method_2_code
def yX4_isFull : MethodName := ⟨RX4, "isFull", "()Z"⟩
abbrev cX4_add : ByteArray := prog_6_method_3_code
def yX4_add : MethodName := ⟨RX4, "add", "(IIII)V"⟩
abbrev cX4_latestStep : ByteArray := prog_6_method_4_code
def yX4_latestStep : MethodName := ⟨RX4, "latestStep", "(I)I"⟩
abbrev cX4_find : ByteArray := prog_6_method_5_code
def yX4_find : MethodName := ⟨RX4, "find", "(II)I"⟩
abbrev cX4_anySold : ByteArray := prog_6_method_6_code
def yX4_anySold : MethodName := ⟨RX4, "anySold", "(III)Z"⟩
abbrev cX4_beyond : ByteArray := prog_6_method_7_code
def yX4_beyond : MethodName := ⟨RX4, "beyond", "(II)I"⟩
abbrev cX4_greatestSold : ByteArray := prog_6_method_8_code
def yX4_greatestSold : MethodName := ⟨RX4, "greatestSold", "(I)I"⟩
def RX5 : String := "TramPence$Sheet"
def TX5 : u_T := fun k => match k with
  | 0 => ("TramPence$Sheet", "cells", "[I", true)
  | 1 => ("TramPence$Sheet", "lane", "I", false)
  | _ => ("TramPence$Sheet", "size", "I", false)
def tyX5 : Nat → FieldType := fun k => match k with
  | 0 => .array .int
  | 1 => .int
  | _ => .int
abbrev wsX50 : List Cond := u_ws RX5 TX5 3
theorem nmX5 : ∀ a, a < 3 → ∀ b, b < 3 → a ≠ b → (TX5 a).2.1 ≠ (TX5 b).2.1 := by decide +kernel
theorem tyX5_ok : ∀ k, k < 3 → parseFieldDescriptor (TX5 k).2.2.1 = some (tyX5 k) := by decide +kernel
abbrev cX5_init : ByteArray := prog_7_method_1_code
def yX5_init : MethodName := ⟨RX5, "<init>", "()V"⟩
def RX6 : String := "TramPence$Tape"
def TX6 : u_T := fun k => match k with
  | 0 => ("TramPence$Tape", "bytes", "[B", true)
  | 1 => ("TramPence$Tape", "length", "I", false)
  | 2 => ("TramPence$Tape", "start", "I", false)
  | 3 => ("TramPence$Tape", "value", "I", false)
  | _ => ("TramPence$Tape", "place", "I", false)
def tyX6 : Nat → FieldType := fun k => match k with
  | 0 => .array .byte
  | 1 => .int
  | 2 => .int
  | 3 => .int
  | _ => .int
abbrev wsX60 : List Cond := u_ws RX6 TX6 5
theorem nmX6 : ∀ a, a < 5 → ∀ b, b < 5 → a ≠ b → (TX6 a).2.1 ≠ (TX6 b).2.1 := by decide +kernel
theorem tyX6_ok : ∀ k, k < 5 → parseFieldDescriptor (TX6 k).2.2.1 = some (tyX6 k) := by decide +kernel
abbrev cX6_init : ByteArray := prog_8_method_1_code
def yX6_init : MethodName := ⟨RX6, "<init>", "()V"⟩
def RX7 : String := "TramPence$Trips"
def TX7 : u_T := fun k => match k with
  | 0 => ("TramPence$Trips", "conductor", "[I", true)
  | 1 => ("TramPence$Trips", "up", "[Z", true)
  | 2 => ("TramPence$Trips", "open", "[Z", true)
  | _ => ("TramPence$Trips", "used", "I", false)
def tyX7 : Nat → FieldType := fun k => match k with
  | 0 => .array .int
  | 1 => .array .boolean
  | 2 => .array .boolean
  | _ => .int
abbrev wsX70 : List Cond := u_ws RX7 TX7 4
theorem nmX7 : ∀ a, a < 4 → ∀ b, b < 4 → a ≠ b → (TX7 a).2.1 ≠ (TX7 b).2.1 := by decide +kernel
theorem tyX7_ok : ∀ k, k < 4 → parseFieldDescriptor (TX7 k).2.2.1 = some (tyX7 k) := by decide +kernel
abbrev cX7_init : ByteArray := prog_9_method_1_code
def yX7_init : MethodName := ⟨RX7, "<init>", "()V"⟩
abbrev cX7_has : ByteArray := prog_9_method_2_code
def yX7_has : MethodName := ⟨RX7, "has", "(I)Z"⟩
abbrev cX7_add : ByteArray := prog_9_method_3_code
def yX7_add : MethodName := ⟨RX7, "add", "(IZ)I"⟩
abbrev cX7_hasOpen : ByteArray := prog_9_method_4_code
def yX7_hasOpen : MethodName := ⟨RX7, "hasOpen", "(I)Z"⟩
abbrev cX7_stepOfStage : ByteArray := prog_9_method_6_code
def yX7_stepOfStage : MethodName := ⟨RX7, "stepOfStage", "(II)I"⟩
abbrev cX7_stepOfSection : ByteArray := prog_9_method_7_code
def yX7_stepOfSection : MethodName := ⟨RX7, "stepOfSection", "(II)I"⟩
def RX8 : String := "TramPence$Types"
def TX8 : u_T := fun k => match k with
  | 0 => ("TramPence$Types", "price", "[I", true)
  | 1 => ("TramPence$Types", "span", "[I", true)
  | _ => ("TramPence$Types", "used", "I", false)
def tyX8 : Nat → FieldType := fun k => match k with
  | 0 => .array .int
  | 1 => .array .int
  | _ => .int
abbrev wsX80 : List Cond := u_ws RX8 TX8 3
theorem nmX8 : ∀ a, a < 3 → ∀ b, b < 3 → a ≠ b → (TX8 a).2.1 ≠ (TX8 b).2.1 := by decide +kernel
theorem tyX8_ok : ∀ k, k < 3 → parseFieldDescriptor (TX8 k).2.2.1 = some (tyX8 k) := by decide +kernel
abbrev cX8_init : ByteArray := prog_10_method_1_code
def yX8_init : MethodName := ⟨RX8, "<init>", "()V"⟩
abbrev cX8_has : ByteArray := prog_10_method_2_code
def yX8_has : MethodName := ⟨RX8, "has", "(I)Z"⟩
abbrev cX8_add : ByteArray := prog_10_method_3_code
def yX8_add : MethodName := ⟨RX8, "add", "(II)I"⟩
def RX9 : String := "TramPence"
def TX9 : u_T := fun k => match k with
  | 0 => ("TramPence", "types", "LTramPence$Types;", true)
  | 1 => ("TramPence", "packs", "LTramPence$Packs;", true)
  | 2 => ("TramPence", "trips", "LTramPence$Trips;", true)
  | 3 => ("TramPence", "sales", "LTramPence$Sales;", true)
  | 4 => ("TramPence", "sheets", "[LTramPence$Sheet;", true)
  | 5 => ("TramPence", "book", "LTramPence$LawBook;", true)
  | _ => ("TramPence", "roster", "LTramPence$Roster;", true)
def tyX9 : Nat → FieldType := fun k => match k with
  | 0 => .object "TramPence$Types"
  | 1 => .object "TramPence$Packs"
  | 2 => .object "TramPence$Trips"
  | 3 => .object "TramPence$Sales"
  | 4 => .array (.object "TramPence$Sheet")
  | 5 => .object "TramPence$LawBook"
  | _ => .object "TramPence$Roster"
abbrev wsX90 : List Cond := u_ws RX9 TX9 7
theorem nmX9 : ∀ a, a < 7 → ∀ b, b < 7 → a ≠ b → (TX9 a).2.1 ≠ (TX9 b).2.1 := by decide +kernel
theorem tyX9_ok : ∀ k, k < 7 → parseFieldDescriptor (TX9 k).2.2.1 = some (tyX9 k) := by decide +kernel
abbrev cX9_init : ByteArray := prog_1_method_1_code
def yX9_init : MethodName := ⟨RX9, "<init>", "()V"⟩
abbrev cX9_type : ByteArray := prog_1_method_2_code
def yX9_type : MethodName := ⟨RX9, "type", "(II)I"⟩
abbrev cX9_issue : ByteArray := prog_1_method_3_code
def yX9_issue : MethodName := ⟨RX9, "issue", "(IIII)I"⟩
abbrev cX9_pack : ByteArray := prog_1_method_4_code
def yX9_pack : MethodName := ⟨RX9, "pack", "(III)I"⟩
abbrev cX9_trip : ByteArray := prog_1_method_5_code
def yX9_trip : MethodName := ⟨RX9, "trip", "(IZ)I"⟩
abbrev cX9_close : ByteArray := prog_1_method_6_code
def yX9_close : MethodName := ⟨RX9, "close", "(I)I"⟩
abbrev cX9_sell : ByteArray := prog_1_method_7_code
def yX9_sell : MethodName := ⟨RX9, "sell", "(III)I"⟩
abbrev cX9_undo : ByteArray := prog_1_method_8_code
def yX9_undo : MethodName := ⟨RX9, "undo", "()I"⟩
abbrev cX9_money : ByteArray := prog_1_method_13_code
def yX9_money : MethodName := ⟨RX9, "money", "(I)I"⟩
abbrev cX9_aboard : ByteArray := prog_1_method_15_code
def yX9_aboard : MethodName := ⟨RX9, "aboard", "(III)I"⟩
abbrev cX9_riders : ByteArray := prog_1_method_16_code
def yX9_riders : MethodName := ⟨RX9, "riders", "(ZII)I"⟩
abbrev cX9_shown : ByteArray := prog_1_method_17_code
def yX9_shown : MethodName := ⟨RX9, "shown", "(IIII)I"⟩
abbrev cX9_heads : ByteArray := prog_1_method_18_code
def yX9_heads : MethodName := ⟨RX9, "heads", "(III)I"⟩
abbrev cX9_gap : ByteArray := prog_1_method_19_code
def yX9_gap : MethodName := ⟨RX9, "gap", "(I)I"⟩
abbrev cX9_isOutside : ByteArray := prog_1_method_32_code
def yX9_isOutside : MethodName := ⟨RX9, "isOutside", "(III)Z"⟩
abbrev cX9_hasPack : ByteArray := prog_1_method_33_code
def yX9_hasPack : MethodName := ⟨RX9, "hasPack", "(II)Z"⟩
abbrev cX9_takings : ByteArray := prog_1_method_34_code
def yX9_takings : MethodName := ⟨RX9, "takings", "(I)I"⟩
abbrev cX9_howManyAboard : ByteArray := prog_1_method_35_code
def yX9_howManyAboard : MethodName := ⟨RX9, "howManyAboard", "(III)I"⟩
abbrev cX9_isAboard : ByteArray := prog_1_method_36_code
def yX9_isAboard : MethodName := ⟨RX9, "isAboard", "(III)Z"⟩
abbrev cX9_isGoodAt : ByteArray := prog_1_method_37_code
def yX9_isGoodAt : MethodName := ⟨RX9, "isGoodAt", "(II)Z"⟩
abbrev cX9_takeBackLatest : ByteArray := prog_1_method_40_code
def yX9_takeBackLatest : MethodName := ⟨RX9, "takeBackLatest", "()V"⟩
abbrev cX9_beyondHeld : ByteArray := prog_1_method_41_code
def yX9_beyondHeld : MethodName := ⟨RX9, "beyondHeld", "(II)I"⟩
def RX10 : String := "TramPenceModel"
def TX10 : u_T := fun k => match k with
  | _ => ("", "", "", false)
def tyX10 : Nat → FieldType := fun k => match k with
  | _ => .int
abbrev wsX100 : List Cond := u_ws RX10 TX10 0
theorem nmX10 : ∀ a, a < 0 → ∀ b, b < 0 → a ≠ b → (TX10 a).2.1 ≠ (TX10 b).2.1 := by decide +kernel
theorem tyX10_ok : ∀ k, k < 0 → parseFieldDescriptor (TX10 k).2.2.1 = some (tyX10 k) := by decide +kernel
def RJ9 : String := "java/lang/Math"
def TJ9 : u_T := fun k => match k with
  | _ => ("", "", "", false)
def tyJ9 : Nat → FieldType := fun k => match k with
  | _ => .int
abbrev wsJ90 : List Cond := u_ws RJ9 TJ9 0
theorem nmJ9 : ∀ a, a < 0 → ∀ b, b < 0 → a ≠ b → (TJ9 a).2.1 ≠ (TJ9 b).2.1 := by decide +kernel
theorem tyJ9_ok : ∀ k, k < 0 → parseFieldDescriptor (TJ9 k).2.2.1 = some (tyJ9 k) := by decide +kernel
abbrev cJ9_max_7cf53 : ByteArray := prog_13_method_65_code
def yJ9_max_7cf53 : MethodName := ⟨RJ9, "max", "(II)I"⟩
abbrev cJ9_min_7cf53 : ByteArray := prog_13_method_69_code
def yJ9_min_7cf53 : MethodName := ⟨RJ9, "min", "(II)I"⟩
def RL : String := "TramPenceLaw"
abbrev cL_part : ByteArray := method_2_code
def yL_part : MethodName := ⟨RL, "part", "(II)I"⟩
abbrev cL_cell : ByteArray := method_3_code
def yL_cell : MethodName := ⟨RL, "cell", "([II)I"⟩
abbrev cL_sells : ByteArray := method_4_code
def yL_sells : MethodName := ⟨RL, "sells", "(LTramPence;[IIII[I[I[I[I[I)I"⟩
abbrev cL_law : ByteArray := code
def yL_law : MethodName := ⟨RL, "law", "([I)Z"⟩
abbrev vwCl : List vw_C := [(RX0, TX0, 7), (RX1, TX1, 8), (RX2, TX2, 2), (RX3, TX3, 7), (RX4, TX4, 5), (RX5, TX5, 3), (RX6, TX6, 5), (RX7, TX7, 4), (RX8, TX8, 3), (RX9, TX9, 7)]
