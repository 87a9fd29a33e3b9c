def RX0 : String := "HiringHall$Matching"
def TX0 : u_T := fun k => match k with
  | 0 => ("HiringHall$Matching", "workersWithin", "[I", true)
  | _ => ("HiringHall$Matching", "placesWithin", "[I", true)
def tyX0 : Nat → FieldType := fun k => match k with
  | 0 => .array .int
  | _ => .array .int
abbrev wsX00 : List Cond := u_ws RX0 TX0 2
theorem nmX0 : ∀ a, a < 2 → ∀ b, b < 2 → a ≠ b → (TX0 a).2.1 ≠ (TX0 b).2.1 := by decide +kernel
theorem tyX0_ok : ∀ k, k < 2 → parseFieldDescriptor (TX0 k).2.2.1 = some (tyX0 k) := by decide +kernel
abbrev cX0_init : ByteArray := prog_2_method_1_code
def yX0_init : MethodName := ⟨RX0, "<init>", "()V"⟩
abbrev cX0_clear : ByteArray := prog_2_method_2_code
def yX0_clear : MethodName := ⟨RX0, "clear", "()V"⟩
abbrev cX0_addWorker : ByteArray := prog_2_method_3_code
def yX0_addWorker : MethodName := ⟨RX0, "addWorker", "(I)V"⟩
abbrev cX0_removeWorker : ByteArray := prog_2_method_4_code
def yX0_removeWorker : MethodName := ⟨RX0, "removeWorker", "(I)V"⟩
abbrev cX0_addPlace : ByteArray := prog_2_method_5_code
def yX0_addPlace : MethodName := ⟨RX0, "addPlace", "(I)V"⟩
abbrev cX0_removePlace : ByteArray := prog_2_method_6_code
def yX0_removePlace : MethodName := ⟨RX0, "removePlace", "(I)V"⟩
abbrev cX0_canPlaceAlso : ByteArray := prog_2_method_7_code
def yX0_canPlaceAlso : MethodName := ⟨RX0, "canPlaceAlso", "(I)Z"⟩
abbrev cX0_canSpare : ByteArray := prog_2_method_8_code
def yX0_canSpare : MethodName := ⟨RX0, "canSpare", "(I)Z"⟩
abbrev cX0_mostPlaced : ByteArray := prog_2_method_9_code
def yX0_mostPlaced : MethodName := ⟨RX0, "mostPlaced", "()I"⟩
abbrev cX0_oneIfWithin : ByteArray := prog_2_method_10_code
def yX0_oneIfWithin : MethodName := ⟨RX0, "oneIfWithin", "(II)I"⟩
def RX1 : String := "HiringHall$Worker"
def TX1 : u_T := fun k => match k with
  | 0 => ("HiringHall$Worker", "number", "I", true)
  | 1 => ("HiringHall$Worker", "board", "I", false)
  | 2 => ("HiringHall$Worker", "skills", "I", false)
  | 3 => ("HiringHall$Worker", "away", "Z", false)
  | 4 => ("HiringHall$Worker", "refusing", "Z", false)
  | 5 => ("HiringHall$Worker", "hours", "I", false)
  | 6 => ("HiringHall$Worker", "refusals", "I", false)
  | 7 => ("HiringHall$Worker", "place", "I", false)
  | 8 => ("HiringHall$Worker", "cameInAt", "I", false)
  | _ => ("HiringHall$Worker", "wasAtWork", "Z", false)
def tyX1 : Nat → FieldType := fun k => match k with
  | 0 => .int
  | 1 => .int
  | 2 => .int
  | 3 => .boolean
  | 4 => .boolean
  | 5 => .int
  | 6 => .int
  | 7 => .int
  | 8 => .int
  | _ => .boolean
abbrev wsX10 : List Cond := u_ws RX1 TX1 10
theorem nmX1 : ∀ a, a < 10 → ∀ b, b < 10 → a ≠ b → (TX1 a).2.1 ≠ (TX1 b).2.1 := by decide +kernel
theorem tyX1_ok : ∀ k, k < 10 → parseFieldDescriptor (TX1 k).2.2.1 = some (tyX1 k) := by decide +kernel
abbrev cX1_init : ByteArray := prog_3_method_1_code
def yX1_init : MethodName := ⟨RX1, "<init>", "(III)V"⟩
abbrev cX1_isAtWork : ByteArray := prog_3_method_2_code
def yX1_isAtWork : MethodName := ⟨RX1, "isAtWork", "()Z"⟩
abbrev cX1_isReady : ByteArray := prog_3_method_3_code
def yX1_isReady : MethodName := ⟨RX1, "isReady", "()Z"⟩
abbrev cX1_hasSkill : ByteArray := prog_3_method_4_code
def yX1_hasSkill : MethodName := ⟨RX1, "hasSkill", "(I)Z"⟩
abbrev cX1_stopWork : ByteArray := prog_3_method_5_code
def yX1_stopWork : MethodName := ⟨RX1, "stopWork", "(I)I"⟩
def RX2 : String := "HiringHall"
def TX2 : u_T := fun k => match k with
  | 0 => ("HiringHall", "turn", "Ljava/util/ArrayList;", true)
  | 1 => ("HiringHall", "turnBefore", "Ljava/util/ArrayList;", true)
  | 2 => ("HiringHall", "taken", "Ljava/util/ArrayList;", true)
  | 3 => ("HiringHall", "matching", "LHiringHall$Matching;", true)
  | 4 => ("HiringHall", "refusalCosts", "[Z", true)
  | 5 => ("HiringHall", "guaranteedHours", "[I", true)
  | 6 => ("HiringHall", "skillNeeded", "[I", true)
  | 7 => ("HiringHall", "nextNumber", "I", false)
  | 8 => ("HiringHall", "placeCount", "I", false)
  | 9 => ("HiringHall", "shiftHours", "I", false)
  | 10 => ("HiringHall", "shiftHour", "I", false)
  | 11 => ("HiringHall", "hoursOfLeavers", "I", false)
  | _ => ("HiringHall", "workHasBegun", "Z", false)
def tyX2 : Nat → FieldType := fun k => match k with
  | 0 => .object "java/util/ArrayList"
  | 1 => .object "java/util/ArrayList"
  | 2 => .object "java/util/ArrayList"
  | 3 => .object "HiringHall$Matching"
  | 4 => .array .boolean
  | 5 => .array .int
  | 6 => .array .int
  | 7 => .int
  | 8 => .int
  | 9 => .int
  | 10 => .int
  | 11 => .int
  | _ => .boolean
abbrev wsX20 : List Cond := u_ws RX2 TX2 13
theorem nmX2 : ∀ a, a < 13 → ∀ b, b < 13 → a ≠ b → (TX2 a).2.1 ≠ (TX2 b).2.1 := by decide +kernel
theorem tyX2_ok : ∀ k, k < 13 → parseFieldDescriptor (TX2 k).2.2.1 = some (tyX2 k) := by decide +kernel
abbrev cX2_init : ByteArray := prog_1_method_1_code
def yX2_init : MethodName := ⟨RX2, "<init>", "()V"⟩
abbrev cX2_signOn : ByteArray := prog_1_method_2_code
def yX2_signOn : MethodName := ⟨RX2, "signOn", "(II)I"⟩
abbrev cX2_signOff : ByteArray := prog_1_method_3_code
def yX2_signOff : MethodName := ⟨RX2, "signOff", "(I)I"⟩
abbrev cX2_setSkills : ByteArray := prog_1_method_4_code
def yX2_setSkills : MethodName := ⟨RX2, "setSkills", "(II)I"⟩
abbrev cX2_move : ByteArray := prog_1_method_5_code
def yX2_move : MethodName := ⟨RX2, "move", "(II)I"⟩
abbrev cX2_setAway : ByteArray := prog_1_method_6_code
def yX2_setAway : MethodName := ⟨RX2, "setAway", "(IZ)Z"⟩
abbrev cX2_setRefusing : ByteArray := prog_1_method_7_code
def yX2_setRefusing : MethodName := ⟨RX2, "setRefusing", "(IZ)Z"⟩
abbrev cX2_setRule : ByteArray := prog_1_method_8_code
def yX2_setRule : MethodName := ⟨RX2, "setRule", "(IZI)I"⟩
abbrev cX2_equalise : ByteArray := prog_1_method_9_code
def yX2_equalise : MethodName := ⟨RX2, "equalise", "(I)I"⟩
abbrev cX2_order : ByteArray := prog_1_method_10_code
def yX2_order : MethodName := ⟨RX2, "order", "(I)I"⟩
abbrev cX2_dispatch : ByteArray := prog_1_method_11_code
def yX2_dispatch : MethodName := ⟨RX2, "dispatch", "()I"⟩
abbrev cX2_setHours : ByteArray := prog_1_method_12_code
def yX2_setHours : MethodName := ⟨RX2, "setHours", "(I)I"⟩
abbrev cX2_leave : ByteArray := prog_1_method_13_code
def yX2_leave : MethodName := ⟨RX2, "leave", "(II)I"⟩
abbrev cX2_replace : ByteArray := prog_1_method_14_code
def yX2_replace : MethodName := ⟨RX2, "replace", "(I)I"⟩
abbrev cX2_endShift : ByteArray := prog_1_method_15_code
def yX2_endShift : MethodName := ⟨RX2, "endShift", "()I"⟩
abbrev cX2_endPeriod : ByteArray := prog_1_method_16_code
def yX2_endPeriod : MethodName := ⟨RX2, "endPeriod", "()I"⟩
abbrev cX2_workers : ByteArray := prog_1_method_17_code
def yX2_workers : MethodName := ⟨RX2, "workers", "()I"⟩
abbrev cX2_boardOf : ByteArray := prog_1_method_18_code
def yX2_boardOf : MethodName := ⟨RX2, "boardOf", "(I)I"⟩
abbrev cX2_rankOf : ByteArray := prog_1_method_19_code
def yX2_rankOf : MethodName := ⟨RX2, "rankOf", "(I)I"⟩
abbrev cX2_hoursOf : ByteArray := prog_1_method_20_code
def yX2_hoursOf : MethodName := ⟨RX2, "hoursOf", "(I)I"⟩
abbrev cX2_refusalsOf : ByteArray := prog_1_method_21_code
def yX2_refusalsOf : MethodName := ⟨RX2, "refusalsOf", "(I)I"⟩
abbrev cX2_placeOf : ByteArray := prog_1_method_22_code
def yX2_placeOf : MethodName := ⟨RX2, "placeOf", "(I)I"⟩
abbrev cX2_owedTo : ByteArray := prog_1_method_23_code
def yX2_owedTo : MethodName := ⟨RX2, "owedTo", "(I)I"⟩
abbrev cX2_places : ByteArray := prog_1_method_24_code
def yX2_places : MethodName := ⟨RX2, "places", "()I"⟩
abbrev cX2_workerAt : ByteArray := prog_1_method_25_code
def yX2_workerAt : MethodName := ⟨RX2, "workerAt", "(I)I"⟩
abbrev cX2_nextUp : ByteArray := prog_1_method_26_code
def yX2_nextUp : MethodName := ⟨RX2, "nextUp", "(I)I"⟩
abbrev cX2_fillable : ByteArray := prog_1_method_27_code
def yX2_fillable : MethodName := ⟨RX2, "fillable", "()I"⟩
abbrev cX2_find : ByteArray := prog_1_method_28_code
def yX2_find : MethodName := ⟨RX2, "find", "(I)LHiringHall$Worker;"⟩
abbrev cX2_checkPlace : ByteArray := prog_1_method_29_code
def yX2_checkPlace : MethodName := ⟨RX2, "checkPlace", "(I)V"⟩
abbrev cX2_checkBoard : ByteArray := prog_1_method_30_code
def yX2_checkBoard : MethodName := ⟨RX2, "checkBoard", "(I)V"⟩
abbrev cX2_checkSkills : ByteArray := prog_1_method_31_code
def yX2_checkSkills : MethodName := ⟨RX2, "checkSkills", "(I)V"⟩
abbrev cX2_checkNotAtWork : ByteArray := prog_1_method_32_code
def yX2_checkNotAtWork : MethodName := ⟨RX2, "checkNotAtWork", "(LHiringHall$Worker;)V"⟩
abbrev cX2_checkWorkHasNotBegun : ByteArray := prog_1_method_33_code
def yX2_checkWorkHasNotBegun : MethodName := ⟨RX2, "checkWorkHasNotBegun", "()V"⟩
abbrev cX2_takeOffBoard : ByteArray := prog_1_method_34_code
def yX2_takeOffBoard : MethodName := ⟨RX2, "takeOffBoard", "(LHiringHall$Worker;)V"⟩
abbrev cX2_putAtBottom : ByteArray := prog_1_method_35_code
def yX2_putAtBottom : MethodName := ⟨RX2, "putAtBottom", "(LHiringHall$Worker;)V"⟩
abbrev cX2_sendToBottom : ByteArray := prog_1_method_36_code
def yX2_sendToBottom : MethodName := ⟨RX2, "sendToBottom", "(LHiringHall$Worker;)V"⟩
abbrev cX2_rememberTurn : ByteArray := prog_1_method_37_code
def yX2_rememberTurn : MethodName := ⟨RX2, "rememberTurn", "()V"⟩
abbrev cX2_riseByHours : ByteArray := prog_1_method_38_code
def yX2_riseByHours : MethodName := ⟨RX2, "riseByHours", "(I)V"⟩
abbrev cX2_countDisplaced : ByteArray := prog_1_method_39_code
def yX2_countDisplaced : MethodName := ⟨RX2, "countDisplaced", "()I"⟩
abbrev cX2_matchOpenPlaces : ByteArray := prog_1_method_40_code
def yX2_matchOpenPlaces : MethodName := ⟨RX2, "matchOpenPlaces", "()V"⟩
abbrev cX2_takeInTurn : ByteArray := prog_1_method_41_code
def yX2_takeInTurn : MethodName := ⟨RX2, "takeInTurn", "()V"⟩
abbrev cX2_placeTaken : ByteArray := prog_1_method_42_code
def yX2_placeTaken : MethodName := ⟨RX2, "placeTaken", "()V"⟩
abbrev cX2_lowestPlaceFor : ByteArray := prog_1_method_43_code
def yX2_lowestPlaceFor : MethodName := ⟨RX2, "lowestPlaceFor", "(LHiringHall$Worker;)I"⟩
abbrev cX2_startWork : ByteArray := prog_1_method_44_code
def yX2_startWork : MethodName := ⟨RX2, "startWork", "(LHiringHall$Worker;I)V"⟩
abbrev cX2_countRefusal : ByteArray := prog_1_method_45_code
def yX2_countRefusal : MethodName := ⟨RX2, "countRefusal", "(LHiringHall$Worker;)V"⟩
abbrev cX2_isOpen : ByteArray := prog_1_method_46_code
def yX2_isOpen : MethodName := ⟨RX2, "isOpen", "(I)Z"⟩
abbrev cX2_holderOf : ByteArray := prog_1_method_47_code
def yX2_holderOf : MethodName := ⟨RX2, "holderOf", "(I)I"⟩
abbrev cX2_hoursOwed : ByteArray := prog_1_method_48_code
def yX2_hoursOwed : MethodName := ⟨RX2, "hoursOwed", "(LHiringHall$Worker;)I"⟩
def RX3 : String := "HiringHallModel"
def TX3 : u_T := fun k => match k with
  | 0 => ("HiringHallModel", "numbers", "[I", true)
  | 1 => ("HiringHallModel", "boards", "[I", true)
  | 2 => ("HiringHallModel", "marks", "[I", true)
  | 3 => ("HiringHallModel", "skills", "[I", true)
  | 4 => ("HiringHallModel", "aways", "[Z", true)
  | 5 => ("HiringHallModel", "refusing", "[Z", true)
  | 6 => ("HiringHallModel", "been", "[Z", true)
  | 7 => ("HiringHallModel", "at", "[I", true)
  | 8 => ("HiringHallModel", "since", "[I", true)
  | 9 => ("HiringHallModel", "hours", "[I", true)
  | 10 => ("HiringHallModel", "refusals", "[I", true)
  | 11 => ("HiringHallModel", "given", "I", false)
  | 12 => ("HiringHallModel", "mark", "I", false)
  | 13 => ("HiringHallModel", "costs", "[Z", true)
  | 14 => ("HiringHallModel", "guaranteed", "[I", true)
  | 15 => ("HiringHallModel", "needs", "[I", true)
  | 16 => ("HiringHallModel", "fillers", "[I", true)
  | 17 => ("HiringHallModel", "places", "I", false)
  | 18 => ("HiringHallModel", "length", "I", false)
  | 19 => ("HiringHallModel", "hour", "I", false)
  | 20 => ("HiringHallModel", "worked", "I", false)
  | 21 => ("HiringHallModel", "begun", "Z", false)
  | 22 => ("HiringHallModel", "turn", "[I", true)
  | 23 => ("HiringHallModel", "taken", "[I", true)
  | 24 => ("HiringHallModel", "open", "[I", true)
  | _ => ("HiringHallModel", "last", "I", false)
def tyX3 : Nat → FieldType := fun k => match k with
  | 0 => .array .int
  | 1 => .array .int
  | 2 => .array .int
  | 3 => .array .int
  | 4 => .array .boolean
  | 5 => .array .boolean
  | 6 => .array .boolean
  | 7 => .array .int
  | 8 => .array .int
  | 9 => .array .int
  | 10 => .array .int
  | 11 => .int
  | 12 => .int
  | 13 => .array .boolean
  | 14 => .array .int
  | 15 => .array .int
  | 16 => .array .int
  | 17 => .int
  | 18 => .int
  | 19 => .int
  | 20 => .int
  | 21 => .boolean
  | 22 => .array .int
  | 23 => .array .int
  | 24 => .array .int
  | _ => .int
abbrev wsX30 : List Cond := u_ws RX3 TX3 26
theorem nmX3 : ∀ a, a < 26 → ∀ b, b < 26 → a ≠ b → (TX3 a).2.1 ≠ (TX3 b).2.1 := by decide +kernel
theorem tyX3_ok : ∀ k, k < 26 → parseFieldDescriptor (TX3 k).2.2.1 = some (tyX3 k) := by decide +kernel
abbrev cX3_init : ByteArray := prog_5_method_1_code
def yX3_init : MethodName := ⟨RX3, "<init>", "()V"⟩
abbrev cX3_thrown : ByteArray := prog_5_method_2_code
def yX3_thrown : MethodName := ⟨RX3, "thrown", "()I"⟩
abbrev cX3_in : ByteArray := prog_5_method_3_code
def yX3_in : MethodName := ⟨RX3, "in", "(III)Z"⟩
abbrev cX3_goes : ByteArray := prog_5_method_4_code
def yX3_goes : MethodName := ⟨RX3, "goes", "(ZZZ)Z"⟩
abbrev cX3_isBoard : ByteArray := prog_5_method_5_code
def yX3_isBoard : MethodName := ⟨RX3, "isBoard", "(I)Z"⟩
abbrev cX3_kept : ByteArray := prog_5_method_6_code
def yX3_kept : MethodName := ⟨RX3, "kept", "(I)I"⟩
abbrev cX3_count : ByteArray := prog_5_method_7_code
def yX3_count : MethodName := ⟨RX3, "count", "()I"⟩
abbrev cX3_lowers : ByteArray := prog_5_method_8_code
def yX3_lowers : MethodName := ⟨RX3, "lowers", "(I)V"⟩
abbrev cX3_isBefore : ByteArray := prog_5_method_9_code
def yX3_isBefore : MethodName := ⟨RX3, "isBefore", "(II)Z"⟩
abbrev cX3_isReady : ByteArray := prog_5_method_10_code
def yX3_isReady : MethodName := ⟨RX3, "isReady", "(I)Z"⟩
abbrev cX3_lineUp : ByteArray := prog_5_method_11_code
def yX3_lineUp : MethodName := ⟨RX3, "lineUp", "()I"⟩
abbrev cX3_signOn : ByteArray := prog_5_method_12_code
def yX3_signOn : MethodName := ⟨RX3, "signOn", "(II)I"⟩
abbrev cX3_signOff : ByteArray := prog_5_method_13_code
def yX3_signOff : MethodName := ⟨RX3, "signOff", "(I)I"⟩
abbrev cX3_setSkills : ByteArray := prog_5_method_14_code
def yX3_setSkills : MethodName := ⟨RX3, "setSkills", "(II)I"⟩
abbrev cX3_move : ByteArray := prog_5_method_15_code
def yX3_move : MethodName := ⟨RX3, "move", "(II)I"⟩
abbrev cX3_setAway : ByteArray := prog_5_method_16_code
def yX3_setAway : MethodName := ⟨RX3, "setAway", "(IZ)Z"⟩
abbrev cX3_setRefusing : ByteArray := prog_5_method_17_code
def yX3_setRefusing : MethodName := ⟨RX3, "setRefusing", "(IZ)Z"⟩
abbrev cX3_setRule : ByteArray := prog_5_method_18_code
def yX3_setRule : MethodName := ⟨RX3, "setRule", "(IZI)I"⟩
abbrev cX3_rank : ByteArray := prog_5_method_19_code
def yX3_rank : MethodName := ⟨RX3, "rank", "(I)I"⟩
abbrev cX3_equalise : ByteArray := prog_5_method_20_code
def yX3_equalise : MethodName := ⟨RX3, "equalise", "(I)I"⟩
abbrev cX3_order : ByteArray := prog_5_method_21_code
def yX3_order : MethodName := ⟨RX3, "order", "(I)I"⟩
abbrev cX3_countOpen : ByteArray := prog_5_method_22_code
def yX3_countOpen : MethodName := ⟨RX3, "countOpen", "()V"⟩
abbrev cX3_canAll : ByteArray := prog_5_method_23_code
def yX3_canAll : MethodName := ⟨RX3, "canAll", "(II)Z"⟩
abbrev cX3_refuses : ByteArray := prog_5_method_24_code
def yX3_refuses : MethodName := ⟨RX3, "refuses", "(I)V"⟩
abbrev cX3_fills : ByteArray := prog_5_method_25_code
def yX3_fills : MethodName := ⟨RX3, "fills", "(II)V"⟩
abbrev cX3_gives : ByteArray := prog_5_method_26_code
def yX3_gives : MethodName := ⟨RX3, "gives", "(I)V"⟩
abbrev cX3_dispatch : ByteArray := prog_5_method_27_code
def yX3_dispatch : MethodName := ⟨RX3, "dispatch", "()I"⟩
abbrev cX3_setHours : ByteArray := prog_5_method_28_code
def yX3_setHours : MethodName := ⟨RX3, "setHours", "(I)I"⟩
abbrev cX3_works : ByteArray := prog_5_method_29_code
def yX3_works : MethodName := ⟨RX3, "works", "(II)V"⟩
abbrev cX3_leave : ByteArray := prog_5_method_30_code
def yX3_leave : MethodName := ⟨RX3, "leave", "(II)I"⟩
abbrev cX3_isPlace : ByteArray := prog_5_method_31_code
def yX3_isPlace : MethodName := ⟨RX3, "isPlace", "(I)Z"⟩
abbrev cX3_replace : ByteArray := prog_5_method_32_code
def yX3_replace : MethodName := ⟨RX3, "replace", "(I)I"⟩
abbrev cX3_endShift : ByteArray := prog_5_method_33_code
def yX3_endShift : MethodName := ⟨RX3, "endShift", "()I"⟩
abbrev cX3_owes : ByteArray := prog_5_method_34_code
def yX3_owes : MethodName := ⟨RX3, "owes", "(I)I"⟩
abbrev cX3_endPeriod : ByteArray := prog_5_method_35_code
def yX3_endPeriod : MethodName := ⟨RX3, "endPeriod", "()I"⟩
abbrev cX3_workers : ByteArray := prog_5_method_36_code
def yX3_workers : MethodName := ⟨RX3, "workers", "()I"⟩
abbrev cX3_boardOf : ByteArray := prog_5_method_37_code
def yX3_boardOf : MethodName := ⟨RX3, "boardOf", "(I)I"⟩
abbrev cX3_rankOf : ByteArray := prog_5_method_38_code
def yX3_rankOf : MethodName := ⟨RX3, "rankOf", "(I)I"⟩
abbrev cX3_hoursOf : ByteArray := prog_5_method_39_code
def yX3_hoursOf : MethodName := ⟨RX3, "hoursOf", "(I)I"⟩
abbrev cX3_refusalsOf : ByteArray := prog_5_method_40_code
def yX3_refusalsOf : MethodName := ⟨RX3, "refusalsOf", "(I)I"⟩
abbrev cX3_placeOf : ByteArray := prog_5_method_41_code
def yX3_placeOf : MethodName := ⟨RX3, "placeOf", "(I)I"⟩
abbrev cX3_owedTo : ByteArray := prog_5_method_42_code
def yX3_owedTo : MethodName := ⟨RX3, "owedTo", "(I)I"⟩
abbrev cX3_places : ByteArray := prog_5_method_43_code
def yX3_places : MethodName := ⟨RX3, "places", "()I"⟩
abbrev cX3_workerAt : ByteArray := prog_5_method_44_code
def yX3_workerAt : MethodName := ⟨RX3, "workerAt", "(I)I"⟩
abbrev cX3_nextUp : ByteArray := prog_5_method_45_code
def yX3_nextUp : MethodName := ⟨RX3, "nextUp", "(I)I"⟩
abbrev cX3_fillable : ByteArray := prog_5_method_46_code
def yX3_fillable : MethodName := ⟨RX3, "fillable", "()I"⟩
def RJx145de : String := "java/io/Serializable"
def TJx145de : u_T := fun k => match k with
  | _ => ("", "", "", false)
def tyJx145de : Nat → FieldType := fun k => match k with
  | _ => .int
abbrev wsJx145de0 : List Cond := u_ws RJx145de TJx145de 0
theorem nmJx145de : ∀ a, a < 0 → ∀ b, b < 0 → a ≠ b → (TJx145de a).2.1 ≠ (TJx145de b).2.1 := by decide +kernel
theorem tyJx145de_ok : ∀ k, k < 0 → parseFieldDescriptor (TJx145de k).2.2.1 = some (tyJx145de k) := by decide +kernel
def RJx8e188 : String := "java/lang/Cloneable"
def TJx8e188 : u_T := fun k => match k with
  | _ => ("", "", "", false)
def tyJx8e188 : Nat → FieldType := fun k => match k with
  | _ => .int
abbrev wsJx8e1880 : List Cond := u_ws RJx8e188 TJx8e188 0
theorem nmJx8e188 : ∀ a, a < 0 → ∀ b, b < 0 → a ≠ b → (TJx8e188 a).2.1 ≠ (TJx8e188 b).2.1 := by decide +kernel
theorem tyJx8e188_ok : ∀ k, k < 0 → parseFieldDescriptor (TJx8e188 k).2.2.1 = some (tyJx8e188 k) := by decide +kernel
def RJxab1ab : String := "java/lang/Iterable"
def TJxab1ab : u_T := fun k => match k with
  | _ => ("", "", "", false)
def tyJxab1ab : Nat → FieldType := fun k => match k with
  | _ => .int
abbrev wsJxab1ab0 : List Cond := u_ws RJxab1ab TJxab1ab 0
theorem nmJxab1ab : ∀ a, a < 0 → ∀ b, b < 0 → a ≠ b → (TJxab1ab a).2.1 ≠ (TJxab1ab b).2.1 := by decide +kernel
theorem tyJxab1ab_ok : ∀ k, k < 0 → parseFieldDescriptor (TJxab1ab k).2.2.1 = some (tyJxab1ab k) := by decide +kernel
def RJ9 : String := "java/lang/Math"
def TJ9 : u_T := fun k => match k with
  | _ => ("", "", "", false)
def tyJ9 : Nat → FieldType := fun k => match k with
  | _ => .int
abbrev wsJ90 : List Cond := u_ws RJ9 TJ9 0
theorem nmJ9 : ∀ a, a < 0 → ∀ b, b < 0 → a ≠ b → (TJ9 a).2.1 ≠ (TJ9 b).2.1 := by decide +kernel
theorem tyJ9_ok : ∀ k, k < 0 → parseFieldDescriptor (TJ9 k).2.2.1 = some (tyJ9 k) := by decide +kernel
abbrev cJ9_max_7cf53 : ByteArray := prog_12_method_65_code
def yJ9_max_7cf53 : MethodName := ⟨RJ9, "max", "(II)I"⟩
abbrev cJ9_min_7cf53 : ByteArray := prog_12_method_69_code
def yJ9_min_7cf53 : MethodName := ⟨RJ9, "min", "(II)I"⟩
def RJ0 : String := "java/lang/String"
def TJ0 : u_T := fun k => match k with
  | _ => ("", "", "", false)
def tyJ0 : Nat → FieldType := fun k => match k with
  | _ => .int
abbrev wsJ00 : List Cond := u_ws RJ0 TJ0 0
theorem nmJ0 : ∀ a, a < 0 → ∀ b, b < 0 → a ≠ b → (TJ0 a).2.1 ≠ (TJ0 b).2.1 := by decide +kernel
theorem tyJ0_ok : ∀ k, k < 0 → parseFieldDescriptor (TJ0 k).2.2.1 = some (tyJ0 k) := by decide +kernel
def RJ10 : String := "java/lang/System"
def TJ10 : u_T := fun k => match k with
  | _ => ("", "", "", false)
def tyJ10 : Nat → FieldType := fun k => match k with
  | _ => .int
abbrev wsJ100 : List Cond := u_ws RJ10 TJ10 0
theorem nmJ10 : ∀ a, a < 0 → ∀ b, b < 0 → a ≠ b → (TJ10 a).2.1 ≠ (TJ10 b).2.1 := by decide +kernel
theorem tyJ10_ok : ∀ k, k < 0 → parseFieldDescriptor (TJ10 k).2.2.1 = some (tyJ10 k) := by decide +kernel
def RJxa1e45 : String := "java/util/AbstractCollection"
def TJxa1e45 : u_T := fun k => match k with
  | _ => ("", "", "", false)
def tyJxa1e45 : Nat → FieldType := fun k => match k with
  | _ => .int
abbrev wsJxa1e450 : List Cond := u_ws RJxa1e45 TJxa1e45 0
theorem nmJxa1e45 : ∀ a, a < 0 → ∀ b, b < 0 → a ≠ b → (TJxa1e45 a).2.1 ≠ (TJxa1e45 b).2.1 := by decide +kernel
theorem tyJxa1e45_ok : ∀ k, k < 0 → parseFieldDescriptor (TJxa1e45 k).2.2.1 = some (tyJxa1e45 k) := by decide +kernel
abbrev cJxa1e45_init_da8c8 : ByteArray := prog_17_method_1_code
def yJxa1e45_init_da8c8 : MethodName := ⟨RJxa1e45, "<init>", "()V"⟩
def RJxc12de : String := "java/util/AbstractList"
def TJxc12de : u_T := fun k => match k with
  | _ => ("", "", "", false)
def tyJxc12de : Nat → FieldType := fun k => match k with
  | _ => .int
abbrev wsJxc12de0 : List Cond := u_ws RJxc12de TJxc12de 0
theorem nmJxc12de : ∀ a, a < 0 → ∀ b, b < 0 → a ≠ b → (TJxc12de a).2.1 ≠ (TJxc12de b).2.1 := by decide +kernel
theorem tyJxc12de_ok : ∀ k, k < 0 → parseFieldDescriptor (TJxc12de k).2.2.1 = some (tyJxc12de k) := by decide +kernel
abbrev cJxc12de_init_da8c8 : ByteArray := prog_18_method_1_code
def yJxc12de_init_da8c8 : MethodName := ⟨RJxc12de, "<init>", "()V"⟩
def RJx4a65c : String := "java/util/ArrayList"
def TJx4a65c : u_T := fun k => match k with
  | 0 => ("java/util/AbstractList", "modCount", "I", false)
  | 1 => ("java/util/ArrayList", "elementData", "[Ljava/lang/Object;", false)
  | _ => ("java/util/ArrayList", "size", "I", false)
def tyJx4a65c : Nat → FieldType := fun k => match k with
  | 0 => .int
  | 1 => .array (.object "java/lang/Object")
  | _ => .int
abbrev wsJx4a65c0 : List Cond := u_ws RJx4a65c TJx4a65c 3
theorem nmJx4a65c : ∀ a, a < 3 → ∀ b, b < 3 → a ≠ b → (TJx4a65c a).2.1 ≠ (TJx4a65c b).2.1 := by decide +kernel
theorem tyJx4a65c_ok : ∀ k, k < 3 → parseFieldDescriptor (TJx4a65c k).2.2.1 = some (tyJx4a65c k) := by decide +kernel
abbrev cJx4a65c_init_da8c8 : ByteArray := prog_19_method_2_code
def yJx4a65c_init_da8c8 : MethodName := ⟨RJx4a65c, "<init>", "()V"⟩
abbrev cJx4a65c_grow_92f84 : ByteArray := prog_19_method_6_code
def yJx4a65c_grow_92f84 : MethodName := ⟨RJx4a65c, "grow", "(I)[Ljava/lang/Object;"⟩
abbrev cJx4a65c_grow_d5877 : ByteArray := prog_19_method_7_code
def yJx4a65c_grow_d5877 : MethodName := ⟨RJx4a65c, "grow", "()[Ljava/lang/Object;"⟩
abbrev cJx4a65c_size_8abf5 : ByteArray := prog_19_method_8_code
def yJx4a65c_size_8abf5 : MethodName := ⟨RJx4a65c, "size", "()I"⟩
abbrev cJx4a65c_elementData_915e3 : ByteArray := prog_19_method_18_code
def yJx4a65c_elementData_915e3 : MethodName := ⟨RJx4a65c, "elementData", "(I)Ljava/lang/Object;"⟩
abbrev cJx4a65c_get_915e3 : ByteArray := prog_19_method_20_code
def yJx4a65c_get_915e3 : MethodName := ⟨RJx4a65c, "get", "(I)Ljava/lang/Object;"⟩
abbrev cJx4a65c_set_bcc79 : ByteArray := prog_19_method_23_code
def yJx4a65c_set_bcc79 : MethodName := ⟨RJx4a65c, "set", "(ILjava/lang/Object;)Ljava/lang/Object;"⟩
abbrev cJx4a65c_add_72be8 : ByteArray := prog_19_method_24_code
def yJx4a65c_add_72be8 : MethodName := ⟨RJx4a65c, "add", "(Ljava/lang/Object;[Ljava/lang/Object;I)V"⟩
abbrev cJx4a65c_add_9ea2d : ByteArray := prog_19_method_25_code
def yJx4a65c_add_9ea2d : MethodName := ⟨RJx4a65c, "add", "(Ljava/lang/Object;)Z"⟩
abbrev cJx4a65c_add_7a177 : ByteArray := prog_19_method_26_code
def yJx4a65c_add_7a177 : MethodName := ⟨RJx4a65c, "add", "(ILjava/lang/Object;)V"⟩
abbrev cJx4a65c_remove_915e3 : ByteArray := prog_19_method_29_code
def yJx4a65c_remove_915e3 : MethodName := ⟨RJx4a65c, "remove", "(I)Ljava/lang/Object;"⟩
abbrev cJx4a65c_fastRemove_b59b0 : ByteArray := prog_19_method_39_code
def yJx4a65c_fastRemove_b59b0 : MethodName := ⟨RJx4a65c, "fastRemove", "([Ljava/lang/Object;I)V"⟩
abbrev cJx4a65c_clear_da8c8 : ByteArray := prog_19_method_40_code
def yJx4a65c_clear_da8c8 : MethodName := ⟨RJx4a65c, "clear", "()V"⟩
abbrev cJx4a65c_rangeCheckForAdd_d00df : ByteArray := prog_19_method_45_code
def yJx4a65c_rangeCheckForAdd_d00df : MethodName := ⟨RJx4a65c, "rangeCheckForAdd", "(I)V"⟩
def RJ7 : String := "java/util/Arrays"
def TJ7 : u_T := fun k => match k with
  | _ => ("", "", "", false)
def tyJ7 : Nat → FieldType := fun k => match k with
  | _ => .int
abbrev wsJ70 : List Cond := u_ws RJ7 TJ7 0
theorem nmJ7 : ∀ a, a < 0 → ∀ b, b < 0 → a ≠ b → (TJ7 a).2.1 ≠ (TJ7 b).2.1 := by decide +kernel
theorem tyJ7_ok : ∀ k, k < 0 → parseFieldDescriptor (TJ7 k).2.2.1 = some (tyJ7 k) := by decide +kernel
abbrev cJ7_copyOf_1904c : ByteArray := prog_20_method_119_code
def yJ7_copyOf_1904c : MethodName := ⟨RJ7, "copyOf", "([Ljava/lang/Object;I)[Ljava/lang/Object;"⟩
abbrev cJ7_copyOf_6403c : ByteArray := prog_20_method_120_code
def yJ7_copyOf_6403c : MethodName := ⟨RJ7, "copyOf", "([Ljava/lang/Object;ILjava/lang/Class;)[Ljava/lang/Object;"⟩
def RJx5ef63 : String := "java/util/Collection"
def TJx5ef63 : u_T := fun k => match k with
  | _ => ("", "", "", false)
def tyJx5ef63 : Nat → FieldType := fun k => match k with
  | _ => .int
abbrev wsJx5ef630 : List Cond := u_ws RJx5ef63 TJx5ef63 0
theorem nmJx5ef63 : ∀ a, a < 0 → ∀ b, b < 0 → a ≠ b → (TJx5ef63 a).2.1 ≠ (TJx5ef63 b).2.1 := by decide +kernel
theorem tyJx5ef63_ok : ∀ k, k < 0 → parseFieldDescriptor (TJx5ef63 k).2.2.1 = some (tyJx5ef63 k) := by decide +kernel
def RJxbd725 : String := "java/util/List"
def TJxbd725 : u_T := fun k => match k with
  | _ => ("", "", "", false)
def tyJxbd725 : Nat → FieldType := fun k => match k with
  | _ => .int
abbrev wsJxbd7250 : List Cond := u_ws RJxbd725 TJxbd725 0
theorem nmJxbd725 : ∀ a, a < 0 → ∀ b, b < 0 → a ≠ b → (TJxbd725 a).2.1 ≠ (TJxbd725 b).2.1 := by decide +kernel
theorem tyJxbd725_ok : ∀ k, k < 0 → parseFieldDescriptor (TJxbd725 k).2.2.1 = some (tyJxbd725 k) := by decide +kernel
def RJ15 : String := "java/util/Objects"
def TJ15 : u_T := fun k => match k with
  | _ => ("", "", "", false)
def tyJ15 : Nat → FieldType := fun k => match k with
  | _ => .int
abbrev wsJ150 : List Cond := u_ws RJ15 TJ15 0
theorem nmJ15 : ∀ a, a < 0 → ∀ b, b < 0 → a ≠ b → (TJ15 a).2.1 ≠ (TJ15 b).2.1 := by decide +kernel
theorem tyJ15_ok : ∀ k, k < 0 → parseFieldDescriptor (TJ15 k).2.2.1 = some (tyJ15 k) := by decide +kernel
abbrev cJ15_checkIndex_7cf53 : ByteArray := prog_24_method_17_code
def yJ15_checkIndex_7cf53 : MethodName := ⟨RJ15, "checkIndex", "(II)I"⟩
def RJxf0a74 : String := "java/util/RandomAccess"
def TJxf0a74 : u_T := fun k => match k with
  | _ => ("", "", "", false)
def tyJxf0a74 : Nat → FieldType := fun k => match k with
  | _ => .int
abbrev wsJxf0a740 : List Cond := u_ws RJxf0a74 TJxf0a74 0
theorem nmJxf0a74 : ∀ a, a < 0 → ∀ b, b < 0 → a ≠ b → (TJxf0a74 a).2.1 ≠ (TJxf0a74 b).2.1 := by decide +kernel
theorem tyJxf0a74_ok : ∀ k, k < 0 → parseFieldDescriptor (TJxf0a74 k).2.2.1 = some (tyJxf0a74 k) := by decide +kernel
def RJxa66e6 : String := "java/util/SequencedCollection"
def TJxa66e6 : u_T := fun k => match k with
  | _ => ("", "", "", false)
def tyJxa66e6 : Nat → FieldType := fun k => match k with
  | _ => .int
abbrev wsJxa66e60 : List Cond := u_ws RJxa66e6 TJxa66e6 0
theorem nmJxa66e6 : ∀ a, a < 0 → ∀ b, b < 0 → a ≠ b → (TJxa66e6 a).2.1 ≠ (TJxa66e6 b).2.1 := by decide +kernel
theorem tyJxa66e6_ok : ∀ k, k < 0 → parseFieldDescriptor (TJxa66e6 k).2.2.1 = some (tyJxa66e6 k) := by decide +kernel
def RJ8 : String := "jdk/internal/util/ArraysSupport"
def TJ8 : u_T := fun k => match k with
  | _ => ("", "", "", false)
def tyJ8 : Nat → FieldType := fun k => match k with
  | _ => .int
abbrev wsJ80 : List Cond := u_ws RJ8 TJ8 0
theorem nmJ8 : ∀ a, a < 0 → ∀ b, b < 0 → a ≠ b → (TJ8 a).2.1 ≠ (TJ8 b).2.1 := by decide +kernel
theorem tyJ8_ok : ∀ k, k < 0 → parseFieldDescriptor (TJ8 k).2.2.1 = some (tyJ8 k) := by decide +kernel
abbrev cJ8_newLength_cabcc : ByteArray := prog_27_method_27_code
def yJ8_newLength_cabcc : MethodName := ⟨RJ8, "newLength", "(III)I"⟩
abbrev cJ8_hugeLength_7cf53 : ByteArray := prog_27_method_28_code
def yJ8_hugeLength_7cf53 : MethodName := ⟨RJ8, "hugeLength", "(II)I"⟩
def RJ3 : String := "jdk/internal/util/Preconditions"
def TJ3 : u_T := fun k => match k with
  | _ => ("", "", "", false)
def tyJ3 : Nat → FieldType := fun k => match k with
  | _ => .int
abbrev wsJ30 : List Cond := u_ws RJ3 TJ3 0
theorem nmJ3 : ∀ a, a < 0 → ∀ b, b < 0 → a ≠ b → (TJ3 a).2.1 ≠ (TJ3 b).2.1 := by decide +kernel
theorem tyJ3_ok : ∀ k, k < 0 → parseFieldDescriptor (TJ3 k).2.2.1 = some (tyJ3 k) := by decide +kernel
abbrev cJ3_checkIndex_8e157 : ByteArray := prog_28_method_11_code
def yJ3_checkIndex_8e157 : MethodName := ⟨RJ3, "checkIndex", "(IILjava/util/function/BiFunction;)I"⟩
def RL : String := "HiringHallLaw"
abbrev cL_signOn : ByteArray := method_3_code
def yL_signOn : MethodName := ⟨RL, "signOn", "(LHiringHall;II[J)I"⟩
abbrev cL_signOff : ByteArray := method_4_code
def yL_signOff : MethodName := ⟨RL, "signOff", "(LHiringHall;I[J)I"⟩
abbrev cL_setSkills : ByteArray := method_5_code
def yL_setSkills : MethodName := ⟨RL, "setSkills", "(LHiringHall;II[J)I"⟩
abbrev cL_move : ByteArray := method_6_code
def yL_move : MethodName := ⟨RL, "move", "(LHiringHall;II[J)I"⟩
abbrev cL_setAway : ByteArray := method_7_code
def yL_setAway : MethodName := ⟨RL, "setAway", "(LHiringHall;IZ[J)I"⟩
abbrev cL_setRefusing : ByteArray := method_8_code
def yL_setRefusing : MethodName := ⟨RL, "setRefusing", "(LHiringHall;IZ[J)I"⟩
abbrev cL_setRule : ByteArray := method_9_code
def yL_setRule : MethodName := ⟨RL, "setRule", "(LHiringHall;IZI[J)I"⟩
abbrev cL_equalise : ByteArray := method_10_code
def yL_equalise : MethodName := ⟨RL, "equalise", "(LHiringHall;I[J)I"⟩
abbrev cL_order : ByteArray := method_11_code
def yL_order : MethodName := ⟨RL, "order", "(LHiringHall;I[J)I"⟩
abbrev cL_setHours : ByteArray := method_12_code
def yL_setHours : MethodName := ⟨RL, "setHours", "(LHiringHall;I[J)I"⟩
abbrev cL_leave : ByteArray := method_13_code
def yL_leave : MethodName := ⟨RL, "leave", "(LHiringHall;II[J)I"⟩
abbrev cL_replace : ByteArray := method_14_code
def yL_replace : MethodName := ⟨RL, "replace", "(LHiringHall;I[J)I"⟩
abbrev cL_endPeriod : ByteArray := method_15_code
def yL_endPeriod : MethodName := ⟨RL, "endPeriod", "(LHiringHall;[J)I"⟩
abbrev cL_boardOf : ByteArray := method_16_code
def yL_boardOf : MethodName := ⟨RL, "boardOf", "(LHiringHall;I[J)I"⟩
abbrev cL_rankOf : ByteArray := method_17_code
def yL_rankOf : MethodName := ⟨RL, "rankOf", "(LHiringHall;I[J)I"⟩
abbrev cL_hoursOf : ByteArray := method_18_code
def yL_hoursOf : MethodName := ⟨RL, "hoursOf", "(LHiringHall;I[J)I"⟩
abbrev cL_refusalsOf : ByteArray := method_19_code
def yL_refusalsOf : MethodName := ⟨RL, "refusalsOf", "(LHiringHall;I[J)I"⟩
abbrev cL_placeOf : ByteArray := method_20_code
def yL_placeOf : MethodName := ⟨RL, "placeOf", "(LHiringHall;I[J)I"⟩
abbrev cL_owedTo : ByteArray := method_21_code
def yL_owedTo : MethodName := ⟨RL, "owedTo", "(LHiringHall;I[J)I"⟩
abbrev cL_workerAt : ByteArray := method_22_code
def yL_workerAt : MethodName := ⟨RL, "workerAt", "(LHiringHall;I[J)I"⟩
abbrev cL_nextUp : ByteArray := method_23_code
def yL_nextUp : MethodName := ⟨RL, "nextUp", "(LHiringHall;I[J)I"⟩
abbrev cL_law : ByteArray := code
def yL_law : MethodName := ⟨RL, "law", "([I)Z"⟩
abbrev vwCl : List vw_C := [(RJx4a65c, TJx4a65c, 3), (RX0, TX0, 2), (RX1, TX1, 10), (RX2, TX2, 13), (RX3, TX3, 26)]
