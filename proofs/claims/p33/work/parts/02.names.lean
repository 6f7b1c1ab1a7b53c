def RX0 : String := "Blockduty$Block"
def TX0 : u_T := fun k => match k with
  | 0 => ("Blockduty$Block", "number", "I", true)
  | 1 => ("Blockduty$Block", "capacity", "I", true)
  | 2 => ("Blockduty$Block", "breakdown", "I", false)
  | 3 => ("Blockduty$Block", "row", "LBlockduty$Row;", true)
  | _ => ("Blockduty$Block", "pieces", "Ljava/util/ArrayList;", true)
def tyX0 : Nat → FieldType := fun k => match k with
  | 0 => .int
  | 1 => .int
  | 2 => .int
  | 3 => .object "Blockduty$Row"
  | _ => .object "java/util/ArrayList"
abbrev wsX00 : List Cond := u_ws RX0 TX0 5
theorem nmX0 : ∀ a, a < 5 → ∀ b, b < 5 → a ≠ b → (TX0 a).2.1 ≠ (TX0 b).2.1 := by decide +kernel
theorem tyX0_ok : ∀ k, k < 5 → parseFieldDescriptor (TX0 k).2.2.1 = some (tyX0 k) := by decide +kernel
abbrev cX0_init : ByteArray := prog_2_method_1_code
def yX0_init : MethodName := ⟨RX0, "<init>", "(II)V"⟩
abbrev cX0_pieceNumbered : ByteArray := prog_2_method_2_code
def yX0_pieceNumbered : MethodName := ⟨RX0, "pieceNumbered", "(I)LBlockduty$Piece;"⟩
abbrev cX0_addTrip : ByteArray := prog_2_method_3_code
def yX0_addTrip : MethodName := ⟨RX0, "addTrip", "(LBlockduty$Trip;)V"⟩
abbrev cX0_removeLastTrip : ByteArray := prog_2_method_4_code
def yX0_removeLastTrip : MethodName := ⟨RX0, "removeLastTrip", "()LBlockduty$Trip;"⟩
abbrev cX0_takeOver : ByteArray := prog_2_method_5_code
def yX0_takeOver : MethodName := ⟨RX0, "takeOver", "(LBlockduty$Row;)V"⟩
abbrev cX0_forgetPieces : ByteArray := prog_2_method_6_code
def yX0_forgetPieces : MethodName := ⟨RX0, "forgetPieces", "()V"⟩
abbrev cX0_cutAt : ByteArray := prog_2_method_7_code
def yX0_cutAt : MethodName := ⟨RX0, "cutAt", "([II)V"⟩
abbrev cX0_addPiece : ByteArray := prog_2_method_8_code
def yX0_addPiece : MethodName := ⟨RX0, "addPiece", "(II)V"⟩
abbrev cX0_lostNow : ByteArray := prog_2_method_9_code
def yX0_lostNow : MethodName := ⟨RX0, "lostNow", "()I"⟩
abbrev cX0_lostIf : ByteArray := prog_2_method_10_code
def yX0_lostIf : MethodName := ⟨RX0, "lostIf", "(ILBlockduty$Trip;I)I"⟩
def RX1 : String := "Blockduty$Driver"
def TX1 : u_T := fun k => match k with
  | 0 => ("Blockduty$Driver", "number", "I", true)
  | 1 => ("Blockduty$Driver", "isSick", "Z", false)
  | _ => ("Blockduty$Driver", "pieces", "Ljava/util/ArrayList;", true)
def tyX1 : Nat → FieldType := fun k => match k with
  | 0 => .int
  | 1 => .boolean
  | _ => .object "java/util/ArrayList"
abbrev wsX10 : List Cond := u_ws RX1 TX1 3
theorem nmX1 : ∀ a, a < 3 → ∀ b, b < 3 → a ≠ b → (TX1 a).2.1 ≠ (TX1 b).2.1 := by decide +kernel
theorem tyX1_ok : ∀ k, k < 3 → parseFieldDescriptor (TX1 k).2.2.1 = some (tyX1 k) := by decide +kernel
abbrev cX1_init : ByteArray := prog_3_method_1_code
def yX1_init : MethodName := ⟨RX1, "<init>", "(I)V"⟩
abbrev cX1_canGet : ByteArray := prog_3_method_2_code
def yX1_canGet : MethodName := ⟨RX1, "canGet", "(LBlockduty$Piece;)Z"⟩
abbrev cX1_drop : ByteArray := prog_3_method_3_code
def yX1_drop : MethodName := ⟨RX1, "drop", "(LBlockduty$Piece;)V"⟩
abbrev cX1_minutes : ByteArray := prog_3_method_4_code
def yX1_minutes : MethodName := ⟨RX1, "minutes", "()I"⟩
abbrev cX1_worked : ByteArray := prog_3_method_5_code
def yX1_worked : MethodName := ⟨RX1, "worked", "()I"⟩
abbrev cX1_pay : ByteArray := prog_3_method_6_code
def yX1_pay : MethodName := ⟨RX1, "pay", "()I"⟩
def RX2 : String := "Blockduty$Followers"
def TX2 : u_T := fun k => match k with
  | 0 => ("Blockduty$Followers", "aheadOf", "[I", true)
  | _ => ("Blockduty$Followers", "isTried", "[Z", true)
def tyX2 : Nat → FieldType := fun k => match k with
  | 0 => .array .int
  | _ => .array .boolean
abbrev wsX20 : List Cond := u_ws RX2 TX2 2
theorem nmX2 : ∀ a, a < 2 → ∀ b, b < 2 → a ≠ b → (TX2 a).2.1 ≠ (TX2 b).2.1 := by decide +kernel
theorem tyX2_ok : ∀ k, k < 2 → parseFieldDescriptor (TX2 k).2.2.1 = some (tyX2 k) := by decide +kernel
abbrev cX2_init : ByteArray := prog_4_method_1_code
def yX2_init : MethodName := ⟨RX2, "<init>", "()V"⟩
abbrev cX2_mostPairs : ByteArray := prog_4_method_2_code
def yX2_mostPairs : MethodName := ⟨RX2, "mostPairs", "(Ljava/util/ArrayList;)I"⟩
abbrev cX2_findsFollower : ByteArray := prog_4_method_3_code
def yX2_findsFollower : MethodName := ⟨RX2, "findsFollower", "(Ljava/util/ArrayList;I[I[ZI)Z"⟩
def RX3 : String := "Blockduty$Line"
def TX3 : u_T := fun k => match k with
  | 0 => ("Blockduty$Line", "number", "I", true)
  | 1 => ("Blockduty$Line", "fee", "I", false)
  | _ => ("Blockduty$Line", "isClosed", "Z", false)
def tyX3 : Nat → FieldType := fun k => match k with
  | 0 => .int
  | 1 => .int
  | _ => .boolean
abbrev wsX30 : List Cond := u_ws RX3 TX3 3
theorem nmX3 : ∀ a, a < 3 → ∀ b, b < 3 → a ≠ b → (TX3 a).2.1 ≠ (TX3 b).2.1 := by decide +kernel
theorem tyX3_ok : ∀ k, k < 3 → parseFieldDescriptor (TX3 k).2.2.1 = some (tyX3 k) := by decide +kernel
abbrev cX3_init : ByteArray := prog_5_method_1_code
def yX3_init : MethodName := ⟨RX3, "<init>", "(I)V"⟩
def RX4 : String := "Blockduty$Piece"
def TX4 : u_T := fun k => match k with
  | 0 => ("Blockduty$Piece", "number", "I", true)
  | 1 => ("Blockduty$Piece", "row", "LBlockduty$Row;", true)
  | 2 => ("Blockduty$Piece", "first", "LBlockduty$Trip;", true)
  | 3 => ("Blockduty$Piece", "last", "LBlockduty$Trip;", true)
  | 4 => ("Blockduty$Piece", "tripCount", "I", true)
  | _ => ("Blockduty$Piece", "driver", "LBlockduty$Driver;", false)
def tyX4 : Nat → FieldType := fun k => match k with
  | 0 => .int
  | 1 => .object "Blockduty$Row"
  | 2 => .object "Blockduty$Trip"
  | 3 => .object "Blockduty$Trip"
  | 4 => .int
  | _ => .object "Blockduty$Driver"
abbrev wsX40 : List Cond := u_ws RX4 TX4 6
theorem nmX4 : ∀ a, a < 6 → ∀ b, b < 6 → a ≠ b → (TX4 a).2.1 ≠ (TX4 b).2.1 := by decide +kernel
theorem tyX4_ok : ∀ k, k < 6 → parseFieldDescriptor (TX4 k).2.2.1 = some (tyX4 k) := by decide +kernel
abbrev cX4_init : ByteArray := prog_6_method_1_code
def yX4_init : MethodName := ⟨RX4, "<init>", "(ILBlockduty$Row;LBlockduty$Trip;LBlockduty$Trip;I)V"⟩
abbrev cX4_minutes : ByteArray := prog_6_method_2_code
def yX4_minutes : MethodName := ⟨RX4, "minutes", "()I"⟩
abbrev cX4_isNear : ByteArray := prog_6_method_3_code
def yX4_isNear : MethodName := ⟨RX4, "isNear", "(LBlockduty$Piece;)Z"⟩
abbrev cX4_driverNumber : ByteArray := prog_6_method_4_code
def yX4_driverNumber : MethodName := ⟨RX4, "driverNumber", "()I"⟩
abbrev cX4_release : ByteArray := prog_6_method_5_code
def yX4_release : MethodName := ⟨RX4, "release", "()V"⟩
abbrev cX4_worked : ByteArray := prog_6_method_6_code
def yX4_worked : MethodName := ⟨RX4, "worked", "()I"⟩
def RX5 : String := "Blockduty$Place"
def TX5 : u_T := fun k => match k with
  | 0 => ("Blockduty$Place", "number", "I", true)
  | 1 => ("Blockduty$Place", "x", "I", false)
  | 2 => ("Blockduty$Place", "power", "I", false)
  | _ => ("Blockduty$Place", "isRelief", "Z", false)
def tyX5 : Nat → FieldType := fun k => match k with
  | 0 => .int
  | 1 => .int
  | 2 => .int
  | _ => .boolean
abbrev wsX50 : List Cond := u_ws RX5 TX5 4
theorem nmX5 : ∀ a, a < 4 → ∀ b, b < 4 → a ≠ b → (TX5 a).2.1 ≠ (TX5 b).2.1 := by decide +kernel
theorem tyX5_ok : ∀ k, k < 4 → parseFieldDescriptor (TX5 k).2.2.1 = some (tyX5 k) := by decide +kernel
abbrev cX5_init : ByteArray := prog_7_method_1_code
def yX5_init : MethodName := ⟨RX5, "<init>", "(I)V"⟩
abbrev cX5_emptyTo : ByteArray := prog_7_method_2_code
def yX5_emptyTo : MethodName := ⟨RX5, "emptyTo", "(LBlockduty$Place;)I"⟩
def RX6 : String := "Blockduty$Row"
def TX6 : u_T := fun k => match k with
  | _ => ("Blockduty$Row", "trips", "Ljava/util/ArrayList;", true)
def tyX6 : Nat → FieldType := fun k => match k with
  | _ => .object "java/util/ArrayList"
abbrev wsX60 : List Cond := u_ws RX6 TX6 1
theorem nmX6 : ∀ a, a < 1 → ∀ b, b < 1 → a ≠ b → (TX6 a).2.1 ≠ (TX6 b).2.1 := by decide +kernel
theorem tyX6_ok : ∀ k, k < 1 → parseFieldDescriptor (TX6 k).2.2.1 = some (tyX6 k) := by decide +kernel
abbrev cX6_init : ByteArray := prog_8_method_1_code
def yX6_init : MethodName := ⟨RX6, "<init>", "()V"⟩
abbrev cX6_count : ByteArray := prog_8_method_2_code
def yX6_count : MethodName := ⟨RX6, "count", "()I"⟩
abbrev cX6_get : ByteArray := prog_8_method_3_code
def yX6_get : MethodName := ⟨RX6, "get", "(I)LBlockduty$Trip;"⟩
abbrev cX6_last : ByteArray := prog_8_method_4_code
def yX6_last : MethodName := ⟨RX6, "last", "()LBlockduty$Trip;"⟩
abbrev cX6_join : ByteArray := prog_8_method_5_code
def yX6_join : MethodName := ⟨RX6, "join", "(LBlockduty$Row;ILBlockduty$Row;I)V"⟩
abbrev cX6_copy : ByteArray := prog_8_method_6_code
def yX6_copy : MethodName := ⟨RX6, "copy", "(LBlockduty$Row;)V"⟩
abbrev cX6_addPart : ByteArray := prog_8_method_7_code
def yX6_addPart : MethodName := ⟨RX6, "addPart", "(LBlockduty$Row;II)V"⟩
abbrev cX6_empty : ByteArray := prog_8_method_8_code
def yX6_empty : MethodName := ⟨RX6, "empty", "(LBlockduty$Place;)I"⟩
abbrev cX6_leastCharge : ByteArray := prog_8_method_9_code
def yX6_leastCharge : MethodName := ⟨RX6, "leastCharge", "(LBlockduty$Place;II)I"⟩
def RX7 : String := "Blockduty$Trip"
def TX7 : u_T := fun k => match k with
  | 0 => ("Blockduty$Trip", "number", "I", true)
  | 1 => ("Blockduty$Trip", "line", "LBlockduty$Line;", true)
  | 2 => ("Blockduty$Trip", "from", "LBlockduty$Place;", true)
  | 3 => ("Blockduty$Trip", "to", "LBlockduty$Place;", true)
  | 4 => ("Blockduty$Trip", "start", "I", true)
  | 5 => ("Blockduty$Trip", "minutes", "I", true)
  | 6 => ("Blockduty$Trip", "delay", "I", false)
  | 7 => ("Blockduty$Trip", "block", "LBlockduty$Block;", false)
  | 8 => ("Blockduty$Trip", "piece", "LBlockduty$Piece;", false)
  | 9 => ("Blockduty$Trip", "cause", "I", false)
  | 10 => ("Blockduty$Trip", "realStart", "I", false)
  | _ => ("Blockduty$Trip", "realEnd", "I", false)
def tyX7 : Nat → FieldType := fun k => match k with
  | 0 => .int
  | 1 => .object "Blockduty$Line"
  | 2 => .object "Blockduty$Place"
  | 3 => .object "Blockduty$Place"
  | 4 => .int
  | 5 => .int
  | 6 => .int
  | 7 => .object "Blockduty$Block"
  | 8 => .object "Blockduty$Piece"
  | 9 => .int
  | 10 => .int
  | _ => .int
abbrev wsX70 : List Cond := u_ws RX7 TX7 12
theorem nmX7 : ∀ a, a < 12 → ∀ b, b < 12 → a ≠ b → (TX7 a).2.1 ≠ (TX7 b).2.1 := by decide +kernel
theorem tyX7_ok : ∀ k, k < 12 → parseFieldDescriptor (TX7 k).2.2.1 = some (tyX7 k) := by decide +kernel
abbrev cX7_init : ByteArray := prog_9_method_1_code
def yX7_init : MethodName := ⟨RX7, "<init>", "(ILBlockduty$Line;LBlockduty$Place;LBlockduty$Place;II)V"⟩
abbrev cX7_end : ByteArray := prog_9_method_2_code
def yX7_end : MethodName := ⟨RX7, "end", "()I"⟩
abbrev cX7_emptyTo : ByteArray := prog_9_method_3_code
def yX7_emptyTo : MethodName := ⟨RX7, "emptyTo", "(LBlockduty$Trip;)I"⟩
abbrev cX7_waitBehind : ByteArray := prog_9_method_4_code
def yX7_waitBehind : MethodName := ⟨RX7, "waitBehind", "(LBlockduty$Trip;)I"⟩
abbrev cX7_canFollow : ByteArray := prog_9_method_5_code
def yX7_canFollow : MethodName := ⟨RX7, "canFollow", "(LBlockduty$Trip;)Z"⟩
abbrev cX7_blockNumber : ByteArray := prog_9_method_6_code
def yX7_blockNumber : MethodName := ⟨RX7, "blockNumber", "()I"⟩
abbrev cX7_pieceNumber : ByteArray := prog_9_method_7_code
def yX7_pieceNumber : MethodName := ⟨RX7, "pieceNumber", "()I"⟩
abbrev cX7_runs : ByteArray := prog_9_method_8_code
def yX7_runs : MethodName := ⟨RX7, "runs", "()Z"⟩
abbrev cX7_late : ByteArray := prog_9_method_9_code
def yX7_late : MethodName := ⟨RX7, "late", "()I"⟩
abbrev cX7_causeIf : ByteArray := prog_9_method_10_code
def yX7_causeIf : MethodName := ⟨RX7, "causeIf", "(I)I"⟩
abbrev cX7_pay : ByteArray := prog_9_method_11_code
def yX7_pay : MethodName := ⟨RX7, "pay", "(I)I"⟩
def RX8 : String := "Blockduty$WorkRules"
def TX8 : u_T := fun k => match k with
  | 0 => ("Blockduty$WorkRules", "spread", "I", false)
  | _ => ("Blockduty$WorkRules", "drive", "I", false)
def tyX8 : Nat → FieldType := fun k => match k with
  | 0 => .int
  | _ => .int
abbrev wsX80 : List Cond := u_ws RX8 TX8 2
theorem nmX8 : ∀ a, a < 2 → ∀ b, b < 2 → a ≠ b → (TX8 a).2.1 ≠ (TX8 b).2.1 := by decide +kernel
theorem tyX8_ok : ∀ k, k < 2 → parseFieldDescriptor (TX8 k).2.2.1 = some (tyX8 k) := by decide +kernel
abbrev cX8_init : ByteArray := prog_10_method_1_code
def yX8_init : MethodName := ⟨RX8, "<init>", "()V"⟩
abbrev cX8_planPieces : ByteArray := prog_10_method_2_code
def yX8_planPieces : MethodName := ⟨RX8, "planPieces", "(LBlockduty$Row;[I)I"⟩
abbrev cX8_endOfLongest : ByteArray := prog_10_method_3_code
def yX8_endOfLongest : MethodName := ⟨RX8, "endOfLongest", "(LBlockduty$Row;I)I"⟩
def RX9 : String := "Blockduty"
def TX9 : u_T := fun k => match k with
  | 0 => ("Blockduty", "places", "Ljava/util/ArrayList;", true)
  | 1 => ("Blockduty", "lines", "Ljava/util/ArrayList;", true)
  | 2 => ("Blockduty", "trips", "Ljava/util/ArrayList;", true)
  | 3 => ("Blockduty", "tripsByStart", "Ljava/util/ArrayList;", true)
  | 4 => ("Blockduty", "blocks", "Ljava/util/ArrayList;", true)
  | 5 => ("Blockduty", "drivers", "Ljava/util/ArrayList;", true)
  | 6 => ("Blockduty", "depot", "LBlockduty$Place;", true)
  | 7 => ("Blockduty", "workRules", "LBlockduty$WorkRules;", true)
  | 8 => ("Blockduty", "coldness", "I", false)
  | 9 => ("Blockduty", "finePerLost", "I", false)
  | 10 => ("Blockduty", "oneTrial", "LBlockduty$Row;", true)
  | 11 => ("Blockduty", "otherTrial", "LBlockduty$Row;", true)
  | 12 => ("Blockduty", "pieceEnds", "[I", true)
  | _ => ("Blockduty", "followers", "LBlockduty$Followers;", true)
def tyX9 : Nat → FieldType := fun k => match k with
  | 0 => .object "java/util/ArrayList"
  | 1 => .object "java/util/ArrayList"
  | 2 => .object "java/util/ArrayList"
  | 3 => .object "java/util/ArrayList"
  | 4 => .object "java/util/ArrayList"
  | 5 => .object "java/util/ArrayList"
  | 6 => .object "Blockduty$Place"
  | 7 => .object "Blockduty$WorkRules"
  | 8 => .int
  | 9 => .int
  | 10 => .object "Blockduty$Row"
  | 11 => .object "Blockduty$Row"
  | 12 => .array .int
  | _ => .object "Blockduty$Followers"
abbrev wsX90 : List Cond := u_ws RX9 TX9 14
theorem nmX9 : ∀ a, a < 14 → ∀ b, b < 14 → a ≠ b → (TX9 a).2.1 ≠ (TX9 b).2.1 := by decide +kernel
theorem tyX9_ok : ∀ k, k < 14 → parseFieldDescriptor (TX9 k).2.2.1 = some (tyX9 k) := by decide +kernel
abbrev cX9_init : ByteArray := prog_1_method_1_code
def yX9_init : MethodName := ⟨RX9, "<init>", "()V"⟩
abbrev cX9_place : ByteArray := prog_1_method_2_code
def yX9_place : MethodName := ⟨RX9, "place", "(IIIZ)I"⟩
abbrev cX9_line : ByteArray := prog_1_method_3_code
def yX9_line : MethodName := ⟨RX9, "line", "(IIZ)I"⟩
abbrev cX9_trip : ByteArray := prog_1_method_4_code
def yX9_trip : MethodName := ⟨RX9, "trip", "(IIIII)I"⟩
abbrev cX9_driver : ByteArray := prog_1_method_7_code
def yX9_driver : MethodName := ⟨RX9, "driver", "()I"⟩
abbrev cX9_block : ByteArray := prog_1_method_8_code
def yX9_block : MethodName := ⟨RX9, "block", "(I)I"⟩
abbrev cX9_append : ByteArray := prog_1_method_9_code
def yX9_append : MethodName := ⟨RX9, "append", "(II)I"⟩
abbrev cX9_takeOff : ByteArray := prog_1_method_10_code
def yX9_takeOff : MethodName := ⟨RX9, "takeOff", "(I)I"⟩
abbrev cX9_build : ByteArray := prog_1_method_11_code
def yX9_build : MethodName := ⟨RX9, "build", "(I)I"⟩
abbrev cX9_swap : ByteArray := prog_1_method_12_code
def yX9_swap : MethodName := ⟨RX9, "swap", "(IIII)I"⟩
abbrev cX9_cut : ByteArray := prog_1_method_13_code
def yX9_cut : MethodName := ⟨RX9, "cut", "(I)I"⟩
abbrev cX9_give : ByteArray := prog_1_method_14_code
def yX9_give : MethodName := ⟨RX9, "give", "(III)I"⟩
abbrev cX9_delay : ByteArray := prog_1_method_16_code
def yX9_delay : MethodName := ⟨RX9, "delay", "(II)I"⟩
abbrev cX9_breakdown : ByteArray := prog_1_method_17_code
def yX9_breakdown : MethodName := ⟨RX9, "breakdown", "(II)I"⟩
abbrev cX9_sick : ByteArray := prog_1_method_18_code
def yX9_sick : MethodName := ⟨RX9, "sick", "(IZ)Z"⟩
abbrev cX9_ofTrip : ByteArray := prog_1_method_19_code
def yX9_ofTrip : MethodName := ⟨RX9, "ofTrip", "(II)I"⟩
abbrev cX9_ofBlock : ByteArray := prog_1_method_20_code
def yX9_ofBlock : MethodName := ⟨RX9, "ofBlock", "(II)I"⟩
abbrev cX9_at : ByteArray := prog_1_method_21_code
def yX9_at : MethodName := ⟨RX9, "at", "(II)I"⟩
abbrev cX9_ofPiece : ByteArray := prog_1_method_22_code
def yX9_ofPiece : MethodName := ⟨RX9, "ofPiece", "(III)I"⟩
abbrev cX9_ofDriver : ByteArray := prog_1_method_23_code
def yX9_ofDriver : MethodName := ⟨RX9, "ofDriver", "(II)I"⟩
abbrev cX9_many : ByteArray := prog_1_method_24_code
def yX9_many : MethodName := ⟨RX9, "many", "(I)I"⟩
abbrev cX9_lost : ByteArray := prog_1_method_25_code
def yX9_lost : MethodName := ⟨RX9, "lost", "(I)I"⟩
abbrev cX9_meanLate : ByteArray := prog_1_method_26_code
def yX9_meanLate : MethodName := ⟨RX9, "meanLate", "()D"⟩
abbrev cX9_leastBlocks : ByteArray := prog_1_method_27_code
def yX9_leastBlocks : MethodName := ⟨RX9, "leastBlocks", "()I"⟩
abbrev cX9_wouldLose : ByteArray := prog_1_method_28_code
def yX9_wouldLose : MethodName := ⟨RX9, "wouldLose", "(II)I"⟩
abbrev cX9_mayDelay : ByteArray := prog_1_method_29_code
def yX9_mayDelay : MethodName := ⟨RX9, "mayDelay", "(I)I"⟩
abbrev cX9_bestSwap : ByteArray := prog_1_method_30_code
def yX9_bestSwap : MethodName := ⟨RX9, "bestSwap", "(II)I"⟩
abbrev cX9_digest : ByteArray := prog_1_method_31_code
def yX9_digest : MethodName := ⟨RX9, "digest", "()J"⟩
abbrev cX9_mix : ByteArray := prog_1_method_32_code
def yX9_mix : MethodName := ⟨RX9, "mix", "(JI)J"⟩
abbrev cX9_mixTrip : ByteArray := prog_1_method_33_code
def yX9_mixTrip : MethodName := ⟨RX9, "mixTrip", "(JI)J"⟩
abbrev cX9_mixBlock : ByteArray := prog_1_method_34_code
def yX9_mixBlock : MethodName := ⟨RX9, "mixBlock", "(JI)J"⟩
abbrev cX9_mixDriver : ByteArray := prog_1_method_35_code
def yX9_mixDriver : MethodName := ⟨RX9, "mixDriver", "(JI)J"⟩
abbrev cX9_isOutside : ByteArray := prog_1_method_36_code
def yX9_isOutside : MethodName := ⟨RX9, "isOutside", "(III)Z"⟩
abbrev cX9_placeNumbered : ByteArray := prog_1_method_37_code
def yX9_placeNumbered : MethodName := ⟨RX9, "placeNumbered", "(I)LBlockduty$Place;"⟩
abbrev cX9_lineNumbered : ByteArray := prog_1_method_38_code
def yX9_lineNumbered : MethodName := ⟨RX9, "lineNumbered", "(I)LBlockduty$Line;"⟩
abbrev cX9_tripNumbered : ByteArray := prog_1_method_39_code
def yX9_tripNumbered : MethodName := ⟨RX9, "tripNumbered", "(I)LBlockduty$Trip;"⟩
abbrev cX9_blockNumbered : ByteArray := prog_1_method_40_code
def yX9_blockNumbered : MethodName := ⟨RX9, "blockNumbered", "(I)LBlockduty$Block;"⟩
abbrev cX9_pieceNumbered : ByteArray := prog_1_method_41_code
def yX9_pieceNumbered : MethodName := ⟨RX9, "pieceNumbered", "(II)LBlockduty$Piece;"⟩
abbrev cX9_driverNumbered : ByteArray := prog_1_method_42_code
def yX9_driverNumbered : MethodName := ⟨RX9, "driverNumbered", "(I)LBlockduty$Driver;"⟩
abbrev cX9_addByStart : ByteArray := prog_1_method_43_code
def yX9_addByStart : MethodName := ⟨RX9, "addByStart", "(LBlockduty$Trip;)V"⟩
abbrev cX9_newBlock : ByteArray := prog_1_method_44_code
def yX9_newBlock : MethodName := ⟨RX9, "newBlock", "(I)LBlockduty$Block;"⟩
abbrev cX9_isFlat : ByteArray := prog_1_method_45_code
def yX9_isFlat : MethodName := ⟨RX9, "isFlat", "(LBlockduty$Row;I)Z"⟩
abbrev cX9_wouldBeFlat : ByteArray := prog_1_method_46_code
def yX9_wouldBeFlat : MethodName := ⟨RX9, "wouldBeFlat", "(LBlockduty$Row;LBlockduty$Trip;I)Z"⟩
abbrev cX9_wouldBeFlatAlone : ByteArray := prog_1_method_47_code
def yX9_wouldBeFlatAlone : MethodName := ⟨RX9, "wouldBeFlatAlone", "(LBlockduty$Trip;I)Z"⟩
abbrev cX9_putIntoSomeBlock : ByteArray := prog_1_method_48_code
def yX9_putIntoSomeBlock : MethodName := ⟨RX9, "putIntoSomeBlock", "(LBlockduty$Trip;I)Z"⟩
abbrev cX9_nearestBlock : ByteArray := prog_1_method_49_code
def yX9_nearestBlock : MethodName := ⟨RX9, "nearestBlock", "(LBlockduty$Trip;)LBlockduty$Block;"⟩
abbrev cX9_canSwap : ByteArray := prog_1_method_50_code
def yX9_canSwap : MethodName := ⟨RX9, "canSwap", "(LBlockduty$Row;ILBlockduty$Row;I)Z"⟩
abbrev cX9_canJoin : ByteArray := prog_1_method_51_code
def yX9_canJoin : MethodName := ⟨RX9, "canJoin", "(LBlockduty$Row;ILBlockduty$Row;I)Z"⟩
abbrev cX9_trySwap : ByteArray := prog_1_method_52_code
def yX9_trySwap : MethodName := ⟨RX9, "trySwap", "(LBlockduty$Row;ILBlockduty$Row;I)V"⟩
abbrev cX9_emptyOfSwap : ByteArray := prog_1_method_53_code
def yX9_emptyOfSwap : MethodName := ⟨RX9, "emptyOfSwap", "(LBlockduty$Block;ILBlockduty$Block;I)I"⟩
abbrev cX9_runDay : ByteArray := prog_1_method_54_code
def yX9_runDay : MethodName := ⟨RX9, "runDay", "()V"⟩
abbrev cX9_countOfCause : ByteArray := prog_1_method_55_code
def yX9_countOfCause : MethodName := ⟨RX9, "countOfCause", "(I)I"⟩
abbrev cX9_countyPays : ByteArray := prog_1_method_56_code
def yX9_countyPays : MethodName := ⟨RX9, "countyPays", "()I"⟩
abbrev cX9_driversArePaid : ByteArray := prog_1_method_57_code
def yX9_driversArePaid : MethodName := ⟨RX9, "driversArePaid", "()I"⟩
abbrev cX9_allEmpty : ByteArray := prog_1_method_58_code
def yX9_allEmpty : MethodName := ⟨RX9, "allEmpty", "()I"⟩
abbrev cX9_greatestLate : ByteArray := prog_1_method_59_code
def yX9_greatestLate : MethodName := ⟨RX9, "greatestLate", "()I"⟩
def RX10 : String := "BlockdutyModel$Block"
def TX10 : u_T := fun k => match k with
  | _ => ("", "", "", false)
def tyX10 : Nat → FieldType := fun k => match k with
  | _ => .int
abbrev wsX100 : List Cond := u_ws RX10 TX10 0
theorem nmX10 : ∀ a, a < 0 → ∀ b, b < 0 → a ≠ b → (TX10 a).2.1 ≠ (TX10 b).2.1 := by decide +kernel
theorem tyX10_ok : ∀ k, k < 0 → parseFieldDescriptor (TX10 k).2.2.1 = some (tyX10 k) := by decide +kernel
def RX11 : String := "BlockdutyModel$Piece"
def TX11 : u_T := fun k => match k with
  | _ => ("", "", "", false)
def tyX11 : Nat → FieldType := fun k => match k with
  | _ => .int
abbrev wsX110 : List Cond := u_ws RX11 TX11 0
theorem nmX11 : ∀ a, a < 0 → ∀ b, b < 0 → a ≠ b → (TX11 a).2.1 ≠ (TX11 b).2.1 := by decide +kernel
theorem tyX11_ok : ∀ k, k < 0 → parseFieldDescriptor (TX11 k).2.2.1 = some (tyX11 k) := by decide +kernel
def RX12 : String := "BlockdutyModel$Trip"
def TX12 : u_T := fun k => match k with
  | _ => ("", "", "", false)
def tyX12 : Nat → FieldType := fun k => match k with
  | _ => .int
abbrev wsX120 : List Cond := u_ws RX12 TX12 0
theorem nmX12 : ∀ a, a < 0 → ∀ b, b < 0 → a ≠ b → (TX12 a).2.1 ≠ (TX12 b).2.1 := by decide +kernel
theorem tyX12_ok : ∀ k, k < 0 → parseFieldDescriptor (TX12 k).2.2.1 = some (tyX12 k) := by decide +kernel
def RX13 : String := "BlockdutyModel"
def TX13 : u_T := fun k => match k with
  | _ => ("", "", "", false)
def tyX13 : Nat → FieldType := fun k => match k with
  | _ => .int
abbrev wsX130 : List Cond := u_ws RX13 TX13 0
theorem nmX13 : ∀ a, a < 0 → ∀ b, b < 0 → a ≠ b → (TX13 a).2.1 ≠ (TX13 b).2.1 := by decide +kernel
theorem tyX13_ok : ∀ k, k < 0 → parseFieldDescriptor (TX13 k).2.2.1 = some (tyX13 k) := by decide +kernel
def RJx145de : String := "java/io/Serializable"
def TJx145de : u_T := fun k => match k with
  | _ => ("", "", "", false)
def tyJx145de : Nat → FieldType := fun k => match k with
  | _ => .int
abbrev wsJx145de0 : List Cond := u_ws RJx145de TJx145de 0
theorem nmJx145de : ∀ a, a < 0 → ∀ b, b < 0 → a ≠ b → (TJx145de a).2.1 ≠ (TJx145de b).2.1 := by decide +kernel
theorem tyJx145de_ok : ∀ k, k < 0 → parseFieldDescriptor (TJx145de k).2.2.1 = some (tyJx145de k) := by decide +kernel
def RJx8e188 : String := "java/lang/Cloneable"
def TJx8e188 : u_T := fun k => match k with
  | _ => ("", "", "", false)
def tyJx8e188 : Nat → FieldType := fun k => match k with
  | _ => .int
abbrev wsJx8e1880 : List Cond := u_ws RJx8e188 TJx8e188 0
theorem nmJx8e188 : ∀ a, a < 0 → ∀ b, b < 0 → a ≠ b → (TJx8e188 a).2.1 ≠ (TJx8e188 b).2.1 := by decide +kernel
theorem tyJx8e188_ok : ∀ k, k < 0 → parseFieldDescriptor (TJx8e188 k).2.2.1 = some (tyJx8e188 k) := by decide +kernel
def RJxab1ab : String := "java/lang/Iterable"
def TJxab1ab : u_T := fun k => match k with
  | _ => ("", "", "", false)
def tyJxab1ab : Nat → FieldType := fun k => match k with
  | _ => .int
abbrev wsJxab1ab0 : List Cond := u_ws RJxab1ab TJxab1ab 0
theorem nmJxab1ab : ∀ a, a < 0 → ∀ b, b < 0 → a ≠ b → (TJxab1ab a).2.1 ≠ (TJxab1ab b).2.1 := by decide +kernel
theorem tyJxab1ab_ok : ∀ k, k < 0 → parseFieldDescriptor (TJxab1ab k).2.2.1 = some (tyJxab1ab k) := by decide +kernel
def RJ9 : String := "java/lang/Math"
def TJ9 : u_T := fun k => match k with
  | _ => ("", "", "", false)
def tyJ9 : Nat → FieldType := fun k => match k with
  | _ => .int
abbrev wsJ90 : List Cond := u_ws RJ9 TJ9 0
theorem nmJ9 : ∀ a, a < 0 → ∀ b, b < 0 → a ≠ b → (TJ9 a).2.1 ≠ (TJ9 b).2.1 := by decide +kernel
theorem tyJ9_ok : ∀ k, k < 0 → parseFieldDescriptor (TJ9 k).2.2.1 = some (tyJ9 k) := by decide +kernel
abbrev cJ9_abs_0f7a4 : ByteArray := prog_23_method_59_code
def yJ9_abs_0f7a4 : MethodName := ⟨RJ9, "abs", "(I)I"⟩
abbrev cJ9_max_7cf53 : ByteArray := prog_23_method_65_code
def yJ9_max_7cf53 : MethodName := ⟨RJ9, "max", "(II)I"⟩
abbrev cJ9_min_7cf53 : ByteArray := prog_23_method_69_code
def yJ9_min_7cf53 : MethodName := ⟨RJ9, "min", "(II)I"⟩
def RJ0 : String := "java/lang/String"
def TJ0 : u_T := fun k => match k with
  | _ => ("", "", "", false)
def tyJ0 : Nat → FieldType := fun k => match k with
  | _ => .int
abbrev wsJ00 : List Cond := u_ws RJ0 TJ0 0
theorem nmJ0 : ∀ a, a < 0 → ∀ b, b < 0 → a ≠ b → (TJ0 a).2.1 ≠ (TJ0 b).2.1 := by decide +kernel
theorem tyJ0_ok : ∀ k, k < 0 → parseFieldDescriptor (TJ0 k).2.2.1 = some (tyJ0 k) := by decide +kernel
def RJ10 : String := "java/lang/System"
def TJ10 : u_T := fun k => match k with
  | _ => ("", "", "", false)
def tyJ10 : Nat → FieldType := fun k => match k with
  | _ => .int
abbrev wsJ100 : List Cond := u_ws RJ10 TJ10 0
theorem nmJ10 : ∀ a, a < 0 → ∀ b, b < 0 → a ≠ b → (TJ10 a).2.1 ≠ (TJ10 b).2.1 := by decide +kernel
theorem tyJ10_ok : ∀ k, k < 0 → parseFieldDescriptor (TJ10 k).2.2.1 = some (tyJ10 k) := by decide +kernel
def RJxa1e45 : String := "java/util/AbstractCollection"
def TJxa1e45 : u_T := fun k => match k with
  | _ => ("", "", "", false)
def tyJxa1e45 : Nat → FieldType := fun k => match k with
  | _ => .int
abbrev wsJxa1e450 : List Cond := u_ws RJxa1e45 TJxa1e45 0
theorem nmJxa1e45 : ∀ a, a < 0 → ∀ b, b < 0 → a ≠ b → (TJxa1e45 a).2.1 ≠ (TJxa1e45 b).2.1 := by decide +kernel
theorem tyJxa1e45_ok : ∀ k, k < 0 → parseFieldDescriptor (TJxa1e45 k).2.2.1 = some (tyJxa1e45 k) := by decide +kernel
abbrev cJxa1e45_init_da8c8 : ByteArray := prog_28_method_1_code
def yJxa1e45_init_da8c8 : MethodName := ⟨RJxa1e45, "<init>", "()V"⟩
def RJxc12de : String := "java/util/AbstractList"
def TJxc12de : u_T := fun k => match k with
  | _ => ("", "", "", false)
def tyJxc12de : Nat → FieldType := fun k => match k with
  | _ => .int
abbrev wsJxc12de0 : List Cond := u_ws RJxc12de TJxc12de 0
theorem nmJxc12de : ∀ a, a < 0 → ∀ b, b < 0 → a ≠ b → (TJxc12de a).2.1 ≠ (TJxc12de b).2.1 := by decide +kernel
theorem tyJxc12de_ok : ∀ k, k < 0 → parseFieldDescriptor (TJxc12de k).2.2.1 = some (tyJxc12de k) := by decide +kernel
abbrev cJxc12de_init_da8c8 : ByteArray := prog_29_method_1_code
def yJxc12de_init_da8c8 : MethodName := ⟨RJxc12de, "<init>", "()V"⟩
def RJx4a65c : String := "java/util/ArrayList"
def TJx4a65c : u_T := fun k => match k with
  | 0 => ("java/util/AbstractList", "modCount", "I", false)
  | 1 => ("java/util/ArrayList", "elementData", "[Ljava/lang/Object;", false)
  | _ => ("java/util/ArrayList", "size", "I", false)
def tyJx4a65c : Nat → FieldType := fun k => match k with
  | 0 => .int
  | 1 => .array (.object "java/lang/Object")
  | _ => .int
abbrev wsJx4a65c0 : List Cond := u_ws RJx4a65c TJx4a65c 3
theorem nmJx4a65c : ∀ a, a < 3 → ∀ b, b < 3 → a ≠ b → (TJx4a65c a).2.1 ≠ (TJx4a65c b).2.1 := by decide +kernel
theorem tyJx4a65c_ok : ∀ k, k < 3 → parseFieldDescriptor (TJx4a65c k).2.2.1 = some (tyJx4a65c k) := by decide +kernel
abbrev cJx4a65c_init_da8c8 : ByteArray := prog_30_method_2_code
def yJx4a65c_init_da8c8 : MethodName := ⟨RJx4a65c, "<init>", "()V"⟩
abbrev cJx4a65c_grow_92f84 : ByteArray := prog_30_method_6_code
def yJx4a65c_grow_92f84 : MethodName := ⟨RJx4a65c, "grow", "(I)[Ljava/lang/Object;"⟩
abbrev cJx4a65c_grow_d5877 : ByteArray := prog_30_method_7_code
def yJx4a65c_grow_d5877 : MethodName := ⟨RJx4a65c, "grow", "()[Ljava/lang/Object;"⟩
abbrev cJx4a65c_size_8abf5 : ByteArray := prog_30_method_8_code
def yJx4a65c_size_8abf5 : MethodName := ⟨RJx4a65c, "size", "()I"⟩
abbrev cJx4a65c_isEmpty_aae02 : ByteArray := prog_30_method_9_code
def yJx4a65c_isEmpty_aae02 : MethodName := ⟨RJx4a65c, "isEmpty", "()Z"⟩
abbrev cJx4a65c_elementData_915e3 : ByteArray := prog_30_method_18_code
def yJx4a65c_elementData_915e3 : MethodName := ⟨RJx4a65c, "elementData", "(I)Ljava/lang/Object;"⟩
abbrev cJx4a65c_get_915e3 : ByteArray := prog_30_method_20_code
def yJx4a65c_get_915e3 : MethodName := ⟨RJx4a65c, "get", "(I)Ljava/lang/Object;"⟩
abbrev cJx4a65c_add_72be8 : ByteArray := prog_30_method_24_code
def yJx4a65c_add_72be8 : MethodName := ⟨RJx4a65c, "add", "(Ljava/lang/Object;[Ljava/lang/Object;I)V"⟩
abbrev cJx4a65c_add_9ea2d : ByteArray := prog_30_method_25_code
def yJx4a65c_add_9ea2d : MethodName := ⟨RJx4a65c, "add", "(Ljava/lang/Object;)Z"⟩
abbrev cJx4a65c_add_7a177 : ByteArray := prog_30_method_26_code
def yJx4a65c_add_7a177 : MethodName := ⟨RJx4a65c, "add", "(ILjava/lang/Object;)V"⟩
abbrev cJx4a65c_remove_915e3 : ByteArray := prog_30_method_29_code
def yJx4a65c_remove_915e3 : MethodName := ⟨RJx4a65c, "remove", "(I)Ljava/lang/Object;"⟩
abbrev cJx4a65c_fastRemove_b59b0 : ByteArray := prog_30_method_39_code
def yJx4a65c_fastRemove_b59b0 : MethodName := ⟨RJx4a65c, "fastRemove", "([Ljava/lang/Object;I)V"⟩
abbrev cJx4a65c_clear_da8c8 : ByteArray := prog_30_method_40_code
def yJx4a65c_clear_da8c8 : MethodName := ⟨RJx4a65c, "clear", "()V"⟩
abbrev cJx4a65c_rangeCheckForAdd_d00df : ByteArray := prog_30_method_45_code
def yJx4a65c_rangeCheckForAdd_d00df : MethodName := ⟨RJx4a65c, "rangeCheckForAdd", "(I)V"⟩
def RJ7 : String := "java/util/Arrays"
def TJ7 : u_T := fun k => match k with
  | _ => ("", "", "", false)
def tyJ7 : Nat → FieldType := fun k => match k with
  | _ => .int
abbrev wsJ70 : List Cond := u_ws RJ7 TJ7 0
theorem nmJ7 : ∀ a, a < 0 → ∀ b, b < 0 → a ≠ b → (TJ7 a).2.1 ≠ (TJ7 b).2.1 := by decide +kernel
theorem tyJ7_ok : ∀ k, k < 0 → parseFieldDescriptor (TJ7 k).2.2.1 = some (tyJ7 k) := by decide +kernel
abbrev cJ7_copyOf_1904c : ByteArray := prog_31_method_119_code
def yJ7_copyOf_1904c : MethodName := ⟨RJ7, "copyOf", "([Ljava/lang/Object;I)[Ljava/lang/Object;"⟩
abbrev cJ7_copyOf_6403c : ByteArray := prog_31_method_120_code
def yJ7_copyOf_6403c : MethodName := ⟨RJ7, "copyOf", "([Ljava/lang/Object;ILjava/lang/Class;)[Ljava/lang/Object;"⟩
def RJx5ef63 : String := "java/util/Collection"
def TJx5ef63 : u_T := fun k => match k with
  | _ => ("", "", "", false)
def tyJx5ef63 : Nat → FieldType := fun k => match k with
  | _ => .int
abbrev wsJx5ef630 : List Cond := u_ws RJx5ef63 TJx5ef63 0
theorem nmJx5ef63 : ∀ a, a < 0 → ∀ b, b < 0 → a ≠ b → (TJx5ef63 a).2.1 ≠ (TJx5ef63 b).2.1 := by decide +kernel
theorem tyJx5ef63_ok : ∀ k, k < 0 → parseFieldDescriptor (TJx5ef63 k).2.2.1 = some (tyJx5ef63 k) := by decide +kernel
def RJxbd725 : String := "java/util/List"
def TJxbd725 : u_T := fun k => match k with
  | _ => ("", "", "", false)
def tyJxbd725 : Nat → FieldType := fun k => match k with
  | _ => .int
abbrev wsJxbd7250 : List Cond := u_ws RJxbd725 TJxbd725 0
theorem nmJxbd725 : ∀ a, a < 0 → ∀ b, b < 0 → a ≠ b → (TJxbd725 a).2.1 ≠ (TJxbd725 b).2.1 := by decide +kernel
theorem tyJxbd725_ok : ∀ k, k < 0 → parseFieldDescriptor (TJxbd725 k).2.2.1 = some (tyJxbd725 k) := by decide +kernel
def RJ15 : String := "java/util/Objects"
def TJ15 : u_T := fun k => match k with
  | _ => ("", "", "", false)
def tyJ15 : Nat → FieldType := fun k => match k with
  | _ => .int
abbrev wsJ150 : List Cond := u_ws RJ15 TJ15 0
theorem nmJ15 : ∀ a, a < 0 → ∀ b, b < 0 → a ≠ b → (TJ15 a).2.1 ≠ (TJ15 b).2.1 := by decide +kernel
theorem tyJ15_ok : ∀ k, k < 0 → parseFieldDescriptor (TJ15 k).2.2.1 = some (tyJ15 k) := by decide +kernel
abbrev cJ15_checkIndex_7cf53 : ByteArray := prog_34_method_17_code
def yJ15_checkIndex_7cf53 : MethodName := ⟨RJ15, "checkIndex", "(II)I"⟩
def RJxf0a74 : String := "java/util/RandomAccess"
def TJxf0a74 : u_T := fun k => match k with
  | _ => ("", "", "", false)
def tyJxf0a74 : Nat → FieldType := fun k => match k with
  | _ => .int
abbrev wsJxf0a740 : List Cond := u_ws RJxf0a74 TJxf0a74 0
theorem nmJxf0a74 : ∀ a, a < 0 → ∀ b, b < 0 → a ≠ b → (TJxf0a74 a).2.1 ≠ (TJxf0a74 b).2.1 := by decide +kernel
theorem tyJxf0a74_ok : ∀ k, k < 0 → parseFieldDescriptor (TJxf0a74 k).2.2.1 = some (tyJxf0a74 k) := by decide +kernel
def RJxa66e6 : String := "java/util/SequencedCollection"
def TJxa66e6 : u_T := fun k => match k with
  | _ => ("", "", "", false)
def tyJxa66e6 : Nat → FieldType := fun k => match k with
  | _ => .int
abbrev wsJxa66e60 : List Cond := u_ws RJxa66e6 TJxa66e6 0
theorem nmJxa66e6 : ∀ a, a < 0 → ∀ b, b < 0 → a ≠ b → (TJxa66e6 a).2.1 ≠ (TJxa66e6 b).2.1 := by decide +kernel
theorem tyJxa66e6_ok : ∀ k, k < 0 → parseFieldDescriptor (TJxa66e6 k).2.2.1 = some (tyJxa66e6 k) := by decide +kernel
def RJ8 : String := "jdk/internal/util/ArraysSupport"
def TJ8 : u_T := fun k => match k with
  | _ => ("", "", "", false)
def tyJ8 : Nat → FieldType := fun k => match k with
  | _ => .int
abbrev wsJ80 : List Cond := u_ws RJ8 TJ8 0
theorem nmJ8 : ∀ a, a < 0 → ∀ b, b < 0 → a ≠ b → (TJ8 a).2.1 ≠ (TJ8 b).2.1 := by decide +kernel
theorem tyJ8_ok : ∀ k, k < 0 → parseFieldDescriptor (TJ8 k).2.2.1 = some (tyJ8 k) := by decide +kernel
abbrev cJ8_newLength_cabcc : ByteArray := prog_37_method_27_code
def yJ8_newLength_cabcc : MethodName := ⟨RJ8, "newLength", "(III)I"⟩
abbrev cJ8_hugeLength_7cf53 : ByteArray := prog_37_method_28_code
def yJ8_hugeLength_7cf53 : MethodName := ⟨RJ8, "hugeLength", "(II)I"⟩
def RJ3 : String := "jdk/internal/util/Preconditions"
def TJ3 : u_T := fun k => match k with
  | _ => ("", "", "", false)
def tyJ3 : Nat → FieldType := fun k => match k with
  | _ => .int
abbrev wsJ30 : List Cond := u_ws RJ3 TJ3 0
theorem nmJ3 : ∀ a, a < 0 → ∀ b, b < 0 → a ≠ b → (TJ3 a).2.1 ≠ (TJ3 b).2.1 := by decide +kernel
theorem tyJ3_ok : ∀ k, k < 0 → parseFieldDescriptor (TJ3 k).2.2.1 = some (tyJ3 k) := by decide +kernel
abbrev cJ3_checkIndex_8e157 : ByteArray := prog_38_method_11_code
def yJ3_checkIndex_8e157 : MethodName := ⟨RJ3, "checkIndex", "(IILjava/util/function/BiFunction;)I"⟩
def RL : String := "BlockdutyLaw"
abbrev cL_below : ByteArray := method_2_code
def yL_below : MethodName := ⟨RL, "below", "(II)I"⟩
abbrev cL_cell : ByteArray := method_3_code
def yL_cell : MethodName := ⟨RL, "cell", "([II)I"⟩
abbrev cL_law : ByteArray := code
def yL_law : MethodName := ⟨RL, "law", "([I)Z"⟩
abbrev cL_isBuilt : ByteArray := method_5_code
def yL_isBuilt : MethodName := ⟨RL, "isBuilt", "(LBlockduty;I)Z"⟩
abbrev cL_follows : ByteArray := method_6_code
def yL_follows : MethodName := ⟨RL, "follows", "(LBlockduty;[III)Z"⟩
abbrev cL_isAppended : ByteArray := method_7_code
def yL_isAppended : MethodName := ⟨RL, "isAppended", "(LBlockduty;[III)Z"⟩
abbrev cL_isSwapped : ByteArray := method_8_code
def yL_isSwapped : MethodName := ⟨RL, "isSwapped", "(LBlockduty;IIII)Z"⟩
abbrev cL_isCut : ByteArray := method_9_code
def yL_isCut : MethodName := ⟨RL, "isCut", "(LBlockduty;I)Z"⟩
abbrev cL_isGiven : ByteArray := method_10_code
def yL_isGiven : MethodName := ⟨RL, "isGiven", "(LBlockduty;III)Z"⟩
abbrev cL_isBroken : ByteArray := method_11_code
def yL_isBroken : MethodName := ⟨RL, "isBroken", "(LBlockduty;II)Z"⟩
abbrev cL_isSound : ByteArray := method_12_code
def yL_isSound : MethodName := ⟨RL, "isSound", "(LBlockduty;[I[ZI[II)Z"⟩
abbrev vwCl : List vw_C := [(RJx4a65c, TJx4a65c, 3), (RX0, TX0, 5), (RX1, TX1, 3), (RX2, TX2, 2), (RX3, TX3, 3), (RX4, TX4, 6), (RX5, TX5, 4), (RX6, TX6, 1), (RX7, TX7, 12), (RX8, TX8, 2), (RX9, TX9, 14)]
