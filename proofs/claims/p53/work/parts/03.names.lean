def RX0 : String := "PriceIrons$Creases"
def TX0 : u_T := fun k => match k with
  | _ => ("", "", "", false)
def tyX0 : Nat → FieldType := fun k => match k with
  | _ => .int
abbrev wsX00 : List Cond := u_ws RX0 TX0 0
theorem nmX0 : ∀ a, a < 0 → ∀ b, b < 0 → a ≠ b → (TX0 a).2.1 ≠ (TX0 b).2.1 := by decide +kernel
theorem tyX0_ok : ∀ k, k < 0 → parseFieldDescriptor (TX0 k).2.2.1 = some (tyX0 k) := by decide +kernel
abbrev cX0_middle : ByteArray := prog_2_method_2_code
def yX0_middle : MethodName := ⟨RX0, "middle", "(LPriceIrons$State;I)I"⟩
abbrev cX0_standsOut : ByteArray := prog_2_method_3_code
def yX0_standsOut : MethodName := ⟨RX0, "standsOut", "(LPriceIrons$State;I)Z"⟩
abbrev cX0_number : ByteArray := prog_2_method_4_code
def yX0_number : MethodName := ⟨RX0, "number", "(LPriceIrons$State;)I"⟩
abbrev cX0_flatten : ByteArray := prog_2_method_5_code
def yX0_flatten : MethodName := ⟨RX0, "flatten", "(LPriceIrons$State;I)V"⟩
abbrev cX0_flattenAll : ByteArray := prog_2_method_6_code
def yX0_flattenAll : MethodName := ⟨RX0, "flattenAll", "(LPriceIrons$State;)I"⟩
def RX1 : String := "PriceIrons$Forecasts"
def TX1 : u_T := fun k => match k with
  | _ => ("", "", "", false)
def tyX1 : Nat → FieldType := fun k => match k with
  | _ => .int
abbrev wsX10 : List Cond := u_ws RX1 TX1 0
theorem nmX1 : ∀ a, a < 0 → ∀ b, b < 0 → a ≠ b → (TX1 a).2.1 ≠ (TX1 b).2.1 := by decide +kernel
theorem tyX1_ok : ∀ k, k < 0 → parseFieldDescriptor (TX1 k).2.2.1 = some (tyX1 k) := by decide +kernel
abbrev cX1_behind : ByteArray := prog_3_method_2_code
def yX1_behind : MethodName := ⟨RX1, "behind", "(LPriceIrons$State;II)I"⟩
abbrev cX1_missOf : ByteArray := prog_3_method_3_code
def yX1_missOf : MethodName := ⟨RX1, "missOf", "(LPriceIrons$State;I)I"⟩
abbrev cX1_best : ByteArray := prog_3_method_4_code
def yX1_best : MethodName := ⟨RX1, "best", "(LPriceIrons$State;)I"⟩
def RX2 : String := "PriceIrons$Highs"
def TX2 : u_T := fun k => match k with
  | 0 => ("PriceIrons$Highs", "candidates", "[I", true)
  | 1 => ("PriceIrons$Highs", "front", "I", false)
  | _ => ("PriceIrons$Highs", "end", "I", false)
def tyX2 : Nat → FieldType := fun k => match k with
  | 0 => .array .int
  | 1 => .int
  | _ => .int
abbrev wsX20 : List Cond := u_ws RX2 TX2 3
theorem nmX2 : ∀ a, a < 3 → ∀ b, b < 3 → a ≠ b → (TX2 a).2.1 ≠ (TX2 b).2.1 := by decide +kernel
theorem tyX2_ok : ∀ k, k < 3 → parseFieldDescriptor (TX2 k).2.2.1 = some (tyX2 k) := by decide +kernel
abbrev cX2_init : ByteArray := prog_4_method_1_code
def yX2_init : MethodName := ⟨RX2, "<init>", "()V"⟩
abbrev cX2_byLooking : ByteArray := prog_4_method_2_code
def yX2_byLooking : MethodName := ⟨RX2, "byLooking", "(LPriceIrons$State;I)I"⟩
abbrev cX2_byRow : ByteArray := prog_4_method_3_code
def yX2_byRow : MethodName := ⟨RX2, "byRow", "(LPriceIrons$State;I)I"⟩
abbrev cX2_enter : ByteArray := prog_4_method_4_code
def yX2_enter : MethodName := ⟨RX2, "enter", "(LPriceIrons$State;I)V"⟩
abbrev cX2_leave : ByteArray := prog_4_method_5_code
def yX2_leave : MethodName := ⟨RX2, "leave", "(I)V"⟩
abbrev cX2_candidate : ByteArray := prog_4_method_6_code
def yX2_candidate : MethodName := ⟨RX2, "candidate", "(I)I"⟩
abbrev cX2_fallInOneGo : ByteArray := prog_4_method_7_code
def yX2_fallInOneGo : MethodName := ⟨RX2, "fallInOneGo", "(LPriceIrons$State;)I"⟩
abbrev cX2_fallByPairs : ByteArray := prog_4_method_8_code
def yX2_fallByPairs : MethodName := ⟨RX2, "fallByPairs", "(LPriceIrons$State;)I"⟩
abbrev cX2_riseInARow : ByteArray := prog_4_method_9_code
def yX2_riseInARow : MethodName := ⟨RX2, "riseInARow", "(LPriceIrons$State;)I"⟩
def RX3 : String := "PriceIrons$History"
def TX3 : u_T := fun k => match k with
  | 0 => ("PriceIrons$History", "ring", "[LPriceIrons$State;", true)
  | 1 => ("PriceIrons$History", "oldest", "I", false)
  | _ => ("PriceIrons$History", "count", "I", false)
def tyX3 : Nat → FieldType := fun k => match k with
  | 0 => .array (.object "PriceIrons$State")
  | 1 => .int
  | _ => .int
abbrev wsX30 : List Cond := u_ws RX3 TX3 3
theorem nmX3 : ∀ a, a < 3 → ∀ b, b < 3 → a ≠ b → (TX3 a).2.1 ≠ (TX3 b).2.1 := by decide +kernel
theorem tyX3_ok : ∀ k, k < 3 → parseFieldDescriptor (TX3 k).2.2.1 = some (tyX3 k) := by decide +kernel
abbrev cX3_init : ByteArray := prog_5_method_1_code
def yX3_init : MethodName := ⟨RX3, "<init>", "()V"⟩
abbrev cX3_save : ByteArray := prog_5_method_2_code
def yX3_save : MethodName := ⟨RX3, "save", "(LPriceIrons$State;)V"⟩
abbrev cX3_takeBack : ByteArray := prog_5_method_3_code
def yX3_takeBack : MethodName := ⟨RX3, "takeBack", "(LPriceIrons$State;)V"⟩
abbrev cX3_newest : ByteArray := prog_5_method_4_code
def yX3_newest : MethodName := ⟨RX3, "newest", "()LPriceIrons$State;"⟩
def RX4 : String := "PriceIrons$Means"
def TX4 : u_T := fun k => match k with
  | _ => ("", "", "", false)
def tyX4 : Nat → FieldType := fun k => match k with
  | _ => .int
abbrev wsX40 : List Cond := u_ws RX4 TX4 0
theorem nmX4 : ∀ a, a < 0 → ∀ b, b < 0 → a ≠ b → (TX4 a).2.1 ≠ (TX4 b).2.1 := by decide +kernel
theorem tyX4_ok : ∀ k, k < 0 → parseFieldDescriptor (TX4 k).2.2.1 = some (tyX4 k) := by decide +kernel
abbrev cX4_firstOf : ByteArray := prog_6_method_2_code
def yX4_firstOf : MethodName := ⟨RX4, "firstOf", "(II)I"⟩
abbrev cX4_byAdding : ByteArray := prog_6_method_3_code
def yX4_byAdding : MethodName := ⟨RX4, "byAdding", "(LPriceIrons$State;II)I"⟩
abbrev cX4_bySums : ByteArray := prog_6_method_4_code
def yX4_bySums : MethodName := ⟨RX4, "bySums", "(LPriceIrons$State;II)I"⟩
abbrev cX4_sumAhead : ByteArray := prog_6_method_5_code
def yX4_sumAhead : MethodName := ⟨RX4, "sumAhead", "(LPriceIrons$State;I)J"⟩
abbrev cX4_smoothedForwards : ByteArray := prog_6_method_7_code
def yX4_smoothedForwards : MethodName := ⟨RX4, "smoothedForwards", "(LPriceIrons$State;I)I"⟩
abbrev cX4_smoothedByRecursion : ByteArray := prog_6_method_8_code
def yX4_smoothedByRecursion : MethodName := ⟨RX4, "smoothedByRecursion", "(LPriceIrons$State;II)I"⟩
abbrev cX4_nextSmooth : ByteArray := prog_6_method_9_code
def yX4_nextSmooth : MethodName := ⟨RX4, "nextSmooth", "(III)I"⟩
def RX5 : String := "PriceIrons$Seasons"
def TX5 : u_T := fun k => match k with
  | _ => ("", "", "", false)
def tyX5 : Nat → FieldType := fun k => match k with
  | _ => .int
abbrev wsX50 : List Cond := u_ws RX5 TX5 0
theorem nmX5 : ∀ a, a < 0 → ∀ b, b < 0 → a ≠ b → (TX5 a).2.1 ≠ (TX5 b).2.1 := by decide +kernel
theorem tyX5_ok : ∀ k, k < 0 → parseFieldDescriptor (TX5 k).2.2.1 = some (tyX5 k) := by decide +kernel
abbrev cX5_daysOf : ByteArray := prog_7_method_2_code
def yX5_daysOf : MethodName := ⟨RX5, "daysOf", "(LPriceIrons$State;II)I"⟩
abbrev cX5_sumOf : ByteArray := prog_7_method_3_code
def yX5_sumOf : MethodName := ⟨RX5, "sumOf", "(LPriceIrons$State;II)J"⟩
def RX6 : String := "PriceIrons$State"
def TX6 : u_T := fun k => match k with
  | 0 => ("PriceIrons$State", "row", "[I", true)
  | 1 => ("PriceIrons$State", "length", "I", false)
  | 2 => ("PriceIrons$State", "shorter", "I", false)
  | 3 => ("PriceIrons$State", "longer", "I", false)
  | 4 => ("PriceIrons$State", "memory", "I", false)
  | 5 => ("PriceIrons$State", "limit", "I", false)
  | 6 => ("PriceIrons$State", "seasonDays", "I", false)
  | 7 => ("PriceIrons$State", "stopped", "Z", false)
  | 8 => ("PriceIrons$State", "stopPart", "I", false)
  | _ => ("PriceIrons$State", "stopReason", "I", false)
def tyX6 : Nat → FieldType := fun k => match k with
  | 0 => .array .int
  | 1 => .int
  | 2 => .int
  | 3 => .int
  | 4 => .int
  | 5 => .int
  | 6 => .int
  | 7 => .boolean
  | 8 => .int
  | _ => .int
abbrev wsX60 : List Cond := u_ws RX6 TX6 10
theorem nmX6 : ∀ a, a < 10 → ∀ b, b < 10 → a ≠ b → (TX6 a).2.1 ≠ (TX6 b).2.1 := by decide +kernel
theorem tyX6_ok : ∀ k, k < 10 → parseFieldDescriptor (TX6 k).2.2.1 = some (tyX6 k) := by decide +kernel
abbrev cX6_init : ByteArray := prog_8_method_1_code
def yX6_init : MethodName := ⟨RX6, "<init>", "()V"⟩
abbrev cX6_copyFrom : ByteArray := prog_8_method_2_code
def yX6_copyFrom : MethodName := ⟨RX6, "copyFrom", "(LPriceIrons$State;)V"⟩
abbrev cX6_hasDay : ByteArray := prog_8_method_3_code
def yX6_hasDay : MethodName := ⟨RX6, "hasDay", "(I)Z"⟩
abbrev cX6_at : ByteArray := prog_8_method_4_code
def yX6_at : MethodName := ⟨RX6, "at", "(I)I"⟩
abbrev cX6_put : ByteArray := prog_8_method_5_code
def yX6_put : MethodName := ⟨RX6, "put", "(II)V"⟩
abbrev cX6_add : ByteArray := prog_8_method_6_code
def yX6_add : MethodName := ⟨RX6, "add", "(I)V"⟩
abbrev cX6_drop : ByteArray := prog_8_method_7_code
def yX6_drop : MethodName := ⟨RX6, "drop", "(I)V"⟩
abbrev cX6_partOf : ByteArray := prog_8_method_8_code
def yX6_partOf : MethodName := ⟨RX6, "partOf", "(I)I"⟩
def RX7 : String := "PriceIrons$Syntax"
def TX7 : u_T := fun k => match k with
  | 0 => ("PriceIrons$Syntax", "letter", "I", false)
  | 1 => ("PriceIrons$Syntax", "field", "I", false)
  | 2 => ("PriceIrons$Syntax", "digits", "I", false)
  | _ => ("PriceIrons$Syntax", "value", "I", false)
def tyX7 : Nat → FieldType := fun k => match k with
  | 0 => .int
  | 1 => .int
  | 2 => .int
  | _ => .int
abbrev wsX70 : List Cond := u_ws RX7 TX7 4
theorem nmX7 : ∀ a, a < 4 → ∀ b, b < 4 → a ≠ b → (TX7 a).2.1 ≠ (TX7 b).2.1 := by decide +kernel
theorem tyX7_ok : ∀ k, k < 4 → parseFieldDescriptor (TX7 k).2.2.1 = some (tyX7 k) := by decide +kernel
abbrev cX7_init : ByteArray := prog_9_method_1_code
def yX7_init : MethodName := ⟨RX7, "<init>", "()V"⟩
def RX8 : String := "PriceIrons$Text"
def TX8 : u_T := fun k => match k with
  | 0 => ("PriceIrons$Text", "codes", "[I", true)
  | 1 => ("PriceIrons$Text", "length", "I", false)
  | _ => ("PriceIrons$Text", "syntax", "LPriceIrons$Syntax;", true)
def tyX8 : Nat → FieldType := fun k => match k with
  | 0 => .array .int
  | 1 => .int
  | _ => .object "PriceIrons$Syntax"
abbrev wsX80 : List Cond := u_ws RX8 TX8 3
theorem nmX8 : ∀ a, a < 3 → ∀ b, b < 3 → a ≠ b → (TX8 a).2.1 ≠ (TX8 b).2.1 := by decide +kernel
theorem tyX8_ok : ∀ k, k < 3 → parseFieldDescriptor (TX8 k).2.2.1 = some (tyX8 k) := by decide +kernel
abbrev cX8_init : ByteArray := prog_10_method_1_code
def yX8_init : MethodName := ⟨RX8, "<init>", "()V"⟩
def RX9 : String := "PriceIrons$Trade"
def TX9 : u_T := fun k => match k with
  | 0 => ("PriceIrons$Trade", "coins", "J", false)
  | _ => ("PriceIrons$Trade", "held", "I", false)
def tyX9 : Nat → FieldType := fun k => match k with
  | 0 => .long
  | _ => .int
abbrev wsX90 : List Cond := u_ws RX9 TX9 2
theorem nmX9 : ∀ a, a < 2 → ∀ b, b < 2 → a ≠ b → (TX9 a).2.1 ≠ (TX9 b).2.1 := by decide +kernel
theorem tyX9_ok : ∀ k, k < 2 → parseFieldDescriptor (TX9 k).2.2.1 = some (tyX9 k) := by decide +kernel
abbrev cX9_init : ByteArray := prog_11_method_1_code
def yX9_init : MethodName := ⟨RX9, "<init>", "()V"⟩
abbrev cX9_crossingAt : ByteArray := prog_11_method_2_code
def yX9_crossingAt : MethodName := ⟨RX9, "crossingAt", "(LPriceIrons$State;I)I"⟩
abbrev cX9_sideAt : ByteArray := prog_11_method_3_code
def yX9_sideAt : MethodName := ⟨RX9, "sideAt", "(LPriceIrons$State;I)I"⟩
abbrev cX9_numberOfCrossings : ByteArray := prog_11_method_4_code
def yX9_numberOfCrossings : MethodName := ⟨RX9, "numberOfCrossings", "(LPriceIrons$State;)I"⟩
abbrev cX9_start : ByteArray := prog_11_method_5_code
def yX9_start : MethodName := ⟨RX9, "start", "()V"⟩
abbrev cX9_runTo : ByteArray := prog_11_method_6_code
def yX9_runTo : MethodName := ⟨RX9, "runTo", "(LPriceIrons$State;I)V"⟩
abbrev cX9_pass : ByteArray := prog_11_method_7_code
def yX9_pass : MethodName := ⟨RX9, "pass", "(LPriceIrons$State;I)V"⟩
abbrev cX9_valueAt : ByteArray := prog_11_method_8_code
def yX9_valueAt : MethodName := ⟨RX9, "valueAt", "(LPriceIrons$State;I)J"⟩
def RX10 : String := "PriceIrons$Works"
def TX10 : u_T := fun k => match k with
  | 0 => ("PriceIrons$Works", "letter", "I", false)
  | 1 => ("PriceIrons$Works", "numbers", "[I", true)
  | _ => ("PriceIrons$Works", "count", "I", false)
def tyX10 : Nat → FieldType := fun k => match k with
  | 0 => .int
  | 1 => .array .int
  | _ => .int
abbrev wsX100 : List Cond := u_ws RX10 TX10 3
theorem nmX10 : ∀ a, a < 3 → ∀ b, b < 3 → a ≠ b → (TX10 a).2.1 ≠ (TX10 b).2.1 := by decide +kernel
theorem tyX10_ok : ∀ k, k < 3 → parseFieldDescriptor (TX10 k).2.2.1 = some (tyX10 k) := by decide +kernel
abbrev cX10_init : ByteArray := prog_12_method_1_code
def yX10_init : MethodName := ⟨RX10, "<init>", "()V"⟩
def RX11 : String := "PriceIrons"
def TX11 : u_T := fun k => match k with
  | 0 => ("PriceIrons", "now", "LPriceIrons$State;", true)
  | 1 => ("PriceIrons", "trial", "LPriceIrons$State;", true)
  | 2 => ("PriceIrons", "snapshot", "LPriceIrons$State;", true)
  | 3 => ("PriceIrons", "snapshotTaken", "Z", false)
  | 4 => ("PriceIrons", "history", "LPriceIrons$History;", true)
  | 5 => ("PriceIrons", "text", "LPriceIrons$Text;", true)
  | 6 => ("PriceIrons", "works", "LPriceIrons$Works;", true)
  | 7 => ("PriceIrons", "highs", "LPriceIrons$Highs;", true)
  | _ => ("PriceIrons", "trade", "LPriceIrons$Trade;", true)
def tyX11 : Nat → FieldType := fun k => match k with
  | 0 => .object "PriceIrons$State"
  | 1 => .object "PriceIrons$State"
  | 2 => .object "PriceIrons$State"
  | 3 => .boolean
  | 4 => .object "PriceIrons$History"
  | 5 => .object "PriceIrons$Text"
  | 6 => .object "PriceIrons$Works"
  | 7 => .object "PriceIrons$Highs"
  | _ => .object "PriceIrons$Trade"
abbrev wsX110 : List Cond := u_ws RX11 TX11 9
theorem nmX11 : ∀ a, a < 9 → ∀ b, b < 9 → a ≠ b → (TX11 a).2.1 ≠ (TX11 b).2.1 := by decide +kernel
theorem tyX11_ok : ∀ k, k < 9 → parseFieldDescriptor (TX11 k).2.2.1 = some (tyX11 k) := by decide +kernel
abbrev cX11_init : ByteArray := prog_1_method_1_code
def yX11_init : MethodName := ⟨RX11, "<init>", "()V"⟩
abbrev cX11_addPrice : ByteArray := prog_1_method_2_code
def yX11_addPrice : MethodName := ⟨RX11, "addPrice", "(I)I"⟩
abbrev cX11_setPrice : ByteArray := prog_1_method_3_code
def yX11_setPrice : MethodName := ⟨RX11, "setPrice", "(II)I"⟩
abbrev cX11_dropOldest : ByteArray := prog_1_method_4_code
def yX11_dropOldest : MethodName := ⟨RX11, "dropOldest", "(I)I"⟩
abbrev cX11_press : ByteArray := prog_1_method_5_code
def yX11_press : MethodName := ⟨RX11, "press", "(I)I"⟩
abbrev cX11_pressAll : ByteArray := prog_1_method_6_code
def yX11_pressAll : MethodName := ⟨RX11, "pressAll", "()I"⟩
abbrev cX11_setWindows : ByteArray := prog_1_method_7_code
def yX11_setWindows : MethodName := ⟨RX11, "setWindows", "(II)I"⟩
abbrev cX11_setMemory : ByteArray := prog_1_method_8_code
def yX11_setMemory : MethodName := ⟨RX11, "setMemory", "(I)I"⟩
abbrev cX11_setLimit : ByteArray := prog_1_method_9_code
def yX11_setLimit : MethodName := ⟨RX11, "setLimit", "(I)I"⟩
abbrev cX11_setSeason : ByteArray := prog_1_method_10_code
def yX11_setSeason : MethodName := ⟨RX11, "setSeason", "(I)I"⟩
abbrev cX11_hasStopped : ByteArray := prog_1_method_15_code
def yX11_hasStopped : MethodName := ⟨RX11, "hasStopped", "()Z"⟩
abbrev cX11_stoppedPart : ByteArray := prog_1_method_16_code
def yX11_stoppedPart : MethodName := ⟨RX11, "stoppedPart", "()I"⟩
abbrev cX11_whyStopped : ByteArray := prog_1_method_17_code
def yX11_whyStopped : MethodName := ⟨RX11, "whyStopped", "()I"⟩
abbrev cX11_undo : ByteArray := prog_1_method_18_code
def yX11_undo : MethodName := ⟨RX11, "undo", "()I"⟩
abbrev cX11_savedStates : ByteArray := prog_1_method_21_code
def yX11_savedStates : MethodName := ⟨RX11, "savedStates", "()I"⟩
abbrev cX11_days : ByteArray := prog_1_method_22_code
def yX11_days : MethodName := ⟨RX11, "days", "()I"⟩
abbrev cX11_priceOf : ByteArray := prog_1_method_23_code
def yX11_priceOf : MethodName := ⟨RX11, "priceOf", "(I)I"⟩
abbrev cX11_shortWindow : ByteArray := prog_1_method_24_code
def yX11_shortWindow : MethodName := ⟨RX11, "shortWindow", "()I"⟩
abbrev cX11_longWindow : ByteArray := prog_1_method_25_code
def yX11_longWindow : MethodName := ⟨RX11, "longWindow", "()I"⟩
abbrev cX11_mean : ByteArray := prog_1_method_26_code
def yX11_mean : MethodName := ⟨RX11, "mean", "(II)I"⟩
abbrev cX11_meanBySums : ByteArray := prog_1_method_27_code
def yX11_meanBySums : MethodName := ⟨RX11, "meanBySums", "(II)I"⟩
abbrev cX11_smoothed : ByteArray := prog_1_method_29_code
def yX11_smoothed : MethodName := ⟨RX11, "smoothed", "(I)I"⟩
abbrev cX11_smoothedBack : ByteArray := prog_1_method_30_code
def yX11_smoothedBack : MethodName := ⟨RX11, "smoothedBack", "(I)I"⟩
abbrev cX11_median : ByteArray := prog_1_method_31_code
def yX11_median : MethodName := ⟨RX11, "median", "(I)I"⟩
abbrev cX11_isCrease : ByteArray := prog_1_method_32_code
def yX11_isCrease : MethodName := ⟨RX11, "isCrease", "(I)Z"⟩
abbrev cX11_creases : ByteArray := prog_1_method_33_code
def yX11_creases : MethodName := ⟨RX11, "creases", "()I"⟩
abbrev cX11_high : ByteArray := prog_1_method_34_code
def yX11_high : MethodName := ⟨RX11, "high", "(I)I"⟩
abbrev cX11_highByCandidates : ByteArray := prog_1_method_35_code
def yX11_highByCandidates : MethodName := ⟨RX11, "highByCandidates", "(I)I"⟩
abbrev cX11_crossing : ByteArray := prog_1_method_36_code
def yX11_crossing : MethodName := ⟨RX11, "crossing", "(I)I"⟩
abbrev cX11_crossings : ByteArray := prog_1_method_37_code
def yX11_crossings : MethodName := ⟨RX11, "crossings", "()I"⟩
abbrev cX11_pieces : ByteArray := prog_1_method_38_code
def yX11_pieces : MethodName := ⟨RX11, "pieces", "(I)I"⟩
abbrev cX11_worth : ByteArray := prog_1_method_39_code
def yX11_worth : MethodName := ⟨RX11, "worth", "(I)J"⟩
abbrev cX11_greatestFall : ByteArray := prog_1_method_40_code
def yX11_greatestFall : MethodName := ⟨RX11, "greatestFall", "()I"⟩
abbrev cX11_greatestFallByPairs : ByteArray := prog_1_method_41_code
def yX11_greatestFallByPairs : MethodName := ⟨RX11, "greatestFallByPairs", "()I"⟩
abbrev cX11_longestRise : ByteArray := prog_1_method_42_code
def yX11_longestRise : MethodName := ⟨RX11, "longestRise", "()I"⟩
abbrev cX11_season : ByteArray := prog_1_method_43_code
def yX11_season : MethodName := ⟨RX11, "season", "()I"⟩
abbrev cX11_error : ByteArray := prog_1_method_47_code
def yX11_error : MethodName := ⟨RX11, "error", "(I)I"⟩
abbrev cX11_bestMethod : ByteArray := prog_1_method_48_code
def yX11_bestMethod : MethodName := ⟨RX11, "bestMethod", "()I"⟩
abbrev cX11_smoothShare : ByteArray := prog_1_method_50_code
def yX11_smoothShare : MethodName := ⟨RX11, "smoothShare", "()D"⟩
abbrev cX11_divided : ByteArray := prog_1_method_61_code
def yX11_divided : MethodName := ⟨RX11, "divided", "(JJ)J"⟩
abbrev cX11_requireRange : ByteArray := prog_1_method_62_code
def yX11_requireRange : MethodName := ⟨RX11, "requireRange", "(III)V"⟩
abbrev cX11_requireDay : ByteArray := prog_1_method_63_code
def yX11_requireDay : MethodName := ⟨RX11, "requireDay", "(I)V"⟩
abbrev cX11_requirePrices : ByteArray := prog_1_method_64_code
def yX11_requirePrices : MethodName := ⟨RX11, "requirePrices", "(I)V"⟩
abbrev cX11_requireStop : ByteArray := prog_1_method_65_code
def yX11_requireStop : MethodName := ⟨RX11, "requireStop", "()V"⟩
def RX12 : String := "PriceIronsModel"
def TX12 : u_T := fun k => match k with
  | _ => ("", "", "", false)
def tyX12 : Nat → FieldType := fun k => match k with
  | _ => .int
abbrev wsX120 : List Cond := u_ws RX12 TX12 0
theorem nmX12 : ∀ a, a < 0 → ∀ b, b < 0 → a ≠ b → (TX12 a).2.1 ≠ (TX12 b).2.1 := by decide +kernel
theorem tyX12_ok : ∀ k, k < 0 → parseFieldDescriptor (TX12 k).2.2.1 = some (tyX12 k) := by decide +kernel
def RJ9 : String := "java/lang/Math"
def TJ9 : u_T := fun k => match k with
  | _ => ("", "", "", false)
def tyJ9 : Nat → FieldType := fun k => match k with
  | _ => .int
abbrev wsJ90 : List Cond := u_ws RJ9 TJ9 0
theorem nmJ9 : ∀ a, a < 0 → ∀ b, b < 0 → a ≠ b → (TJ9 a).2.1 ≠ (TJ9 b).2.1 := by decide +kernel
theorem tyJ9_ok : ∀ k, k < 0 → parseFieldDescriptor (TJ9 k).2.2.1 = some (tyJ9 k) := by decide +kernel
abbrev cJ9_abs_0f7a4 : ByteArray := prog_19_method_59_code
def yJ9_abs_0f7a4 : MethodName := ⟨RJ9, "abs", "(I)I"⟩
abbrev cJ9_max_7cf53 : ByteArray := prog_19_method_65_code
def yJ9_max_7cf53 : MethodName := ⟨RJ9, "max", "(II)I"⟩
abbrev cJ9_min_f86c9 : ByteArray := prog_19_method_70_code
def yJ9_min_f86c9 : MethodName := ⟨RJ9, "min", "(JJ)J"⟩
def RJ0 : String := "java/lang/String"
def TJ0 : u_T := fun k => match k with
  | _ => ("", "", "", false)
def tyJ0 : Nat → FieldType := fun k => match k with
  | _ => .int
abbrev wsJ00 : List Cond := u_ws RJ0 TJ0 0
theorem nmJ0 : ∀ a, a < 0 → ∀ b, b < 0 → a ≠ b → (TJ0 a).2.1 ≠ (TJ0 b).2.1 := by decide +kernel
theorem tyJ0_ok : ∀ k, k < 0 → parseFieldDescriptor (TJ0 k).2.2.1 = some (tyJ0 k) := by decide +kernel
def RJ10 : String := "java/lang/System"
def TJ10 : u_T := fun k => match k with
  | _ => ("", "", "", false)
def tyJ10 : Nat → FieldType := fun k => match k with
  | _ => .int
abbrev wsJ100 : List Cond := u_ws RJ10 TJ10 0
theorem nmJ10 : ∀ a, a < 0 → ∀ b, b < 0 → a ≠ b → (TJ10 a).2.1 ≠ (TJ10 b).2.1 := by decide +kernel
theorem tyJ10_ok : ∀ k, k < 0 → parseFieldDescriptor (TJ10 k).2.2.1 = some (tyJ10 k) := by decide +kernel
def RL : String := "PriceIronsLaw"
abbrev cL_cell : ByteArray := method_2_code
def yL_cell : MethodName := ⟨RL, "cell", "([II)I"⟩
abbrev cL_low : ByteArray := method_3_code
def yL_low : MethodName := ⟨RL, "low", "(II)I"⟩
abbrev cL_told : ByteArray := method_4_code
def yL_told : MethodName := ⟨RL, "told", "(LPriceIrons;)J"⟩
abbrev cL_price : ByteArray := method_5_code
def yL_price : MethodName := ⟨RL, "price", "(I)I"⟩
abbrev cL_act : ByteArray := method_6_code
def yL_act : MethodName := ⟨RL, "act", "(LPriceIrons;II)Z"⟩
abbrev cL_holds : ByteArray := method_7_code
def yL_holds : MethodName := ⟨RL, "holds", "(LPriceIrons;I)Z"⟩
abbrev cL_law : ByteArray := code
def yL_law : MethodName := ⟨RL, "law", "([I)Z"⟩
abbrev vwCl : List vw_C := [(RX2, TX2, 3), (RX3, TX3, 3), (RX6, TX6, 10), (RX7, TX7, 4), (RX8, TX8, 3), (RX9, TX9, 2), (RX10, TX10, 3), (RX11, TX11, 9)]
