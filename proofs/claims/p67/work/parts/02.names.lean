def RX0 : String := "TeaHouse$1"
def TX0 : u_T := fun k => match k with
  | _ => ("", "", "", false)
def tyX0 : Nat → FieldType := fun k => match k with
  | _ => .int
abbrev wsX00 : List Cond := u_ws RX0 TX0 0
theorem nmX0 : ∀ a, a < 0 → ∀ b, b < 0 → a ≠ b → (TX0 a).2.1 ≠ (TX0 b).2.1 := by decide +kernel
theorem tyX0_ok : ∀ k, k < 0 → parseFieldDescriptor (TX0 k).2.2.1 = some (tyX0 k) := by decide +kernel
def RX1 : String := "TeaHouse$House"
def TX1 : u_T := fun k => match k with
  | 0 => ("TeaHouse$House", "kettles", "LTeaHouse$Kettles;", true)
  | 1 => ("TeaHouse$House", "orders", "LTeaHouse$Orders;", true)
  | 2 => ("TeaHouse$House", "ledger", "LTeaHouse$Ledger;", true)
  | 3 => ("TeaHouse$House", "cleanCups", "I", false)
  | 4 => ("TeaHouse$House", "steam", "I", false)
  | 5 => ("TeaHouse$House", "boiled", "I", false)
  | 6 => ("TeaHouse$House", "poured", "I", false)
  | 7 => ("TeaHouse$House", "filled", "I", false)
  | 8 => ("TeaHouse$House", "cupPrice", "I", false)
  | 9 => ("TeaHouse$House", "steamPrice", "I", false)
  | 10 => ("TeaHouse$House", "isAttended", "Z", false)
  | 11 => ("TeaHouse$House", "served", "I", false)
  | 12 => ("TeaHouse$House", "heard", "I", false)
  | _ => ("TeaHouse$House", "lost", "I", false)
def tyX1 : Nat → FieldType := fun k => match k with
  | 0 => .object "TeaHouse$Kettles"
  | 1 => .object "TeaHouse$Orders"
  | 2 => .object "TeaHouse$Ledger"
  | 3 => .int
  | 4 => .int
  | 5 => .int
  | 6 => .int
  | 7 => .int
  | 8 => .int
  | 9 => .int
  | 10 => .boolean
  | 11 => .int
  | 12 => .int
  | _ => .int
abbrev wsX10 : List Cond := u_ws RX1 TX1 14
theorem nmX1 : ∀ a, a < 14 → ∀ b, b < 14 → a ≠ b → (TX1 a).2.1 ≠ (TX1 b).2.1 := by decide +kernel
theorem tyX1_ok : ∀ k, k < 14 → parseFieldDescriptor (TX1 k).2.2.1 = some (tyX1 k) := by decide +kernel
abbrev cX1_init : ByteArray := prog_3_method_1_code
def yX1_init : MethodName := ⟨RX1, "<init>", "()V"⟩
abbrev cX1_copyFrom : ByteArray := prog_3_method_2_code
def yX1_copyFrom : MethodName := ⟨RX1, "copyFrom", "(LTeaHouse$House;)V"⟩
abbrev cX1_refusal : ByteArray := prog_3_method_3_code
def yX1_refusal : MethodName := ⟨RX1, "refusal", "(LTeaHouse$Verb;IIII)LTeaHouse$Refusal;"⟩
abbrev cX1_perform : ByteArray := prog_3_method_4_code
def yX1_perform : MethodName := ⟨RX1, "perform", "(LTeaHouse$Verb;IIII)I"⟩
abbrev cX1_unless : ByteArray := prog_3_method_5_code
def yX1_unless : MethodName := ⟨RX1, "unless", "(ZZ)LTeaHouse$Refusal;"⟩
abbrev cX1_refusalToFill : ByteArray := prog_3_method_6_code
def yX1_refusalToFill : MethodName := ⟨RX1, "refusalToFill", "(II)LTeaHouse$Refusal;"⟩
abbrev cX1_kettleForFirst : ByteArray := prog_3_method_7_code
def yX1_kettleForFirst : MethodName := ⟨RX1, "kettleForFirst", "()I"⟩
abbrev cX1_firstCanBeServed : ByteArray := prog_3_method_8_code
def yX1_firstCanBeServed : MethodName := ⟨RX1, "firstCanBeServed", "()Z"⟩
abbrev cX1_serveFirst : ByteArray := prog_3_method_9_code
def yX1_serveFirst : MethodName := ⟨RX1, "serveFirst", "()I"⟩
abbrev cX1_sell : ByteArray := prog_3_method_10_code
def yX1_sell : MethodName := ⟨RX1, "sell", "(I)I"⟩
abbrev cX1_passMinutes : ByteArray := prog_3_method_11_code
def yX1_passMinutes : MethodName := ⟨RX1, "passMinutes", "(I)I"⟩
abbrev cX1_exchangeCupPrice : ByteArray := prog_3_method_12_code
def yX1_exchangeCupPrice : MethodName := ⟨RX1, "exchangeCupPrice", "(I)I"⟩
abbrev cX1_exchangeSteamPrice : ByteArray := prog_3_method_13_code
def yX1_exchangeSteamPrice : MethodName := ⟨RX1, "exchangeSteamPrice", "(I)I"⟩
abbrev cX1_exchangeAttendant : ByteArray := prog_3_method_14_code
def yX1_exchangeAttendant : MethodName := ⟨RX1, "exchangeAttendant", "(Z)I"⟩
def RX2 : String := "TeaHouse$Input"
def TX2 : u_T := fun k => match k with
  | 0 => ("TeaHouse$Input", "text", "[C", true)
  | 1 => ("TeaHouse$Input", "verbs", "[I", true)
  | 2 => ("TeaHouse$Input", "arguments", "[I", true)
  | 3 => ("TeaHouse$Input", "length", "I", false)
  | 4 => ("TeaHouse$Input", "commandCount", "I", false)
  | _ => ("TeaHouse$Input", "cursor", "I", false)
def tyX2 : Nat → FieldType := fun k => match k with
  | 0 => .array .char
  | 1 => .array .int
  | 2 => .array .int
  | 3 => .int
  | 4 => .int
  | _ => .int
abbrev wsX20 : List Cond := u_ws RX2 TX2 6
theorem nmX2 : ∀ a, a < 6 → ∀ b, b < 6 → a ≠ b → (TX2 a).2.1 ≠ (TX2 b).2.1 := by decide +kernel
theorem tyX2_ok : ∀ k, k < 6 → parseFieldDescriptor (TX2 k).2.2.1 = some (tyX2 k) := by decide +kernel
abbrev cX2_init : ByteArray := prog_4_method_1_code
def yX2_init : MethodName := ⟨RX2, "<init>", "()V"⟩
def RX3 : String := "TeaHouse$Kettles"
def TX3 : u_T := fun k => match k with
  | 0 => ("TeaHouse$Kettles", "capacities", "[I", true)
  | 1 => ("TeaHouse$Kettles", "volumes", "[I", true)
  | 2 => ("TeaHouse$Kettles", "temperatures", "[I", true)
  | 3 => ("TeaHouse$Kettles", "levels", "[I", true)
  | 4 => ("TeaHouse$Kettles", "boiled", "[Z", true)
  | _ => ("TeaHouse$Kettles", "count", "I", false)
def tyX3 : Nat → FieldType := fun k => match k with
  | 0 => .array .int
  | 1 => .array .int
  | 2 => .array .int
  | 3 => .array .int
  | 4 => .array .boolean
  | _ => .int
abbrev wsX30 : List Cond := u_ws RX3 TX3 6
theorem nmX3 : ∀ a, a < 6 → ∀ b, b < 6 → a ≠ b → (TX3 a).2.1 ≠ (TX3 b).2.1 := by decide +kernel
theorem tyX3_ok : ∀ k, k < 6 → parseFieldDescriptor (TX3 k).2.2.1 = some (tyX3 k) := by decide +kernel
abbrev cX3_init : ByteArray := prog_5_method_1_code
def yX3_init : MethodName := ⟨RX3, "<init>", "()V"⟩
abbrev cX3_copyFrom : ByteArray := prog_5_method_2_code
def yX3_copyFrom : MethodName := ⟨RX3, "copyFrom", "(LTeaHouse$Kettles;)V"⟩
abbrev cX3_has : ByteArray := prog_5_method_3_code
def yX3_has : MethodName := ⟨RX3, "has", "(I)Z"⟩
abbrev cX3_add : ByteArray := prog_5_method_4_code
def yX3_add : MethodName := ⟨RX3, "add", "(I)I"⟩
abbrev cX3_pourIn : ByteArray := prog_5_method_5_code
def yX3_pourIn : MethodName := ⟨RX3, "pourIn", "(II)I"⟩
abbrev cX3_turnBurner : ByteArray := prog_5_method_6_code
def yX3_turnBurner : MethodName := ⟨RX3, "turnBurner", "(II)I"⟩
abbrev cX3_passMinute : ByteArray := prog_5_method_7_code
def yX3_passMinute : MethodName := ⟨RX3, "passMinute", "(I)I"⟩
abbrev cX3_heated : ByteArray := prog_5_method_8_code
def yX3_heated : MethodName := ⟨RX3, "heated", "(I)I"⟩
abbrev cX3_rise : ByteArray := prog_5_method_9_code
def yX3_rise : MethodName := ⟨RX3, "rise", "(I)I"⟩
abbrev cX3_heatingTime : ByteArray := prog_5_method_10_code
def yX3_heatingTime : MethodName := ⟨RX3, "heatingTime", "(I)I"⟩
abbrev cX3_suitable : ByteArray := prog_5_method_11_code
def yX3_suitable : MethodName := ⟨RX3, "suitable", "(II)I"⟩
abbrev cX3_ranked : ByteArray := prog_5_method_12_code
def yX3_ranked : MethodName := ⟨RX3, "ranked", "(I)I"⟩
abbrev cX3_rankOf : ByteArray := prog_5_method_13_code
def yX3_rankOf : MethodName := ⟨RX3, "rankOf", "(I)I"⟩
abbrev cX3_isAhead : ByteArray := prog_5_method_14_code
def yX3_isAhead : MethodName := ⟨RX3, "isAhead", "(II)Z"⟩
abbrev cX3_isRankedOnceEach : ByteArray := prog_5_method_15_code
def yX3_isRankedOnceEach : MethodName := ⟨RX3, "isRankedOnceEach", "()Z"⟩
abbrev cX3_totalVolume : ByteArray := prog_5_method_16_code
def yX3_totalVolume : MethodName := ⟨RX3, "totalVolume", "()I"⟩
abbrev cX3_describe : ByteArray := prog_5_method_17_code
def yX3_describe : MethodName := ⟨RX3, "describe", "(ILjava/lang/StringBuilder;)V"⟩
def RX4 : String := "TeaHouse$Ledger"
def TX4 : u_T := fun k => match k with
  | 0 => ("TeaHouse$Ledger", "incomes", "[I", true)
  | 1 => ("TeaHouse$Ledger", "sums", "[I", true)
  | 2 => ("TeaHouse$Ledger", "count", "I", false)
  | 3 => ("TeaHouse$Ledger", "present", "I", false)
  | 4 => ("TeaHouse$Ledger", "fromCups", "I", false)
  | _ => ("TeaHouse$Ledger", "fromSteam", "I", false)
def tyX4 : Nat → FieldType := fun k => match k with
  | 0 => .array .int
  | 1 => .array .int
  | 2 => .int
  | 3 => .int
  | 4 => .int
  | _ => .int
abbrev wsX40 : List Cond := u_ws RX4 TX4 6
theorem nmX4 : ∀ a, a < 6 → ∀ b, b < 6 → a ≠ b → (TX4 a).2.1 ≠ (TX4 b).2.1 := by decide +kernel
theorem tyX4_ok : ∀ k, k < 6 → parseFieldDescriptor (TX4 k).2.2.1 = some (tyX4 k) := by decide +kernel
abbrev cX4_init : ByteArray := prog_6_method_1_code
def yX4_init : MethodName := ⟨RX4, "<init>", "()V"⟩
abbrev cX4_copyFrom : ByteArray := prog_6_method_2_code
def yX4_copyFrom : MethodName := ⟨RX4, "copyFrom", "(LTeaHouse$Ledger;)V"⟩
abbrev cX4_enterCups : ByteArray := prog_6_method_3_code
def yX4_enterCups : MethodName := ⟨RX4, "enterCups", "(I)V"⟩
abbrev cX4_enterSteam : ByteArray := prog_6_method_4_code
def yX4_enterSteam : MethodName := ⟨RX4, "enterSteam", "(I)V"⟩
abbrev cX4_enterNight : ByteArray := prog_6_method_5_code
def yX4_enterNight : MethodName := ⟨RX4, "enterNight", "()I"⟩
abbrev cX4_ranked : ByteArray := prog_6_method_6_code
def yX4_ranked : MethodName := ⟨RX4, "ranked", "(I)I"⟩
abbrev cX4_rankOf : ByteArray := prog_6_method_7_code
def yX4_rankOf : MethodName := ⟨RX4, "rankOf", "(I)I"⟩
abbrev cX4_greatestByAdding : ByteArray := prog_6_method_8_code
def yX4_greatestByAdding : MethodName := ⟨RX4, "greatestByAdding", "(I)I"⟩
abbrev cX4_greatestByDifferences : ByteArray := prog_6_method_9_code
def yX4_greatestByDifferences : MethodName := ⟨RX4, "greatestByDifferences", "(I)I"⟩
abbrev cX4_totalOfNights : ByteArray := prog_6_method_10_code
def yX4_totalOfNights : MethodName := ⟨RX4, "totalOfNights", "()I"⟩
abbrev cX4_totalOfSales : ByteArray := prog_6_method_11_code
def yX4_totalOfSales : MethodName := ⟨RX4, "totalOfSales", "()I"⟩
abbrev cX4_isConsistent : ByteArray := prog_6_method_12_code
def yX4_isConsistent : MethodName := ⟨RX4, "isConsistent", "()Z"⟩
abbrev cX4_describe : ByteArray := prog_6_method_13_code
def yX4_describe : MethodName := ⟨RX4, "describe", "(Ljava/lang/StringBuilder;)V"⟩
def RX5 : String := "TeaHouse$Orders"
def TX5 : u_T := fun k => match k with
  | 0 => ("TeaHouse$Orders", "numbers", "[I", true)
  | 1 => ("TeaHouse$Orders", "tables", "[I", true)
  | 2 => ("TeaHouse$Orders", "cups", "[I", true)
  | 3 => ("TeaHouse$Orders", "minima", "[I", true)
  | 4 => ("TeaHouse$Orders", "priorities", "[I", true)
  | 5 => ("TeaHouse$Orders", "count", "I", false)
  | _ => ("TeaHouse$Orders", "nextNumber", "I", false)
def tyX5 : Nat → FieldType := fun k => match k with
  | 0 => .array .int
  | 1 => .array .int
  | 2 => .array .int
  | 3 => .array .int
  | 4 => .array .int
  | 5 => .int
  | _ => .int
abbrev wsX50 : List Cond := u_ws RX5 TX5 7
theorem nmX5 : ∀ a, a < 7 → ∀ b, b < 7 → a ≠ b → (TX5 a).2.1 ≠ (TX5 b).2.1 := by decide +kernel
theorem tyX5_ok : ∀ k, k < 7 → parseFieldDescriptor (TX5 k).2.2.1 = some (tyX5 k) := by decide +kernel
abbrev cX5_init : ByteArray := prog_7_method_1_code
def yX5_init : MethodName := ⟨RX5, "<init>", "()V"⟩
abbrev cX5_copyFrom : ByteArray := prog_7_method_2_code
def yX5_copyFrom : MethodName := ⟨RX5, "copyFrom", "(LTeaHouse$Orders;)V"⟩
abbrev cX5_copyOrder : ByteArray := prog_7_method_3_code
def yX5_copyOrder : MethodName := ⟨RX5, "copyOrder", "(LTeaHouse$Orders;II)V"⟩
abbrev cX5_add : ByteArray := prog_7_method_4_code
def yX5_add : MethodName := ⟨RX5, "add", "(IIII)I"⟩
abbrev cX5_remove : ByteArray := prog_7_method_5_code
def yX5_remove : MethodName := ⟨RX5, "remove", "(I)V"⟩
abbrev cX5_find : ByteArray := prog_7_method_6_code
def yX5_find : MethodName := ⟨RX5, "find", "(I)I"⟩
abbrev cX5_numberAt : ByteArray := prog_7_method_7_code
def yX5_numberAt : MethodName := ⟨RX5, "numberAt", "(I)I"⟩
abbrev cX5_isConsistent : ByteArray := prog_7_method_8_code
def yX5_isConsistent : MethodName := ⟨RX5, "isConsistent", "()Z"⟩
abbrev cX5_describe : ByteArray := prog_7_method_9_code
def yX5_describe : MethodName := ⟨RX5, "describe", "(ILjava/lang/StringBuilder;)V"⟩
def RX6 : String := "TeaHouse$Refusal"
def TX6 : u_T := fun k => match k with
  | _ => ("", "", "", false)
def tyX6 : Nat → FieldType := fun k => match k with
  | _ => .int
abbrev wsX60 : List Cond := u_ws RX6 TX6 0
theorem nmX6 : ∀ a, a < 0 → ∀ b, b < 0 → a ≠ b → (TX6 a).2.1 ≠ (TX6 b).2.1 := by decide +kernel
theorem tyX6_ok : ∀ k, k < 0 → parseFieldDescriptor (TX6 k).2.2.1 = some (tyX6 k) := by decide +kernel
def RX7 : String := "TeaHouse$Verb"
def TX7 : u_T := fun k => match k with
  | _ => ("", "", "", false)
def tyX7 : Nat → FieldType := fun k => match k with
  | _ => .int
abbrev wsX70 : List Cond := u_ws RX7 TX7 0
theorem nmX7 : ∀ a, a < 0 → ∀ b, b < 0 → a ≠ b → (TX7 a).2.1 ≠ (TX7 b).2.1 := by decide +kernel
theorem tyX7_ok : ∀ k, k < 0 → parseFieldDescriptor (TX7 k).2.2.1 = some (tyX7 k) := by decide +kernel
def RX8 : String := "TeaHouse"
def TX8 : u_T := fun k => match k with
  | 0 => ("TeaHouse", "now", "LTeaHouse$House;", true)
  | 1 => ("TeaHouse", "trial", "LTeaHouse$House;", true)
  | 2 => ("TeaHouse", "saved", "LTeaHouse$House;", true)
  | 3 => ("TeaHouse", "past", "[LTeaHouse$House;", true)
  | 4 => ("TeaHouse", "kettleCopy", "LTeaHouse$Kettles;", true)
  | 5 => ("TeaHouse", "input", "LTeaHouse$Input;", true)
  | 6 => ("TeaHouse", "line", "Ljava/lang/StringBuilder;", true)
  | 7 => ("TeaHouse", "hasSaved", "Z", false)
  | 8 => ("TeaHouse", "pastCount", "I", false)
  | 9 => ("TeaHouse", "nextPast", "I", false)
  | 10 => ("TeaHouse", "malformedAt", "I", false)
  | _ => ("TeaHouse", "failedAt", "I", false)
def tyX8 : Nat → FieldType := fun k => match k with
  | 0 => .object "TeaHouse$House"
  | 1 => .object "TeaHouse$House"
  | 2 => .object "TeaHouse$House"
  | 3 => .array (.object "TeaHouse$House")
  | 4 => .object "TeaHouse$Kettles"
  | 5 => .object "TeaHouse$Input"
  | 6 => .object "java/lang/StringBuilder"
  | 7 => .boolean
  | 8 => .int
  | 9 => .int
  | 10 => .int
  | _ => .int
abbrev wsX80 : List Cond := u_ws RX8 TX8 12
theorem nmX8 : ∀ a, a < 12 → ∀ b, b < 12 → a ≠ b → (TX8 a).2.1 ≠ (TX8 b).2.1 := by decide +kernel
theorem tyX8_ok : ∀ k, k < 12 → parseFieldDescriptor (TX8 k).2.2.1 = some (tyX8 k) := by decide +kernel
abbrev cX8_init : ByteArray := prog_1_method_1_code
def yX8_init : MethodName := ⟨RX8, "<init>", "()V"⟩
abbrev cX8_addKettle : ByteArray := prog_1_method_2_code
def yX8_addKettle : MethodName := ⟨RX8, "addKettle", "(I)I"⟩
abbrev cX8_fill : ByteArray := prog_1_method_3_code
def yX8_fill : MethodName := ⟨RX8, "fill", "(II)F"⟩
abbrev cX8_setBurner : ByteArray := prog_1_method_4_code
def yX8_setBurner : MethodName := ⟨RX8, "setBurner", "(II)I"⟩
abbrev cX8_order : ByteArray := prog_1_method_5_code
def yX8_order : MethodName := ⟨RX8, "order", "(IIII)I"⟩
abbrev cX8_cancel : ByteArray := prog_1_method_6_code
def yX8_cancel : MethodName := ⟨RX8, "cancel", "(I)I"⟩
abbrev cX8_serveNext : ByteArray := prog_1_method_7_code
def yX8_serveNext : MethodName := ⟨RX8, "serveNext", "()I"⟩
abbrev cX8_wash : ByteArray := prog_1_method_8_code
def yX8_wash : MethodName := ⟨RX8, "wash", "(I)I"⟩
abbrev cX8_sellSteam : ByteArray := prog_1_method_9_code
def yX8_sellSteam : MethodName := ⟨RX8, "sellSteam", "(I)F"⟩
abbrev cX8_setCupPrice : ByteArray := prog_1_method_10_code
def yX8_setCupPrice : MethodName := ⟨RX8, "setCupPrice", "(I)F"⟩
abbrev cX8_setSteamPrice : ByteArray := prog_1_method_11_code
def yX8_setSteamPrice : MethodName := ⟨RX8, "setSteamPrice", "(I)F"⟩
abbrev cX8_setAttendant : ByteArray := prog_1_method_12_code
def yX8_setAttendant : MethodName := ⟨RX8, "setAttendant", "(Z)Z"⟩
abbrev cX8_pass : ByteArray := prog_1_method_13_code
def yX8_pass : MethodName := ⟨RX8, "pass", "(I)I"⟩
abbrev cX8_closeNight : ByteArray := prog_1_method_14_code
def yX8_closeNight : MethodName := ⟨RX8, "closeNight", "()F"⟩
abbrev cX8_kettleCount : ByteArray := prog_1_method_15_code
def yX8_kettleCount : MethodName := ⟨RX8, "kettleCount", "()I"⟩
abbrev cX8_capacity : ByteArray := prog_1_method_16_code
def yX8_capacity : MethodName := ⟨RX8, "capacity", "(I)F"⟩
abbrev cX8_volume : ByteArray := prog_1_method_17_code
def yX8_volume : MethodName := ⟨RX8, "volume", "(I)F"⟩
abbrev cX8_temperature : ByteArray := prog_1_method_18_code
def yX8_temperature : MethodName := ⟨RX8, "temperature", "(I)F"⟩
abbrev cX8_temperatureBits : ByteArray := prog_1_method_19_code
def yX8_temperatureBits : MethodName := ⟨RX8, "temperatureBits", "(I)I"⟩
abbrev cX8_burner : ByteArray := prog_1_method_20_code
def yX8_burner : MethodName := ⟨RX8, "burner", "(I)I"⟩
abbrev cX8_isBoiling : ByteArray := prog_1_method_21_code
def yX8_isBoiling : MethodName := ⟨RX8, "isBoiling", "(I)Z"⟩
abbrev cX8_minutesUntilBoiling : ByteArray := prog_1_method_22_code
def yX8_minutesUntilBoiling : MethodName := ⟨RX8, "minutesUntilBoiling", "(I)I"⟩
abbrev cX8_minutesUntilBoilingByMinutes : ByteArray := prog_1_method_23_code
def yX8_minutesUntilBoilingByMinutes : MethodName := ⟨RX8, "minutesUntilBoilingByMinutes", "(I)I"⟩
abbrev cX8_kettleByTemperature : ByteArray := prog_1_method_24_code
def yX8_kettleByTemperature : MethodName := ⟨RX8, "kettleByTemperature", "(I)I"⟩
abbrev cX8_waitingCount : ByteArray := prog_1_method_25_code
def yX8_waitingCount : MethodName := ⟨RX8, "waitingCount", "()I"⟩
abbrev cX8_orderAt : ByteArray := prog_1_method_26_code
def yX8_orderAt : MethodName := ⟨RX8, "orderAt", "(I)I"⟩
abbrev cX8_positionOf : ByteArray := prog_1_method_27_code
def yX8_positionOf : MethodName := ⟨RX8, "positionOf", "(I)I"⟩
abbrev cX8_cupsOf : ByteArray := prog_1_method_28_code
def yX8_cupsOf : MethodName := ⟨RX8, "cupsOf", "(I)I"⟩
abbrev cX8_priceOf : ByteArray := prog_1_method_29_code
def yX8_priceOf : MethodName := ⟨RX8, "priceOf", "(I)F"⟩
abbrev cX8_kettleFor : ByteArray := prog_1_method_30_code
def yX8_kettleFor : MethodName := ⟨RX8, "kettleFor", "(I)I"⟩
abbrev cX8_minutesUntilSuitable : ByteArray := prog_1_method_31_code
def yX8_minutesUntilSuitable : MethodName := ⟨RX8, "minutesUntilSuitable", "(I)I"⟩
abbrev cX8_canServe : ByteArray := prog_1_method_32_code
def yX8_canServe : MethodName := ⟨RX8, "canServe", "()Z"⟩
abbrev cX8_cleanCups : ByteArray := prog_1_method_33_code
def yX8_cleanCups : MethodName := ⟨RX8, "cleanCups", "()I"⟩
abbrev cX8_steam : ByteArray := prog_1_method_34_code
def yX8_steam : MethodName := ⟨RX8, "steam", "()F"⟩
abbrev cX8_boiledTotal : ByteArray := prog_1_method_35_code
def yX8_boiledTotal : MethodName := ⟨RX8, "boiledTotal", "()F"⟩
abbrev cX8_pouredTotal : ByteArray := prog_1_method_36_code
def yX8_pouredTotal : MethodName := ⟨RX8, "pouredTotal", "()F"⟩
abbrev cX8_filledTotal : ByteArray := prog_1_method_37_code
def yX8_filledTotal : MethodName := ⟨RX8, "filledTotal", "()F"⟩
abbrev cX8_cupPrice : ByteArray := prog_1_method_38_code
def yX8_cupPrice : MethodName := ⟨RX8, "cupPrice", "()F"⟩
abbrev cX8_income : ByteArray := prog_1_method_40_code
def yX8_income : MethodName := ⟨RX8, "income", "()F"⟩
abbrev cX8_nightCount : ByteArray := prog_1_method_41_code
def yX8_nightCount : MethodName := ⟨RX8, "nightCount", "()I"⟩
abbrev cX8_nightIncome : ByteArray := prog_1_method_42_code
def yX8_nightIncome : MethodName := ⟨RX8, "nightIncome", "(I)F"⟩
abbrev cX8_nightByIncome : ByteArray := prog_1_method_43_code
def yX8_nightByIncome : MethodName := ⟨RX8, "nightByIncome", "(I)I"⟩
abbrev cX8_greatestIncome : ByteArray := prog_1_method_44_code
def yX8_greatestIncome : MethodName := ⟨RX8, "greatestIncome", "(I)F"⟩
abbrev cX8_greatestIncomeBySums : ByteArray := prog_1_method_45_code
def yX8_greatestIncomeBySums : MethodName := ⟨RX8, "greatestIncomeBySums", "(I)F"⟩
abbrev cX8_totalIncome : ByteArray := prog_1_method_46_code
def yX8_totalIncome : MethodName := ⟨RX8, "totalIncome", "()F"⟩
abbrev cX8_totalIncomeBySales : ByteArray := prog_1_method_47_code
def yX8_totalIncomeBySales : MethodName := ⟨RX8, "totalIncomeBySales", "()F"⟩
abbrev cX8_whistlesHeard : ByteArray := prog_1_method_49_code
def yX8_whistlesHeard : MethodName := ⟨RX8, "whistlesHeard", "()I"⟩
abbrev cX8_whistlesLost : ByteArray := prog_1_method_50_code
def yX8_whistlesLost : MethodName := ⟨RX8, "whistlesLost", "()I"⟩
abbrev cX8_meanTemperature : ByteArray := prog_1_method_51_code
def yX8_meanTemperature : MethodName := ⟨RX8, "meanTemperature", "()D"⟩
abbrev cX8_lostShare : ByteArray := prog_1_method_52_code
def yX8_lostShare : MethodName := ⟨RX8, "lostShare", "()F"⟩
abbrev cX8_isBalanced : ByteArray := prog_1_method_53_code
def yX8_isBalanced : MethodName := ⟨RX8, "isBalanced", "()Z"⟩
abbrev cX8_formatKettle : ByteArray := prog_1_method_54_code
def yX8_formatKettle : MethodName := ⟨RX8, "formatKettle", "(I)I"⟩
abbrev cX8_formatOrder : ByteArray := prog_1_method_55_code
def yX8_formatOrder : MethodName := ⟨RX8, "formatOrder", "(I)I"⟩
abbrev cX8_formatLedger : ByteArray := prog_1_method_56_code
def yX8_formatLedger : MethodName := ⟨RX8, "formatLedger", "()I"⟩
abbrev cX8_lineChar : ByteArray := prog_1_method_57_code
def yX8_lineChar : MethodName := ⟨RX8, "lineChar", "(I)C"⟩
abbrev cX8_undoableCount : ByteArray := prog_1_method_62_code
def yX8_undoableCount : MethodName := ⟨RX8, "undoableCount", "()I"⟩
abbrev cX8_change : ByteArray := prog_1_method_66_code
def yX8_change : MethodName := ⟨RX8, "change", "(LTeaHouse$Verb;IIII)I"⟩
abbrev cX8_remember : ByteArray := prog_1_method_67_code
def yX8_remember : MethodName := ⟨RX8, "remember", "()V"⟩
abbrev cX8_heatingTimeOnCopy : ByteArray := prog_1_method_69_code
def yX8_heatingTimeOnCopy : MethodName := ⟨RX8, "heatingTimeOnCopy", "(I)I"⟩
abbrev cX8_waitOnCopy : ByteArray := prog_1_method_70_code
def yX8_waitOnCopy : MethodName := ⟨RX8, "waitOnCopy", "(II)I"⟩
abbrev cX8_allTemperatureBitsFit : ByteArray := prog_1_method_71_code
def yX8_allTemperatureBitsFit : MethodName := ⟨RX8, "allTemperatureBitsFit", "()Z"⟩
abbrev cX8_allHeatingTimesAgree : ByteArray := prog_1_method_72_code
def yX8_allHeatingTimesAgree : MethodName := ⟨RX8, "allHeatingTimesAgree", "()Z"⟩
abbrev cX8_requireAllowed : ByteArray := prog_1_method_73_code
def yX8_requireAllowed : MethodName := ⟨RX8, "requireAllowed", "(LTeaHouse$Refusal;)V"⟩
abbrev cX8_requireKettle : ByteArray := prog_1_method_74_code
def yX8_requireKettle : MethodName := ⟨RX8, "requireKettle", "(I)V"⟩
abbrev cX8_requireNights : ByteArray := prog_1_method_75_code
def yX8_requireNights : MethodName := ⟨RX8, "requireNights", "(I)V"⟩
abbrev cX8_requireFound : ByteArray := prog_1_method_76_code
def yX8_requireFound : MethodName := ⟨RX8, "requireFound", "(I)I"⟩
abbrev cX8_isWithin : ByteArray := prog_1_method_77_code
def yX8_isWithin : MethodName := ⟨RX8, "isWithin", "(III)Z"⟩
abbrev cX8_eighths : ByteArray := prog_1_method_78_code
def yX8_eighths : MethodName := ⟨RX8, "eighths", "(I)F"⟩
abbrev cX8_halves : ByteArray := prog_1_method_79_code
def yX8_halves : MethodName := ⟨RX8, "halves", "(I)F"⟩
abbrev cX8_bitsOfHalves : ByteArray := prog_1_method_80_code
def yX8_bitsOfHalves : MethodName := ⟨RX8, "bitsOfHalves", "(I)I"⟩
abbrev cX8_floatOfBits : ByteArray := prog_1_method_81_code
def yX8_floatOfBits : MethodName := ⟨RX8, "floatOfBits", "(I)F"⟩
def RX9 : String := "TeaHouseModel"
def TX9 : u_T := fun k => match k with
  | _ => ("", "", "", false)
def tyX9 : Nat → FieldType := fun k => match k with
  | _ => .int
abbrev wsX90 : List Cond := u_ws RX9 TX9 0
theorem nmX9 : ∀ a, a < 0 → ∀ b, b < 0 → a ≠ b → (TX9 a).2.1 ≠ (TX9 b).2.1 := by decide +kernel
theorem tyX9_ok : ∀ k, k < 0 → parseFieldDescriptor (TX9 k).2.2.1 = some (tyX9 k) := by decide +kernel
def RJx145de : String := "java/io/Serializable"
def TJx145de : u_T := fun k => match k with
  | _ => ("", "", "", false)
def tyJx145de : Nat → FieldType := fun k => match k with
  | _ => .int
abbrev wsJx145de0 : List Cond := u_ws RJx145de TJx145de 0
theorem nmJx145de : ∀ a, a < 0 → ∀ b, b < 0 → a ≠ b → (TJx145de a).2.1 ≠ (TJx145de b).2.1 := by decide +kernel
theorem tyJx145de_ok : ∀ k, k < 0 → parseFieldDescriptor (TJx145de k).2.2.1 = some (tyJx145de k) := by decide +kernel
def RJ5 : String := "java/lang/AbstractStringBuilder"
def TJ5 : u_T := fun k => match k with
  | _ => ("", "", "", false)
def tyJ5 : Nat → FieldType := fun k => match k with
  | _ => .int
abbrev wsJ50 : List Cond := u_ws RJ5 TJ5 0
theorem nmJ5 : ∀ a, a < 0 → ∀ b, b < 0 → a ≠ b → (TJ5 a).2.1 ≠ (TJ5 b).2.1 := by decide +kernel
theorem tyJ5_ok : ∀ k, k < 0 → parseFieldDescriptor (TJ5 k).2.2.1 = some (tyJ5 k) := by decide +kernel
abbrev cJ5_init_d00df : ByteArray := prog_13_method_2_code
def yJ5_init_d00df : MethodName := ⟨RJ5, "<init>", "(I)V"⟩
abbrev cJ5_length_8abf5 : ByteArray := prog_13_method_6_code
def yJ5_length_8abf5 : MethodName := ⟨RJ5, "length", "()I"⟩
abbrev cJ5_ensureCapacityInternal_d00df : ByteArray := prog_13_method_9_code
def yJ5_ensureCapacityInternal_d00df : MethodName := ⟨RJ5, "ensureCapacityInternal", "(I)V"⟩
abbrev cJ5_newCapacity_0f7a4 : ByteArray := prog_13_method_10_code
def yJ5_newCapacity_0f7a4 : MethodName := ⟨RJ5, "newCapacity", "(I)I"⟩
abbrev cJ5_inflate_da8c8 : ByteArray := prog_13_method_11_code
def yJ5_inflate_da8c8 : MethodName := ⟨RJ5, "inflate", "()V"⟩
abbrev cJ5_setLength_d00df : ByteArray := prog_13_method_13_code
def yJ5_setLength_d00df : MethodName := ⟨RJ5, "setLength", "(I)V"⟩
abbrev cJ5_charAt_5068e : ByteArray := prog_13_method_14_code
def yJ5_charAt_5068e : MethodName := ⟨RJ5, "charAt", "(I)C"⟩
abbrev cJ5_append_cf1ce : ByteArray := prog_13_method_22_code
def yJ5_append_cf1ce : MethodName := ⟨RJ5, "append", "(Ljava/lang/String;)Ljava/lang/AbstractStringBuilder;"⟩
abbrev cJ5_appendNull_278bc : ByteArray := prog_13_method_26_code
def yJ5_appendNull_278bc : MethodName := ⟨RJ5, "appendNull", "()Ljava/lang/AbstractStringBuilder;"⟩
abbrev cJ5_append_3fe6f : ByteArray := prog_13_method_31_code
def yJ5_append_3fe6f : MethodName := ⟨RJ5, "append", "(C)Ljava/lang/AbstractStringBuilder;"⟩
abbrev cJ5_append_c97b9 : ByteArray := prog_13_method_32_code
def yJ5_append_c97b9 : MethodName := ⟨RJ5, "append", "(I)Ljava/lang/AbstractStringBuilder;"⟩
abbrev cJ5_getValue_6d5f1 : ByteArray := prog_13_method_64_code
def yJ5_getValue_6d5f1 : MethodName := ⟨RJ5, "getValue", "()[B"⟩
abbrev cJ5_isLatin1_aae02 : ByteArray := prog_13_method_68_code
def yJ5_isLatin1_aae02 : MethodName := ⟨RJ5, "isLatin1", "()Z"⟩
abbrev cJ5_inflateIfNeededFor_a7421 : ByteArray := prog_13_method_71_code
def yJ5_inflateIfNeededFor_a7421 : MethodName := ⟨RJ5, "inflateIfNeededFor", "(Ljava/lang/String;)V"⟩
abbrev cJ5_putStringAt_47b60 : ByteArray := prog_13_method_73_code
def yJ5_putStringAt_47b60 : MethodName := ⟨RJ5, "putStringAt", "(ILjava/lang/String;)V"⟩
def RJx2cfe8 : String := "java/lang/Appendable"
def TJx2cfe8 : u_T := fun k => match k with
  | _ => ("", "", "", false)
def tyJx2cfe8 : Nat → FieldType := fun k => match k with
  | _ => .int
abbrev wsJx2cfe80 : List Cond := u_ws RJx2cfe8 TJx2cfe8 0
theorem nmJx2cfe8 : ∀ a, a < 0 → ∀ b, b < 0 → a ≠ b → (TJx2cfe8 a).2.1 ≠ (TJx2cfe8 b).2.1 := by decide +kernel
theorem tyJx2cfe8_ok : ∀ k, k < 0 → parseFieldDescriptor (TJx2cfe8 k).2.2.1 = some (tyJx2cfe8 k) := by decide +kernel
def RJx00060 : String := "java/lang/ArrayIndexOutOfBoundsException"
def TJx00060 : u_T := fun k => match k with
  | 0 => ("java/lang/Throwable", "cause", "Ljava/lang/Throwable;", false)
  | 1 => ("java/lang/Throwable", "stackTrace", "[Ljava/lang/StackTraceElement;", false)
  | 2 => ("java/lang/Throwable", "suppressedExceptions", "Ljava/util/List;", false)
  | 3 => ("java/lang/Throwable", "detailMessage", "Ljava/lang/String;", false)
  | 4 => ("java/lang/Throwable", "backtrace", "Ljava/lang/Object;", false)
  | _ => ("java/lang/Throwable", "depth", "I", false)
def tyJx00060 : Nat → FieldType := fun k => match k with
  | 0 => .object "java/lang/Throwable"
  | 1 => .array (.object "java/lang/StackTraceElement")
  | 2 => .object "java/util/List"
  | 3 => .object "java/lang/String"
  | 4 => .object "java/lang/Object"
  | _ => .int
abbrev wsJx000600 : List Cond := u_ws RJx00060 TJx00060 6
theorem nmJx00060 : ∀ a, a < 6 → ∀ b, b < 6 → a ≠ b → (TJx00060 a).2.1 ≠ (TJx00060 b).2.1 := by decide +kernel
theorem tyJx00060_ok : ∀ k, k < 6 → parseFieldDescriptor (TJx00060 k).2.2.1 = some (tyJx00060 k) := by decide +kernel
abbrev cJx00060_init_a7421 : ByteArray := prog_16_method_2_code
def yJx00060_init_a7421 : MethodName := ⟨RJx00060, "<init>", "(Ljava/lang/String;)V"⟩
abbrev cJx00060_init_d00df : ByteArray := prog_16_method_3_code
def yJx00060_init_d00df : MethodName := ⟨RJx00060, "<init>", "(I)V"⟩
def RJx9f9b0 : String := "java/lang/CharSequence"
def TJx9f9b0 : u_T := fun k => match k with
  | _ => ("", "", "", false)
def tyJx9f9b0 : Nat → FieldType := fun k => match k with
  | _ => .int
abbrev wsJx9f9b00 : List Cond := u_ws RJx9f9b0 TJx9f9b0 0
theorem nmJx9f9b0 : ∀ a, a < 0 → ∀ b, b < 0 → a ≠ b → (TJx9f9b0 a).2.1 ≠ (TJx9f9b0 b).2.1 := by decide +kernel
theorem tyJx9f9b0_ok : ∀ k, k < 0 → parseFieldDescriptor (TJx9f9b0 k).2.2.1 = some (tyJx9f9b0 k) := by decide +kernel
def RJx8e188 : String := "java/lang/Cloneable"
def TJx8e188 : u_T := fun k => match k with
  | _ => ("", "", "", false)
def tyJx8e188 : Nat → FieldType := fun k => match k with
  | _ => .int
abbrev wsJx8e1880 : List Cond := u_ws RJx8e188 TJx8e188 0
theorem nmJx8e188 : ∀ a, a < 0 → ∀ b, b < 0 → a ≠ b → (TJx8e188 a).2.1 ≠ (TJx8e188 b).2.1 := by decide +kernel
theorem tyJx8e188_ok : ∀ k, k < 0 → parseFieldDescriptor (TJx8e188 k).2.2.1 = some (tyJx8e188 k) := by decide +kernel
def RJxb160c : String := "java/lang/Comparable"
def TJxb160c : u_T := fun k => match k with
  | _ => ("", "", "", false)
def tyJxb160c : Nat → FieldType := fun k => match k with
  | _ => .int
abbrev wsJxb160c0 : List Cond := u_ws RJxb160c TJxb160c 0
theorem nmJxb160c : ∀ a, a < 0 → ∀ b, b < 0 → a ≠ b → (TJxb160c a).2.1 ≠ (TJxb160c b).2.1 := by decide +kernel
theorem tyJxb160c_ok : ∀ k, k < 0 → parseFieldDescriptor (TJxb160c k).2.2.1 = some (tyJxb160c k) := by decide +kernel
def RJx29ce0 : String := "java/lang/Enum"
def TJx29ce0 : u_T := fun k => match k with
  | _ => ("", "", "", false)
def tyJx29ce0 : Nat → FieldType := fun k => match k with
  | _ => .int
abbrev wsJx29ce00 : List Cond := u_ws RJx29ce0 TJx29ce0 0
theorem nmJx29ce0 : ∀ a, a < 0 → ∀ b, b < 0 → a ≠ b → (TJx29ce0 a).2.1 ≠ (TJx29ce0 b).2.1 := by decide +kernel
theorem tyJx29ce0_ok : ∀ k, k < 0 → parseFieldDescriptor (TJx29ce0 k).2.2.1 = some (tyJx29ce0 k) := by decide +kernel
abbrev cJx29ce0_ordinal_8abf5 : ByteArray := prog_20_method_2_code
def yJx29ce0_ordinal_8abf5 : MethodName := ⟨RJx29ce0, "ordinal", "()I"⟩
def RJxf58ca : String := "java/lang/Float"
def TJxf58ca : u_T := fun k => match k with
  | _ => ("", "", "", false)
def tyJxf58ca : Nat → FieldType := fun k => match k with
  | _ => .int
abbrev wsJxf58ca0 : List Cond := u_ws RJxf58ca TJxf58ca 0
theorem nmJxf58ca : ∀ a, a < 0 → ∀ b, b < 0 → a ≠ b → (TJxf58ca a).2.1 ≠ (TJxf58ca b).2.1 := by decide +kernel
theorem tyJxf58ca_ok : ∀ k, k < 0 → parseFieldDescriptor (TJxf58ca k).2.2.1 = some (tyJxf58ca k) := by decide +kernel
abbrev cJxf58ca_isNaN_12338 : ByteArray := prog_22_method_6_code
def yJxf58ca_isNaN_12338 : MethodName := ⟨RJxf58ca, "isNaN", "(F)Z"⟩
abbrev cJxf58ca_floatToIntBits_5c35a : ByteArray := prog_22_method_24_code
def yJxf58ca_floatToIntBits_5c35a : MethodName := ⟨RJxf58ca, "floatToIntBits", "(F)I"⟩
def RJ6 : String := "java/lang/Integer"
def TJ6 : u_T := fun k => match k with
  | _ => ("", "", "", false)
def tyJ6 : Nat → FieldType := fun k => match k with
  | _ => .int
abbrev wsJ60 : List Cond := u_ws RJ6 TJ6 0
theorem nmJ6 : ∀ a, a < 0 → ∀ b, b < 0 → a ≠ b → (TJ6 a).2.1 ≠ (TJ6 b).2.1 := by decide +kernel
theorem tyJ6_ok : ∀ k, k < 0 → parseFieldDescriptor (TJ6 k).2.2.1 = some (tyJ6 k) := by decide +kernel
abbrev cJ6_getChars_ba4f3 : ByteArray := prog_26_method_12_code
def yJ6_getChars_ba4f3 : MethodName := ⟨RJ6, "getChars", "(II[B)I"⟩
abbrev cJ6_stringSize_0f7a4 : ByteArray := prog_26_method_13_code
def yJ6_stringSize_0f7a4 : MethodName := ⟨RJ6, "stringSize", "(I)I"⟩
def RJ9 : String := "java/lang/Math"
def TJ9 : u_T := fun k => match k with
  | _ => ("", "", "", false)
def tyJ9 : Nat → FieldType := fun k => match k with
  | _ => .int
abbrev wsJ90 : List Cond := u_ws RJ9 TJ9 0
theorem nmJ9 : ∀ a, a < 0 → ∀ b, b < 0 → a ≠ b → (TJ9 a).2.1 ≠ (TJ9 b).2.1 := by decide +kernel
theorem tyJ9_ok : ∀ k, k < 0 → parseFieldDescriptor (TJ9 k).2.2.1 = some (tyJ9 k) := by decide +kernel
abbrev cJ9_max_7cf53 : ByteArray := prog_27_method_65_code
def yJ9_max_7cf53 : MethodName := ⟨RJ9, "max", "(II)I"⟩
abbrev cJ9_max_e70c8 : ByteArray := prog_27_method_67_code
def yJ9_max_e70c8 : MethodName := ⟨RJ9, "max", "(FF)F"⟩
abbrev cJ9_min_7cf53 : ByteArray := prog_27_method_69_code
def yJ9_min_7cf53 : MethodName := ⟨RJ9, "min", "(II)I"⟩
def RJxd2413 : String := "java/lang/Number"
def TJxd2413 : u_T := fun k => match k with
  | _ => ("", "", "", false)
def tyJxd2413 : Nat → FieldType := fun k => match k with
  | _ => .int
abbrev wsJxd24130 : List Cond := u_ws RJxd2413 TJxd2413 0
theorem nmJxd2413 : ∀ a, a < 0 → ∀ b, b < 0 → a ≠ b → (TJxd2413 a).2.1 ≠ (TJxd2413 b).2.1 := by decide +kernel
theorem tyJxd2413_ok : ∀ k, k < 0 → parseFieldDescriptor (TJxd2413 k).2.2.1 = some (tyJxd2413 k) := by decide +kernel
def RJ0 : String := "java/lang/String"
def TJ0 : u_T := fun k => match k with
  | 0 => ("java/lang/String", "value", "[B", true)
  | 1 => ("java/lang/String", "coder", "B", true)
  | 2 => ("java/lang/String", "hash", "I", false)
  | _ => ("java/lang/String", "hashIsZero", "Z", false)
def tyJ0 : Nat → FieldType := fun k => match k with
  | 0 => .array .byte
  | 1 => .byte
  | 2 => .int
  | _ => .boolean
abbrev wsJ00 : List Cond := u_ws RJ0 TJ0 4
theorem nmJ0 : ∀ a, a < 4 → ∀ b, b < 4 → a ≠ b → (TJ0 a).2.1 ≠ (TJ0 b).2.1 := by decide +kernel
theorem tyJ0_ok : ∀ k, k < 4 → parseFieldDescriptor (TJ0 k).2.2.1 = some (tyJ0 k) := by decide +kernel
abbrev cJ0_init_81219 : ByteArray := prog_30_method_53_code
def yJ0_init_81219 : MethodName := ⟨RJ0, "<init>", "(Ljava/lang/StringBuilder;)V"⟩
abbrev cJ0_length_8abf5 : ByteArray := prog_30_method_54_code
def yJ0_length_8abf5 : MethodName := ⟨RJ0, "length", "()I"⟩
abbrev cJ0_charAt_5068e : ByteArray := prog_30_method_56_code
def yJ0_charAt_5068e : MethodName := ⟨RJ0, "charAt", "(I)C"⟩
abbrev cJ0_getBytes_840e7 : ByteArray := prog_30_method_147_code
def yJ0_getBytes_840e7 : MethodName := ⟨RJ0, "getBytes", "([BIB)V"⟩
abbrev cJ0_init_db425 : ByteArray := prog_30_method_150_code
def yJ0_init_db425 : MethodName := ⟨RJ0, "<init>", "(Ljava/lang/AbstractStringBuilder;Ljava/lang/Void;)V"⟩
abbrev cJ0_coder_7d493 : ByteArray := prog_30_method_152_code
def yJ0_coder_7d493 : MethodName := ⟨RJ0, "coder", "()B"⟩
abbrev cJ0_isLatin1_aae02 : ByteArray := prog_30_method_154_code
def yJ0_isLatin1_aae02 : MethodName := ⟨RJ0, "isLatin1", "()Z"⟩
abbrev cJ0_checkIndex_df160 : ByteArray := prog_30_method_155_code
def yJ0_checkIndex_df160 : MethodName := ⟨RJ0, "checkIndex", "(II)V"⟩
abbrev cJ0_checkBoundsOffCount_cabcc : ByteArray := prog_30_method_157_code
def yJ0_checkBoundsOffCount_cabcc : MethodName := ⟨RJ0, "checkBoundsOffCount", "(III)I"⟩
abbrev cJ0_checkBoundsBeginEnd_23922 : ByteArray := prog_30_method_158_code
def yJ0_checkBoundsBeginEnd_23922 : MethodName := ⟨RJ0, "checkBoundsBeginEnd", "(III)V"⟩
def RJ4 : String := "java/lang/StringBuilder"
def TJ4 : u_T := fun k => match k with
  | 0 => ("java/lang/AbstractStringBuilder", "value", "[B", false)
  | 1 => ("java/lang/AbstractStringBuilder", "coder", "B", false)
  | 2 => ("java/lang/AbstractStringBuilder", "maybeLatin1", "Z", false)
  | _ => ("java/lang/AbstractStringBuilder", "count", "I", false)
def tyJ4 : Nat → FieldType := fun k => match k with
  | 0 => .array .byte
  | 1 => .byte
  | 2 => .boolean
  | _ => .int
abbrev wsJ40 : List Cond := u_ws RJ4 TJ4 4
theorem nmJ4 : ∀ a, a < 4 → ∀ b, b < 4 → a ≠ b → (TJ4 a).2.1 ≠ (TJ4 b).2.1 := by decide +kernel
theorem tyJ4_ok : ∀ k, k < 4 → parseFieldDescriptor (TJ4 k).2.2.1 = some (tyJ4 k) := by decide +kernel
abbrev cJ4_init_da8c8 : ByteArray := prog_31_method_1_code
def yJ4_init_da8c8 : MethodName := ⟨RJ4, "<init>", "()V"⟩
abbrev cJ4_append_15ec4 : ByteArray := prog_31_method_7_code
def yJ4_append_15ec4 : MethodName := ⟨RJ4, "append", "(Ljava/lang/String;)Ljava/lang/StringBuilder;"⟩
abbrev cJ4_append_cf468 : ByteArray := prog_31_method_14_code
def yJ4_append_cf468 : MethodName := ⟨RJ4, "append", "(C)Ljava/lang/StringBuilder;"⟩
abbrev cJ4_append_bf812 : ByteArray := prog_31_method_15_code
def yJ4_append_bf812 : MethodName := ⟨RJ4, "append", "(I)Ljava/lang/StringBuilder;"⟩
abbrev cJ4_toString_0e30d : ByteArray := prog_31_method_42_code
def yJ4_toString_0e30d : MethodName := ⟨RJ4, "toString", "()Ljava/lang/String;"⟩
abbrev cJ4_charAt_5068e : ByteArray := prog_31_method_88_code
def yJ4_charAt_5068e : MethodName := ⟨RJ4, "charAt", "(I)C"⟩
abbrev cJ4_setLength_d00df : ByteArray := prog_31_method_89_code
def yJ4_setLength_d00df : MethodName := ⟨RJ4, "setLength", "(I)V"⟩
abbrev cJ4_length_8abf5 : ByteArray := prog_31_method_93_code
def yJ4_length_8abf5 : MethodName := ⟨RJ4, "length", "()I"⟩
def RJx7c733 : String := "java/lang/StringIndexOutOfBoundsException"
def TJx7c733 : u_T := fun k => match k with
  | 0 => ("java/lang/Throwable", "backtrace", "Ljava/lang/Object;", false)
  | 1 => ("java/lang/Throwable", "detailMessage", "Ljava/lang/String;", false)
  | 2 => ("java/lang/Throwable", "cause", "Ljava/lang/Throwable;", false)
  | 3 => ("java/lang/Throwable", "stackTrace", "[Ljava/lang/StackTraceElement;", false)
  | 4 => ("java/lang/Throwable", "depth", "I", false)
  | _ => ("java/lang/Throwable", "suppressedExceptions", "Ljava/util/List;", false)
def tyJx7c733 : Nat → FieldType := fun k => match k with
  | 0 => .object "java/lang/Object"
  | 1 => .object "java/lang/String"
  | 2 => .object "java/lang/Throwable"
  | 3 => .array (.object "java/lang/StackTraceElement")
  | 4 => .int
  | _ => .object "java/util/List"
abbrev wsJx7c7330 : List Cond := u_ws RJx7c733 TJx7c733 6
theorem nmJx7c733 : ∀ a, a < 6 → ∀ b, b < 6 → a ≠ b → (TJx7c733 a).2.1 ≠ (TJx7c733 b).2.1 := by decide +kernel
theorem tyJx7c733_ok : ∀ k, k < 6 → parseFieldDescriptor (TJx7c733 k).2.2.1 = some (tyJx7c733 k) := by decide +kernel
abbrev cJx7c733_init_d00df : ByteArray := prog_32_method_3_code
def yJx7c733_init_d00df : MethodName := ⟨RJx7c733, "<init>", "(I)V"⟩
def RJ1 : String := "java/lang/StringLatin1"
def TJ1 : u_T := fun k => match k with
  | _ => ("", "", "", false)
def tyJ1 : Nat → FieldType := fun k => match k with
  | _ => .int
abbrev wsJ10 : List Cond := u_ws RJ1 TJ1 0
theorem nmJ1 : ∀ a, a < 0 → ∀ b, b < 0 → a ≠ b → (TJ1 a).2.1 ≠ (TJ1 b).2.1 := by decide +kernel
theorem tyJ1_ok : ∀ k, k < 0 → parseFieldDescriptor (TJ1 k).2.2.1 = some (tyJ1 k) := by decide +kernel
abbrev cJ1_charAt_3b067 : ByteArray := prog_33_method_2_code
def yJ1_charAt_3b067 : MethodName := ⟨RJ1, "charAt", "([BI)C"⟩
abbrev cJ1_canEncode_fc78d : ByteArray := prog_33_method_3_code
def yJ1_canEncode_fc78d : MethodName := ⟨RJ1, "canEncode", "(C)Z"⟩
abbrev cJ1_fillNull_b72d1 : ByteArray := prog_33_method_48_code
def yJ1_fillNull_b72d1 : MethodName := ⟨RJ1, "fillNull", "([BII)V"⟩
abbrev cJ1_inflate_0e8fd : ByteArray := prog_33_method_50_code
def yJ1_inflate_0e8fd : MethodName := ⟨RJ1, "inflate", "([BI[BII)V"⟩
def RJ2 : String := "java/lang/StringUTF16"
def TJ2 : u_T := fun k => match k with
  | _ => ("", "", "", false)
def tyJ2 : Nat → FieldType := fun k => match k with
  | _ => .int
abbrev wsJ20 : List Cond := u_ws RJ2 TJ2 0
theorem nmJ2 : ∀ a, a < 0 → ∀ b, b < 0 → a ≠ b → (TJ2 a).2.1 ≠ (TJ2 b).2.1 := by decide +kernel
theorem tyJ2_ok : ∀ k, k < 0 → parseFieldDescriptor (TJ2 k).2.2.1 = some (tyJ2 k) := by decide +kernel
abbrev cJ2_newBytesFor_77867 : ByteArray := prog_34_method_2_code
def yJ2_newBytesFor_77867 : MethodName := ⟨RJ2, "newBytesFor", "(I)[B"⟩
abbrev cJ2_newBytesLength_0f7a4 : ByteArray := prog_34_method_3_code
def yJ2_newBytesLength_0f7a4 : MethodName := ⟨RJ2, "newBytesLength", "(I)I"⟩
abbrev cJ2_putChar_b72d1 : ByteArray := prog_34_method_4_code
def yJ2_putChar_b72d1 : MethodName := ⟨RJ2, "putChar", "([BII)V"⟩
abbrev cJ2_getChar_3b067 : ByteArray := prog_34_method_5_code
def yJ2_getChar_3b067 : MethodName := ⟨RJ2, "getChar", "([BI)C"⟩
abbrev cJ2_length_9d52b : ByteArray := prog_34_method_6_code
def yJ2_length_9d52b : MethodName := ⟨RJ2, "length", "([B)I"⟩
abbrev cJ2_coderFromArrayLen_85cad : ByteArray := prog_34_method_15_code
def yJ2_coderFromArrayLen_85cad : MethodName := ⟨RJ2, "coderFromArrayLen", "([BI)B"⟩
abbrev cJ2_compress_39247 : ByteArray := prog_34_method_17_code
def yJ2_compress_39247 : MethodName := ⟨RJ2, "compress", "([BII)[B"⟩
abbrev cJ2_compress_5af95 : ByteArray := prog_34_method_22_code
def yJ2_compress_5af95 : MethodName := ⟨RJ2, "compress", "([BI[BII)I"⟩
abbrev cJ2_fillNull_b72d1 : ByteArray := prog_34_method_70_code
def yJ2_fillNull_b72d1 : MethodName := ⟨RJ2, "fillNull", "([BII)V"⟩
abbrev cJ2_putCharSB_b72d1 : ByteArray := prog_34_method_71_code
def yJ2_putCharSB_b72d1 : MethodName := ⟨RJ2, "putCharSB", "([BII)V"⟩
abbrev cJ2_getChars_46870 : ByteArray := prog_34_method_77_code
def yJ2_getChars_46870 : MethodName := ⟨RJ2, "getChars", "(III[B)I"⟩
abbrev cJ2_putCharsAt_cd4e5 : ByteArray := prog_34_method_81_code
def yJ2_putCharsAt_cd4e5 : MethodName := ⟨RJ2, "putCharsAt", "([BICCCC)I"⟩
abbrev cJ2_charAt_3b067 : ByteArray := prog_34_method_83_code
def yJ2_charAt_3b067 : MethodName := ⟨RJ2, "charAt", "([BI)C"⟩
abbrev cJ2_inflate_0e8fd : ByteArray := prog_34_method_86_code
def yJ2_inflate_0e8fd : MethodName := ⟨RJ2, "inflate", "([BI[BII)V"⟩
abbrev cJ2_getChars_ba4f3 : ByteArray := prog_34_method_89_code
def yJ2_getChars_ba4f3 : MethodName := ⟨RJ2, "getChars", "(II[B)I"⟩
abbrev cJ2_checkIndex_2214a : ByteArray := prog_34_method_91_code
def yJ2_checkIndex_2214a : MethodName := ⟨RJ2, "checkIndex", "(I[B)V"⟩
abbrev cJ2_checkBoundsBeginEnd_d044e : ByteArray := prog_34_method_93_code
def yJ2_checkBoundsBeginEnd_d044e : MethodName := ⟨RJ2, "checkBoundsBeginEnd", "(II[B)V"⟩
abbrev cJ2_checkBoundsOffCount_d044e : ByteArray := prog_34_method_94_code
def yJ2_checkBoundsOffCount_d044e : MethodName := ⟨RJ2, "checkBoundsOffCount", "(II[B)V"⟩
def RJ10 : String := "java/lang/System"
def TJ10 : u_T := fun k => match k with
  | _ => ("", "", "", false)
def tyJ10 : Nat → FieldType := fun k => match k with
  | _ => .int
abbrev wsJ100 : List Cond := u_ws RJ10 TJ10 0
theorem nmJ10 : ∀ a, a < 0 → ∀ b, b < 0 → a ≠ b → (TJ10 a).2.1 ≠ (TJ10 b).2.1 := by decide +kernel
theorem tyJ10_ok : ∀ k, k < 0 → parseFieldDescriptor (TJ10 k).2.2.1 = some (tyJ10 k) := by decide +kernel
def RJxfd54e : String := "java/lang/constant/Constable"
def TJxfd54e : u_T := fun k => match k with
  | _ => ("", "", "", false)
def tyJxfd54e : Nat → FieldType := fun k => match k with
  | _ => .int
abbrev wsJxfd54e0 : List Cond := u_ws RJxfd54e TJxfd54e 0
theorem nmJxfd54e : ∀ a, a < 0 → ∀ b, b < 0 → a ≠ b → (TJxfd54e a).2.1 ≠ (TJxfd54e b).2.1 := by decide +kernel
theorem tyJxfd54e_ok : ∀ k, k < 0 → parseFieldDescriptor (TJxfd54e k).2.2.1 = some (tyJxfd54e k) := by decide +kernel
def RJx3cf43 : String := "java/lang/constant/ConstantDesc"
def TJx3cf43 : u_T := fun k => match k with
  | _ => ("", "", "", false)
def tyJx3cf43 : Nat → FieldType := fun k => match k with
  | _ => .int
abbrev wsJx3cf430 : List Cond := u_ws RJx3cf43 TJx3cf43 0
theorem nmJx3cf43 : ∀ a, a < 0 → ∀ b, b < 0 → a ≠ b → (TJx3cf43 a).2.1 ≠ (TJx3cf43 b).2.1 := by decide +kernel
theorem tyJx3cf43_ok : ∀ k, k < 0 → parseFieldDescriptor (TJx3cf43 k).2.2.1 = some (tyJx3cf43 k) := by decide +kernel
def RJ7 : String := "java/util/Arrays"
def TJ7 : u_T := fun k => match k with
  | _ => ("", "", "", false)
def tyJ7 : Nat → FieldType := fun k => match k with
  | _ => .int
abbrev wsJ70 : List Cond := u_ws RJ7 TJ7 0
theorem nmJ7 : ∀ a, a < 0 → ∀ b, b < 0 → a ≠ b → (TJ7 a).2.1 ≠ (TJ7 b).2.1 := by decide +kernel
theorem tyJ7_ok : ∀ k, k < 0 → parseFieldDescriptor (TJ7 k).2.2.1 = some (tyJ7 k) := by decide +kernel
abbrev cJ7_rangeCheck_23922 : ByteArray := prog_39_method_30_code
def yJ7_rangeCheck_23922 : MethodName := ⟨RJ7, "rangeCheck", "(III)V"⟩
abbrev cJ7_fill_eb02e : ByteArray := prog_39_method_110_code
def yJ7_fill_eb02e : MethodName := ⟨RJ7, "fill", "([BIIB)V"⟩
abbrev cJ7_copyOf_9075b : ByteArray := prog_39_method_121_code
def yJ7_copyOf_9075b : MethodName := ⟨RJ7, "copyOf", "([BI)[B"⟩
abbrev cJ7_checkLength_df160 : ByteArray := prog_39_method_131_code
def yJ7_checkLength_df160 : MethodName := ⟨RJ7, "checkLength", "(II)V"⟩
abbrev cJ7_copyOfRange_39247 : ByteArray := prog_39_method_132_code
def yJ7_copyOfRange_39247 : MethodName := ⟨RJ7, "copyOfRange", "([BII)[B"⟩
abbrev cJ7_copyOfRangeByte_39247 : ByteArray := prog_39_method_133_code
def yJ7_copyOfRangeByte_39247 : MethodName := ⟨RJ7, "copyOfRangeByte", "([BII)[B"⟩
def RJ8 : String := "jdk/internal/util/ArraysSupport"
def TJ8 : u_T := fun k => match k with
  | _ => ("", "", "", false)
def tyJ8 : Nat → FieldType := fun k => match k with
  | _ => .int
abbrev wsJ80 : List Cond := u_ws RJ8 TJ8 0
theorem nmJ8 : ∀ a, a < 0 → ∀ b, b < 0 → a ≠ b → (TJ8 a).2.1 ≠ (TJ8 b).2.1 := by decide +kernel
theorem tyJ8_ok : ∀ k, k < 0 → parseFieldDescriptor (TJ8 k).2.2.1 = some (tyJ8 k) := by decide +kernel
abbrev cJ8_newLength_cabcc : ByteArray := prog_41_method_27_code
def yJ8_newLength_cabcc : MethodName := ⟨RJ8, "newLength", "(III)I"⟩
abbrev cJ8_hugeLength_7cf53 : ByteArray := prog_41_method_28_code
def yJ8_hugeLength_7cf53 : MethodName := ⟨RJ8, "hugeLength", "(II)I"⟩
def RJ3 : String := "jdk/internal/util/Preconditions"
def TJ3 : u_T := fun k => match k with
  | _ => ("", "", "", false)
def tyJ3 : Nat → FieldType := fun k => match k with
  | _ => .int
abbrev wsJ30 : List Cond := u_ws RJ3 TJ3 0
theorem nmJ3 : ∀ a, a < 0 → ∀ b, b < 0 → a ≠ b → (TJ3 a).2.1 ≠ (TJ3 b).2.1 := by decide +kernel
theorem tyJ3_ok : ∀ k, k < 0 → parseFieldDescriptor (TJ3 k).2.2.1 = some (tyJ3 k) := by decide +kernel
abbrev cJ3_checkIndex_8e157 : ByteArray := prog_42_method_11_code
def yJ3_checkIndex_8e157 : MethodName := ⟨RJ3, "checkIndex", "(IILjava/util/function/BiFunction;)I"⟩
abbrev cJ3_checkFromToIndex_8c36e : ByteArray := prog_42_method_12_code
def yJ3_checkFromToIndex_8c36e : MethodName := ⟨RJ3, "checkFromToIndex", "(IIILjava/util/function/BiFunction;)I"⟩
abbrev cJ3_checkFromIndexSize_8c36e : ByteArray := prog_42_method_13_code
def yJ3_checkFromIndexSize_8c36e : MethodName := ⟨RJ3, "checkFromIndexSize", "(IIILjava/util/function/BiFunction;)I"⟩
def RL : String := "TeaHouseLaw"
abbrev cL_cell : ByteArray := method_2_code
def yL_cell : MethodName := ⟨RL, "cell", "([II)I"⟩
abbrev cL_some : ByteArray := method_3_code
def yL_some : MethodName := ⟨RL, "some", "([III)I"⟩
abbrev cL_addKettle : ByteArray := method_4_code
def yL_addKettle : MethodName := ⟨RL, "addKettle", "(LTeaHouse;I)I"⟩
abbrev cL_fill : ByteArray := method_5_code
def yL_fill : MethodName := ⟨RL, "fill", "(LTeaHouse;II)F"⟩
abbrev cL_setBurner : ByteArray := method_6_code
def yL_setBurner : MethodName := ⟨RL, "setBurner", "(LTeaHouse;II)I"⟩
abbrev cL_order : ByteArray := method_7_code
def yL_order : MethodName := ⟨RL, "order", "(LTeaHouse;IIII)I"⟩
abbrev cL_cancel : ByteArray := method_8_code
def yL_cancel : MethodName := ⟨RL, "cancel", "(LTeaHouse;I)I"⟩
abbrev cL_serveNext : ByteArray := method_9_code
def yL_serveNext : MethodName := ⟨RL, "serveNext", "(LTeaHouse;)I"⟩
abbrev cL_wash : ByteArray := method_10_code
def yL_wash : MethodName := ⟨RL, "wash", "(LTeaHouse;I)I"⟩
abbrev cL_sellSteam : ByteArray := method_11_code
def yL_sellSteam : MethodName := ⟨RL, "sellSteam", "(LTeaHouse;I)F"⟩
abbrev cL_setCupPrice : ByteArray := method_12_code
def yL_setCupPrice : MethodName := ⟨RL, "setCupPrice", "(LTeaHouse;I)F"⟩
abbrev cL_setSteamPrice : ByteArray := method_13_code
def yL_setSteamPrice : MethodName := ⟨RL, "setSteamPrice", "(LTeaHouse;I)F"⟩
abbrev cL_pass : ByteArray := method_14_code
def yL_pass : MethodName := ⟨RL, "pass", "(LTeaHouse;I)I"⟩
abbrev cL_closeNight : ByteArray := method_15_code
def yL_closeNight : MethodName := ⟨RL, "closeNight", "(LTeaHouse;)F"⟩
abbrev cL_minutesUntilBoiling : ByteArray := method_16_code
def yL_minutesUntilBoiling : MethodName := ⟨RL, "minutesUntilBoiling", "(LTeaHouse;I)I"⟩
abbrev cL_minutesUntilBoilingByMinutes : ByteArray := method_17_code
def yL_minutesUntilBoilingByMinutes : MethodName := ⟨RL, "minutesUntilBoilingByMinutes", "(LTeaHouse;I)I"⟩
abbrev cL_kettleByTemperature : ByteArray := method_18_code
def yL_kettleByTemperature : MethodName := ⟨RL, "kettleByTemperature", "(LTeaHouse;I)I"⟩
abbrev cL_orderAt : ByteArray := method_19_code
def yL_orderAt : MethodName := ⟨RL, "orderAt", "(LTeaHouse;I)I"⟩
abbrev cL_kettleFor : ByteArray := method_20_code
def yL_kettleFor : MethodName := ⟨RL, "kettleFor", "(LTeaHouse;I)I"⟩
abbrev cL_nightByIncome : ByteArray := method_21_code
def yL_nightByIncome : MethodName := ⟨RL, "nightByIncome", "(LTeaHouse;I)I"⟩
abbrev cL_minutesUntilSuitable : ByteArray := method_22_code
def yL_minutesUntilSuitable : MethodName := ⟨RL, "minutesUntilSuitable", "(LTeaHouse;I)I"⟩
abbrev cL_greatestIncome : ByteArray := method_23_code
def yL_greatestIncome : MethodName := ⟨RL, "greatestIncome", "(LTeaHouse;I)F"⟩
abbrev cL_greatestIncomeBySums : ByteArray := method_24_code
def yL_greatestIncomeBySums : MethodName := ⟨RL, "greatestIncomeBySums", "(LTeaHouse;I)F"⟩
abbrev cL_build : ByteArray := method_25_code
def yL_build : MethodName := ⟨RL, "build", "(LTeaHouse;[I)V"⟩
abbrev cL_acts : ByteArray := method_26_code
def yL_acts : MethodName := ⟨RL, "acts", "(LTeaHouse;[II)V"⟩
abbrev cL_eighths : ByteArray := method_27_code
def yL_eighths : MethodName := ⟨RL, "eighths", "(F)I"⟩
abbrev cL_least : ByteArray := method_28_code
def yL_least : MethodName := ⟨RL, "least", "(LTeaHouse;I)I"⟩
abbrev cL_pours : ByteArray := method_29_code
def yL_pours : MethodName := ⟨RL, "pours", "(LTeaHouse;II)I"⟩
abbrev cL_isLine : ByteArray := method_30_code
def yL_isLine : MethodName := ⟨RL, "isLine", "(LTeaHouse;ILjava/lang/String;)Z"⟩
abbrev cL_law : ByteArray := code
def yL_law : MethodName := ⟨RL, "law", "([I)Z"⟩
abbrev vwCl : List vw_C := [(RJ0, TJ0, 4), (RJ4, TJ4, 4), (RJx00060, TJx00060, 6), (RJx7c733, TJx7c733, 6), (RX1, TX1, 14), (RX2, TX2, 6), (RX3, TX3, 6), (RX4, TX4, 6), (RX5, TX5, 7), (RX8, TX8, 12)]
