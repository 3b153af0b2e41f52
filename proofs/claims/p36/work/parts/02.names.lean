def RX0 : String := "Replen$DayBook"
def TX0 : u_T := fun k => match k with
  | _ => ("Replen$DayBook", "units", "[I", true)
def tyX0 : Nat → FieldType := fun k => match k with
  | _ => .array .int
abbrev wsX00 : List Cond := u_ws RX0 TX0 1
theorem nmX0 : ∀ a, a < 1 → ∀ b, b < 1 → a ≠ b → (TX0 a).2.1 ≠ (TX0 b).2.1 := by decide +kernel
theorem tyX0_ok : ∀ k, k < 1 → parseFieldDescriptor (TX0 k).2.2.1 = some (tyX0 k) := by decide +kernel
abbrev cX0_init : ByteArray := prog_2_method_1_code
def yX0_init : MethodName := ⟨RX0, "<init>", "()V"⟩
abbrev cX0_on : ByteArray := prog_2_method_2_code
def yX0_on : MethodName := ⟨RX0, "on", "(I)I"⟩
abbrev cX0_add : ByteArray := prog_2_method_3_code
def yX0_add : MethodName := ⟨RX0, "add", "(II)V"⟩
abbrev cX0_sumUpTo : ByteArray := prog_2_method_4_code
def yX0_sumUpTo : MethodName := ⟨RX0, "sumUpTo", "(I)I"⟩
def RX1 : String := "Replen$Item"
def TX1 : u_T := fun k => match k with
  | 0 => ("Replen$Item", "pack", "I", true)
  | 1 => ("Replen$Item", "firstStock", "I", true)
  | 2 => ("Replen$Item", "takenIn", "LReplen$DayBook;", true)
  | 3 => ("Replen$Item", "givenOut", "LReplen$DayBook;", true)
  | 4 => ("Replen$Item", "promotions", "LReplen$DayBook;", true)
  | _ => ("Replen$Item", "stock", "I", false)
def tyX1 : Nat → FieldType := fun k => match k with
  | 0 => .int
  | 1 => .int
  | 2 => .object "Replen$DayBook"
  | 3 => .object "Replen$DayBook"
  | 4 => .object "Replen$DayBook"
  | _ => .int
abbrev wsX10 : List Cond := u_ws RX1 TX1 6
theorem nmX1 : ∀ a, a < 6 → ∀ b, b < 6 → a ≠ b → (TX1 a).2.1 ≠ (TX1 b).2.1 := by decide +kernel
theorem tyX1_ok : ∀ k, k < 6 → parseFieldDescriptor (TX1 k).2.2.1 = some (tyX1 k) := by decide +kernel
abbrev cX1_init : ByteArray := prog_3_method_1_code
def yX1_init : MethodName := ⟨RX1, "<init>", "(II)V"⟩
abbrev cX1_hasPromotion : ByteArray := prog_3_method_2_code
def yX1_hasPromotion : MethodName := ⟨RX1, "hasPromotion", "(I)Z"⟩
abbrev cX1_takeIn : ByteArray := prog_3_method_3_code
def yX1_takeIn : MethodName := ⟨RX1, "takeIn", "(II)V"⟩
abbrev cX1_giveOut : ByteArray := prog_3_method_4_code
def yX1_giveOut : MethodName := ⟨RX1, "giveOut", "(II)V"⟩
abbrev cX1_wholePacks : ByteArray := prog_3_method_5_code
def yX1_wholePacks : MethodName := ⟨RX1, "wholePacks", "()I"⟩
abbrev cX1_packsFor : ByteArray := prog_3_method_6_code
def yX1_packsFor : MethodName := ⟨RX1, "packsFor", "(I)I"⟩
abbrev cX1_journalStock : ByteArray := prog_3_method_7_code
def yX1_journalStock : MethodName := ⟨RX1, "journalStock", "(I)I"⟩
def RX2 : String := "Replen$Learner"
def TX2 : u_T := fun k => match k with
  | 0 => ("Replen$Learner", "seasons", "[I", true)
  | _ => ("Replen$Learner", "level", "I", false)
def tyX2 : Nat → FieldType := fun k => match k with
  | 0 => .array .int
  | _ => .int
abbrev wsX20 : List Cond := u_ws RX2 TX2 2
theorem nmX2 : ∀ a, a < 2 → ∀ b, b < 2 → a ≠ b → (TX2 a).2.1 ≠ (TX2 b).2.1 := by decide +kernel
theorem tyX2_ok : ∀ k, k < 2 → parseFieldDescriptor (TX2 k).2.2.1 = some (tyX2 k) := by decide +kernel
abbrev cX2_init : ByteArray := prog_4_method_1_code
def yX2_init : MethodName := ⟨RX2, "<init>", "()V"⟩
abbrev cX2_start : ByteArray := prog_4_method_2_code
def yX2_start : MethodName := ⟨RX2, "start", "(I)V"⟩
abbrev cX2_seasonOf : ByteArray := prog_4_method_3_code
def yX2_seasonOf : MethodName := ⟨RX2, "seasonOf", "(I)I"⟩
abbrev cX2_thousandthsFor : ByteArray := prog_4_method_4_code
def yX2_thousandthsFor : MethodName := ⟨RX2, "thousandthsFor", "(I)I"⟩
abbrev cX2_unitsFor : ByteArray := prog_4_method_5_code
def yX2_unitsFor : MethodName := ⟨RX2, "unitsFor", "(I)I"⟩
abbrev cX2_learn : ByteArray := prog_4_method_6_code
def yX2_learn : MethodName := ⟨RX2, "learn", "(IIII)V"⟩
def RX3 : String := "Replen$Line"
def TX3 : u_T := fun k => match k with
  | 0 => ("Replen$Line", "item", "LReplen$Item;", true)
  | 1 => ("Replen$Line", "lead", "I", true)
  | 2 => ("Replen$Line", "firstDay", "I", true)
  | 3 => ("Replen$Line", "firstStock", "I", true)
  | 4 => ("Replen$Line", "firstLevel", "I", true)
  | 5 => ("Replen$Line", "learner", "LReplen$Learner;", true)
  | 6 => ("Replen$Line", "errorTimes", "[I", true)
  | 7 => ("Replen$Line", "demands", "LReplen$DayBook;", true)
  | 8 => ("Replen$Line", "sales", "LReplen$DayBook;", true)
  | 9 => ("Replen$Line", "arrivals", "LReplen$DayBook;", true)
  | 10 => ("Replen$Line", "errorSum", "I", false)
  | 11 => ("Replen$Line", "stock", "I", false)
  | 12 => ("Replen$Line", "soldSum", "I", false)
  | _ => ("Replen$Line", "lostSum", "I", false)
def tyX3 : Nat → FieldType := fun k => match k with
  | 0 => .object "Replen$Item"
  | 1 => .int
  | 2 => .int
  | 3 => .int
  | 4 => .int
  | 5 => .object "Replen$Learner"
  | 6 => .array .int
  | 7 => .object "Replen$DayBook"
  | 8 => .object "Replen$DayBook"
  | 9 => .object "Replen$DayBook"
  | 10 => .int
  | 11 => .int
  | 12 => .int
  | _ => .int
abbrev wsX30 : List Cond := u_ws RX3 TX3 14
theorem nmX3 : ∀ a, a < 14 → ∀ b, b < 14 → a ≠ b → (TX3 a).2.1 ≠ (TX3 b).2.1 := by decide +kernel
theorem tyX3_ok : ∀ k, k < 14 → parseFieldDescriptor (TX3 k).2.2.1 = some (tyX3 k) := by decide +kernel
abbrev cX3_init : ByteArray := prog_5_method_1_code
def yX3_init : MethodName := ⟨RX3, "<init>", "(LReplen$Item;IIII)V"⟩
abbrev cX3_sell : ByteArray := prog_5_method_2_code
def yX3_sell : MethodName := ⟨RX3, "sell", "(II)I"⟩
abbrev cX3_learnFrom : ByteArray := prog_5_method_3_code
def yX3_learnFrom : MethodName := ⟨RX3, "learnFrom", "(III)V"⟩
abbrev cX3_timesOf : ByteArray := prog_5_method_4_code
def yX3_timesOf : MethodName := ⟨RX3, "timesOf", "(I)I"⟩
abbrev cX3_safetyAt : ByteArray := prog_5_method_5_code
def yX3_safetyAt : MethodName := ⟨RX3, "safetyAt", "(I)I"⟩
abbrev cX3_dueAfter : ByteArray := prog_5_method_6_code
def yX3_dueAfter : MethodName := ⟨RX3, "dueAfter", "(I)I"⟩
abbrev cX3_send : ByteArray := prog_5_method_7_code
def yX3_send : MethodName := ⟨RX3, "send", "(II)V"⟩
abbrev cX3_firstDueAfter : ByteArray := prog_5_method_8_code
def yX3_firstDueAfter : MethodName := ⟨RX3, "firstDueAfter", "(I)I"⟩
abbrev cX3_needOn : ByteArray := prog_5_method_9_code
def yX3_needOn : MethodName := ⟨RX3, "needOn", "(II)I"⟩
abbrev cX3_requestOn : ByteArray := prog_5_method_10_code
def yX3_requestOn : MethodName := ⟨RX3, "requestOn", "(II)I"⟩
abbrev cX3_journalStock : ByteArray := prog_5_method_11_code
def yX3_journalStock : MethodName := ⟨RX3, "journalStock", "(I)I"⟩
def RX4 : String := "Replen$Sharing"
def TX4 : u_T := fun k => match k with
  | 0 => ("Replen$Sharing", "requests", "[I", true)
  | 1 => ("Replen$Sharing", "given", "[I", true)
  | _ => ("Replen$Sharing", "packs", "I", false)
def tyX4 : Nat → FieldType := fun k => match k with
  | 0 => .array .int
  | 1 => .array .int
  | _ => .int
abbrev wsX40 : List Cond := u_ws RX4 TX4 3
theorem nmX4 : ∀ a, a < 3 → ∀ b, b < 3 → a ≠ b → (TX4 a).2.1 ≠ (TX4 b).2.1 := by decide +kernel
theorem tyX4_ok : ∀ k, k < 3 → parseFieldDescriptor (TX4 k).2.2.1 = some (tyX4 k) := by decide +kernel
abbrev cX4_init : ByteArray := prog_6_method_1_code
def yX4_init : MethodName := ⟨RX4, "<init>", "()V"⟩
abbrev cX4_start : ByteArray := prog_6_method_2_code
def yX4_start : MethodName := ⟨RX4, "start", "(I)V"⟩
abbrev cX4_ask : ByteArray := prog_6_method_3_code
def yX4_ask : MethodName := ⟨RX4, "ask", "(II)V"⟩
abbrev cX4_counted : ByteArray := prog_6_method_4_code
def yX4_counted : MethodName := ⟨RX4, "counted", "(I)I"⟩
abbrev cX4_givenAhead : ByteArray := prog_6_method_5_code
def yX4_givenAhead : MethodName := ⟨RX4, "givenAhead", "(II)J"⟩
abbrev cX4_handedOut : ByteArray := prog_6_method_6_code
def yX4_handedOut : MethodName := ⟨RX4, "handedOut", "(I)I"⟩
abbrev cX4_nextToGet : ByteArray := prog_6_method_7_code
def yX4_nextToGet : MethodName := ⟨RX4, "nextToGet", "()I"⟩
def RX5 : String := "Replen"
def TX5 : u_T := fun k => match k with
  | 0 => ("Replen", "leads", "[I", true)
  | 1 => ("Replen", "items", "[LReplen$Item;", true)
  | 2 => ("Replen", "lines", "[LReplen$Line;", true)
  | 3 => ("Replen", "levelRates", "LReplen$DayBook;", true)
  | 4 => ("Replen", "seasonRates", "LReplen$DayBook;", true)
  | 5 => ("Replen", "replay", "LReplen$Learner;", true)
  | 6 => ("Replen", "sharing", "LReplen$Sharing;", true)
  | 7 => ("Replen", "shopCount", "I", false)
  | 8 => ("Replen", "itemCount", "I", false)
  | 9 => ("Replen", "lineCount", "I", false)
  | 10 => ("Replen", "day", "I", false)
  | 11 => ("Replen", "percent", "I", false)
  | 12 => ("Replen", "levelRate", "I", false)
  | _ => ("Replen", "seasonRate", "I", false)
def tyX5 : Nat → FieldType := fun k => match k with
  | 0 => .array .int
  | 1 => .array (.object "Replen$Item")
  | 2 => .array (.object "Replen$Line")
  | 3 => .object "Replen$DayBook"
  | 4 => .object "Replen$DayBook"
  | 5 => .object "Replen$Learner"
  | 6 => .object "Replen$Sharing"
  | 7 => .int
  | 8 => .int
  | 9 => .int
  | 10 => .int
  | 11 => .int
  | 12 => .int
  | _ => .int
abbrev wsX50 : List Cond := u_ws RX5 TX5 14
theorem nmX5 : ∀ a, a < 14 → ∀ b, b < 14 → a ≠ b → (TX5 a).2.1 ≠ (TX5 b).2.1 := by decide +kernel
theorem tyX5_ok : ∀ k, k < 14 → parseFieldDescriptor (TX5 k).2.2.1 = some (tyX5 k) := by decide +kernel
abbrev cX5_init : ByteArray := prog_1_method_1_code
def yX5_init : MethodName := ⟨RX5, "<init>", "()V"⟩
abbrev cX5_addShop : ByteArray := prog_1_method_2_code
def yX5_addShop : MethodName := ⟨RX5, "addShop", "(I)I"⟩
abbrev cX5_addItem : ByteArray := prog_1_method_3_code
def yX5_addItem : MethodName := ⟨RX5, "addItem", "(II)I"⟩
abbrev cX5_carry : ByteArray := prog_1_method_4_code
def yX5_carry : MethodName := ⟨RX5, "carry", "(IIII)I"⟩
abbrev cX5_carries : ByteArray := prog_1_method_5_code
def yX5_carries : MethodName := ⟨RX5, "carries", "(II)Z"⟩
abbrev cX5_supply : ByteArray := prog_1_method_6_code
def yX5_supply : MethodName := ⟨RX5, "supply", "(II)I"⟩
abbrev cX5_setService : ByteArray := prog_1_method_7_code
def yX5_setService : MethodName := ⟨RX5, "setService", "(I)I"⟩
abbrev cX5_setRates : ByteArray := prog_1_method_8_code
def yX5_setRates : MethodName := ⟨RX5, "setRates", "(II)I"⟩
abbrev cX5_mark : ByteArray := prog_1_method_9_code
def yX5_mark : MethodName := ⟨RX5, "mark", "(II)Z"⟩
abbrev cX5_isMarked : ByteArray := prog_1_method_10_code
def yX5_isMarked : MethodName := ⟨RX5, "isMarked", "(II)Z"⟩
abbrev cX5_demand : ByteArray := prog_1_method_11_code
def yX5_demand : MethodName := ⟨RX5, "demand", "(III)I"⟩
abbrev cX5_night : ByteArray := prog_1_method_12_code
def yX5_night : MethodName := ⟨RX5, "night", "()I"⟩
abbrev cX5_today : ByteArray := prog_1_method_13_code
def yX5_today : MethodName := ⟨RX5, "today", "()I"⟩
abbrev cX5_demandToday : ByteArray := prog_1_method_14_code
def yX5_demandToday : MethodName := ⟨RX5, "demandToday", "(II)I"⟩
abbrev cX5_level : ByteArray := prog_1_method_15_code
def yX5_level : MethodName := ⟨RX5, "level", "(II)I"⟩
abbrev cX5_levelByDays : ByteArray := prog_1_method_16_code
def yX5_levelByDays : MethodName := ⟨RX5, "levelByDays", "(II)I"⟩
abbrev cX5_season : ByteArray := prog_1_method_17_code
def yX5_season : MethodName := ⟨RX5, "season", "(III)I"⟩
abbrev cX5_forecast : ByteArray := prog_1_method_18_code
def yX5_forecast : MethodName := ⟨RX5, "forecast", "(III)I"⟩
abbrev cX5_errors : ByteArray := prog_1_method_19_code
def yX5_errors : MethodName := ⟨RX5, "errors", "(III)I"⟩
abbrev cX5_safety : ByteArray := prog_1_method_20_code
def yX5_safety : MethodName := ⟨RX5, "safety", "(II)I"⟩
abbrev cX5_stock : ByteArray := prog_1_method_21_code
def yX5_stock : MethodName := ⟨RX5, "stock", "(II)I"⟩
abbrev cX5_stockByJournal : ByteArray := prog_1_method_22_code
def yX5_stockByJournal : MethodName := ⟨RX5, "stockByJournal", "(II)I"⟩
abbrev cX5_onWay : ByteArray := prog_1_method_23_code
def yX5_onWay : MethodName := ⟨RX5, "onWay", "(II)I"⟩
abbrev cX5_nextArrival : ByteArray := prog_1_method_24_code
def yX5_nextArrival : MethodName := ⟨RX5, "nextArrival", "(II)I"⟩
abbrev cX5_need : ByteArray := prog_1_method_25_code
def yX5_need : MethodName := ⟨RX5, "need", "(II)I"⟩
abbrev cX5_request : ByteArray := prog_1_method_26_code
def yX5_request : MethodName := ⟨RX5, "request", "(II)I"⟩
abbrev cX5_share : ByteArray := prog_1_method_27_code
def yX5_share : MethodName := ⟨RX5, "share", "(II)I"⟩
abbrev cX5_shareByPacks : ByteArray := prog_1_method_28_code
def yX5_shareByPacks : MethodName := ⟨RX5, "shareByPacks", "(II)I"⟩
abbrev cX5_centre : ByteArray := prog_1_method_29_code
def yX5_centre : MethodName := ⟨RX5, "centre", "(I)I"⟩
abbrev cX5_centreByJournal : ByteArray := prog_1_method_30_code
def yX5_centreByJournal : MethodName := ⟨RX5, "centreByJournal", "(I)I"⟩
abbrev cX5_lost : ByteArray := prog_1_method_32_code
def yX5_lost : MethodName := ⟨RX5, "lost", "(II)I"⟩
abbrev cX5_units : ByteArray := prog_1_method_33_code
def yX5_units : MethodName := ⟨RX5, "units", "()J"⟩
abbrev cX5_isShop : ByteArray := prog_1_method_35_code
def yX5_isShop : MethodName := ⟨RX5, "isShop", "(I)Z"⟩
abbrev cX5_isItem : ByteArray := prog_1_method_36_code
def yX5_isItem : MethodName := ⟨RX5, "isItem", "(I)Z"⟩
abbrev cX5_requireShop : ByteArray := prog_1_method_37_code
def yX5_requireShop : MethodName := ⟨RX5, "requireShop", "(I)V"⟩
abbrev cX5_requireItem : ByteArray := prog_1_method_38_code
def yX5_requireItem : MethodName := ⟨RX5, "requireItem", "(I)LReplen$Item;"⟩
abbrev cX5_itemOrNull : ByteArray := prog_1_method_39_code
def yX5_itemOrNull : MethodName := ⟨RX5, "itemOrNull", "(I)LReplen$Item;"⟩
abbrev cX5_requireLine : ByteArray := prog_1_method_40_code
def yX5_requireLine : MethodName := ⟨RX5, "requireLine", "(II)LReplen$Line;"⟩
abbrev cX5_lineOrNull : ByteArray := prog_1_method_41_code
def yX5_lineOrNull : MethodName := ⟨RX5, "lineOrNull", "(II)LReplen$Line;"⟩
abbrev cX5_placeOf : ByteArray := prog_1_method_42_code
def yX5_placeOf : MethodName := ⟨RX5, "placeOf", "(II)I"⟩
abbrev cX5_leadOf : ByteArray := prog_1_method_43_code
def yX5_leadOf : MethodName := ⟨RX5, "leadOf", "(I)I"⟩
abbrev cX5_learnToday : ByteArray := prog_1_method_44_code
def yX5_learnToday : MethodName := ⟨RX5, "learnToday", "()V"⟩
abbrev cX5_receiveToday : ByteArray := prog_1_method_45_code
def yX5_receiveToday : MethodName := ⟨RX5, "receiveToday", "()V"⟩
abbrev cX5_askForAll : ByteArray := prog_1_method_46_code
def yX5_askForAll : MethodName := ⟨RX5, "askForAll", "(I)V"⟩
abbrev cX5_sendPacks : ByteArray := prog_1_method_47_code
def yX5_sendPacks : MethodName := ⟨RX5, "sendPacks", "(I)I"⟩
def RX6 : String := "ReplenModel"
def TX6 : u_T := fun k => match k with
  | _ => ("", "", "", false)
def tyX6 : Nat → FieldType := fun k => match k with
  | _ => .int
abbrev wsX60 : List Cond := u_ws RX6 TX6 0
theorem nmX6 : ∀ a, a < 0 → ∀ b, b < 0 → a ≠ b → (TX6 a).2.1 ≠ (TX6 b).2.1 := by decide +kernel
theorem tyX6_ok : ∀ k, k < 0 → parseFieldDescriptor (TX6 k).2.2.1 = some (tyX6 k) := by decide +kernel
def RJx145de : String := "java/io/Serializable"
def TJx145de : u_T := fun k => match k with
  | _ => ("", "", "", false)
def tyJx145de : Nat → FieldType := fun k => match k with
  | _ => .int
abbrev wsJx145de0 : List Cond := u_ws RJx145de TJx145de 0
theorem nmJx145de : ∀ a, a < 0 → ∀ b, b < 0 → a ≠ b → (TJx145de a).2.1 ≠ (TJx145de b).2.1 := by decide +kernel
theorem tyJx145de_ok : ∀ k, k < 0 → parseFieldDescriptor (TJx145de k).2.2.1 = some (tyJx145de k) := by decide +kernel
def RJ9 : String := "java/lang/Math"
def TJ9 : u_T := fun k => match k with
  | _ => ("", "", "", false)
def tyJ9 : Nat → FieldType := fun k => match k with
  | _ => .int
abbrev wsJ90 : List Cond := u_ws RJ9 TJ9 0
theorem nmJ9 : ∀ a, a < 0 → ∀ b, b < 0 → a ≠ b → (TJ9 a).2.1 ≠ (TJ9 b).2.1 := by decide +kernel
theorem tyJ9_ok : ∀ k, k < 0 → parseFieldDescriptor (TJ9 k).2.2.1 = some (tyJ9 k) := by decide +kernel
abbrev cJ9_floorDiv_f86c9 : ByteArray := prog_14_method_49_code
def yJ9_floorDiv_f86c9 : MethodName := ⟨RJ9, "floorDiv", "(JJ)J"⟩
abbrev cJ9_abs_0f7a4 : ByteArray := prog_14_method_59_code
def yJ9_abs_0f7a4 : MethodName := ⟨RJ9, "abs", "(I)I"⟩
abbrev cJ9_max_f86c9 : ByteArray := prog_14_method_66_code
def yJ9_max_f86c9 : MethodName := ⟨RJ9, "max", "(JJ)J"⟩
abbrev cJ9_min_7cf53 : ByteArray := prog_14_method_69_code
def yJ9_min_7cf53 : MethodName := ⟨RJ9, "min", "(II)I"⟩
abbrev cJ9_min_f86c9 : ByteArray := prog_14_method_70_code
def yJ9_min_f86c9 : MethodName := ⟨RJ9, "min", "(JJ)J"⟩
def RJ0 : String := "java/lang/String"
def TJ0 : u_T := fun k => match k with
  | _ => ("", "", "", false)
def tyJ0 : Nat → FieldType := fun k => match k with
  | _ => .int
abbrev wsJ00 : List Cond := u_ws RJ0 TJ0 0
theorem nmJ0 : ∀ a, a < 0 → ∀ b, b < 0 → a ≠ b → (TJ0 a).2.1 ≠ (TJ0 b).2.1 := by decide +kernel
theorem tyJ0_ok : ∀ k, k < 0 → parseFieldDescriptor (TJ0 k).2.2.1 = some (tyJ0 k) := by decide +kernel
def RL : String := "ReplenLaw"
abbrev cL_cell : ByteArray := method_2_code
def yL_cell : MethodName := ⟨RL, "cell", "([II)I"⟩
abbrev cL_pick : ByteArray := method_3_code
def yL_pick : MethodName := ⟨RL, "pick", "([III)I"⟩
abbrev cL_addShop : ByteArray := method_4_code
def yL_addShop : MethodName := ⟨RL, "addShop", "(LReplen;I)I"⟩
abbrev cL_addItem : ByteArray := method_5_code
def yL_addItem : MethodName := ⟨RL, "addItem", "(LReplen;II)I"⟩
abbrev cL_carry : ByteArray := method_6_code
def yL_carry : MethodName := ⟨RL, "carry", "(LReplen;IIII)I"⟩
abbrev cL_carries : ByteArray := method_7_code
def yL_carries : MethodName := ⟨RL, "carries", "(LReplen;II)I"⟩
abbrev cL_supply : ByteArray := method_8_code
def yL_supply : MethodName := ⟨RL, "supply", "(LReplen;II)I"⟩
abbrev cL_setService : ByteArray := method_9_code
def yL_setService : MethodName := ⟨RL, "setService", "(LReplen;I)I"⟩
abbrev cL_setRates : ByteArray := method_10_code
def yL_setRates : MethodName := ⟨RL, "setRates", "(LReplen;II)I"⟩
abbrev cL_mark : ByteArray := method_11_code
def yL_mark : MethodName := ⟨RL, "mark", "(LReplen;II)I"⟩
abbrev cL_isMarked : ByteArray := method_12_code
def yL_isMarked : MethodName := ⟨RL, "isMarked", "(LReplen;II)I"⟩
abbrev cL_demand : ByteArray := method_13_code
def yL_demand : MethodName := ⟨RL, "demand", "(LReplen;III)I"⟩
abbrev cL_night : ByteArray := method_14_code
def yL_night : MethodName := ⟨RL, "night", "(LReplen;)I"⟩
abbrev cL_demandToday : ByteArray := method_15_code
def yL_demandToday : MethodName := ⟨RL, "demandToday", "(LReplen;II)I"⟩
abbrev cL_level : ByteArray := method_16_code
def yL_level : MethodName := ⟨RL, "level", "(LReplen;II)I"⟩
abbrev cL_levelByDays : ByteArray := method_17_code
def yL_levelByDays : MethodName := ⟨RL, "levelByDays", "(LReplen;II)I"⟩
abbrev cL_season : ByteArray := method_18_code
def yL_season : MethodName := ⟨RL, "season", "(LReplen;III)I"⟩
abbrev cL_forecast : ByteArray := method_19_code
def yL_forecast : MethodName := ⟨RL, "forecast", "(LReplen;III)I"⟩
abbrev cL_errors : ByteArray := method_20_code
def yL_errors : MethodName := ⟨RL, "errors", "(LReplen;III)I"⟩
abbrev cL_safety : ByteArray := method_21_code
def yL_safety : MethodName := ⟨RL, "safety", "(LReplen;II)I"⟩
abbrev cL_stock : ByteArray := method_22_code
def yL_stock : MethodName := ⟨RL, "stock", "(LReplen;II)I"⟩
abbrev cL_stockByJournal : ByteArray := method_23_code
def yL_stockByJournal : MethodName := ⟨RL, "stockByJournal", "(LReplen;II)I"⟩
abbrev cL_onWay : ByteArray := method_24_code
def yL_onWay : MethodName := ⟨RL, "onWay", "(LReplen;II)I"⟩
abbrev cL_nextArrival : ByteArray := method_25_code
def yL_nextArrival : MethodName := ⟨RL, "nextArrival", "(LReplen;II)I"⟩
abbrev cL_need : ByteArray := method_26_code
def yL_need : MethodName := ⟨RL, "need", "(LReplen;II)I"⟩
abbrev cL_request : ByteArray := method_27_code
def yL_request : MethodName := ⟨RL, "request", "(LReplen;II)I"⟩
abbrev cL_share : ByteArray := method_28_code
def yL_share : MethodName := ⟨RL, "share", "(LReplen;II)I"⟩
abbrev cL_shareByPacks : ByteArray := method_29_code
def yL_shareByPacks : MethodName := ⟨RL, "shareByPacks", "(LReplen;II)I"⟩
abbrev cL_centre : ByteArray := method_30_code
def yL_centre : MethodName := ⟨RL, "centre", "(LReplen;I)I"⟩
abbrev cL_centreByJournal : ByteArray := method_31_code
def yL_centreByJournal : MethodName := ⟨RL, "centreByJournal", "(LReplen;I)I"⟩
abbrev cL_lost : ByteArray := method_32_code
def yL_lost : MethodName := ⟨RL, "lost", "(LReplen;II)I"⟩
abbrev cL_law : ByteArray := code
def yL_law : MethodName := ⟨RL, "law", "([I)Z"⟩
abbrev cL_sum : ByteArray := method_34_code
def yL_sum : MethodName := ⟨RL, "sum", "(LReplen;)J"⟩
abbrev cL_areEven : ByteArray := method_35_code
def yL_areEven : MethodName := ⟨RL, "areEven", "(LReplen;[II)Z"⟩
abbrev cL_areLines : ByteArray := method_36_code
def yL_areLines : MethodName := ⟨RL, "areLines", "(LReplen;[I[I[I)Z"⟩
abbrev cL_isLine : ByteArray := method_37_code
def yL_isLine : MethodName := ⟨RL, "isLine", "(LReplen;IIIII)Z"⟩
theorem inJx145de : ∀ w ∈ wsJx145de0, w ∈ lw_tbl := by decide +kernel
theorem inJ9 : ∀ w ∈ wsJ90, w ∈ lw_tbl := by decide +kernel
theorem inJ0 : ∀ w ∈ wsJ00, w ∈ lw_tbl := by decide +kernel
theorem dX0_init_0 : decode cX0_init 0 = .ok (.aload_n 0, 1) := by decide +kernel
theorem dX0_init_1 : decode cX0_init 1 = .ok (.invokespecial 3, 3) := by decide +kernel
theorem dX0_init_4 : decode cX0_init 4 = .ok (.aload_n 0, 1) := by decide +kernel
theorem dX0_init_5 : decode cX0_init 5 = .ok (.sipush 1005, 3) := by decide +kernel
theorem dX0_init_8 : decode cX0_init 8 = .ok (.newarray .int, 2) := by decide +kernel
theorem dX0_init_10 : decode cX0_init 10 = .ok (.putfield 9, 3) := by decide +kernel
theorem dX0_init_13 : decode cX0_init 13 = .ok (.return_, 1) := by decide +kernel
theorem dX0_on_0 : decode cX0_on 0 = .ok (.iload_n 1, 1) := by decide +kernel
theorem dX0_on_1 : decode cX0_on 1 = .ok (.ifCond .lt 21, 3) := by decide +kernel
theorem dX0_on_4 : decode cX0_on 4 = .ok (.iload_n 1, 1) := by decide +kernel
theorem dX0_on_5 : decode cX0_on 5 = .ok (.aload_n 0, 1) := by decide +kernel
theorem dX0_on_6 : decode cX0_on 6 = .ok (.getfield 9, 3) := by decide +kernel
theorem dX0_on_9 : decode cX0_on 9 = .ok (.arraylength, 1) := by decide +kernel
theorem dX0_on_10 : decode cX0_on 10 = .ok (.if_icmp .ge 12, 3) := by decide +kernel
theorem dX0_on_13 : decode cX0_on 13 = .ok (.aload_n 0, 1) := by decide +kernel
theorem dX0_on_14 : decode cX0_on 14 = .ok (.getfield 9, 3) := by decide +kernel
theorem dX0_on_17 : decode cX0_on 17 = .ok (.iload_n 1, 1) := by decide +kernel
theorem dX0_on_18 : decode cX0_on 18 = .ok (.iaload, 1) := by decide +kernel
theorem dX0_on_19 : decode cX0_on 19 = .ok (.goto 4, 3) := by decide +kernel
theorem dX0_on_22 : decode cX0_on 22 = .ok (.iconst 0, 1) := by decide +kernel
theorem dX0_on_23 : decode cX0_on 23 = .ok (.ireturn, 1) := by decide +kernel
theorem dX0_add_0 : decode cX0_add 0 = .ok (.iload_n 1, 1) := by decide +kernel
theorem dX0_add_1 : decode cX0_add 1 = .ok (.ifCond .lt 22, 3) := by decide +kernel
theorem dX0_add_4 : decode cX0_add 4 = .ok (.iload_n 1, 1) := by decide +kernel
theorem dX0_add_5 : decode cX0_add 5 = .ok (.aload_n 0, 1) := by decide +kernel
theorem dX0_add_6 : decode cX0_add 6 = .ok (.getfield 9, 3) := by decide +kernel
theorem dX0_add_9 : decode cX0_add 9 = .ok (.arraylength, 1) := by decide +kernel
theorem dX0_add_10 : decode cX0_add 10 = .ok (.if_icmp .ge 13, 3) := by decide +kernel
theorem dX0_add_13 : decode cX0_add 13 = .ok (.aload_n 0, 1) := by decide +kernel
theorem dX0_add_14 : decode cX0_add 14 = .ok (.getfield 9, 3) := by decide +kernel
theorem dX0_add_17 : decode cX0_add 17 = .ok (.iload_n 1, 1) := by decide +kernel
theorem dX0_add_18 : decode cX0_add 18 = .ok (.dup2, 1) := by decide +kernel
theorem dX0_add_19 : decode cX0_add 19 = .ok (.iaload, 1) := by decide +kernel
theorem dX0_add_20 : decode cX0_add 20 = .ok (.iload_n 2, 1) := by decide +kernel
theorem dX0_add_21 : decode cX0_add 21 = .ok (.iadd, 1) := by decide +kernel
theorem dX0_add_22 : decode cX0_add 22 = .ok (.iastore, 1) := by decide +kernel
theorem dX0_add_23 : decode cX0_add 23 = .ok (.return_, 1) := by decide +kernel
theorem dX0_sumUpTo_0 : decode cX0_sumUpTo 0 = .ok (.iconst 0, 1) := by decide +kernel
theorem dX0_sumUpTo_1 : decode cX0_sumUpTo 1 = .ok (.istore_n 2, 1) := by decide +kernel
theorem dX0_sumUpTo_2 : decode cX0_sumUpTo 2 = .ok (.iconst 0, 1) := by decide +kernel
theorem dX0_sumUpTo_3 : decode cX0_sumUpTo 3 = .ok (.istore_n 3, 1) := by decide +kernel
theorem dX0_sumUpTo_4 : decode cX0_sumUpTo 4 = .ok (.iload_n 3, 1) := by decide +kernel
theorem dX0_sumUpTo_5 : decode cX0_sumUpTo 5 = .ok (.iload_n 1, 1) := by decide +kernel
theorem dX0_sumUpTo_6 : decode cX0_sumUpTo 6 = .ok (.if_icmp .gt 27, 3) := by decide +kernel
theorem dX0_sumUpTo_9 : decode cX0_sumUpTo 9 = .ok (.iload_n 3, 1) := by decide +kernel
theorem dX0_sumUpTo_10 : decode cX0_sumUpTo 10 = .ok (.aload_n 0, 1) := by decide +kernel
theorem dX0_sumUpTo_11 : decode cX0_sumUpTo 11 = .ok (.getfield 9, 3) := by decide +kernel
theorem dX0_sumUpTo_14 : decode cX0_sumUpTo 14 = .ok (.arraylength, 1) := by decide +kernel
theorem dX0_sumUpTo_15 : decode cX0_sumUpTo 15 = .ok (.if_icmp .ge 18, 3) := by decide +kernel
theorem dX0_sumUpTo_18 : decode cX0_sumUpTo 18 = .ok (.iload_n 2, 1) := by decide +kernel
theorem dX0_sumUpTo_19 : decode cX0_sumUpTo 19 = .ok (.aload_n 0, 1) := by decide +kernel
theorem dX0_sumUpTo_20 : decode cX0_sumUpTo 20 = .ok (.getfield 9, 3) := by decide +kernel
theorem dX0_sumUpTo_23 : decode cX0_sumUpTo 23 = .ok (.iload_n 3, 1) := by decide +kernel
theorem dX0_sumUpTo_24 : decode cX0_sumUpTo 24 = .ok (.iaload, 1) := by decide +kernel
theorem dX0_sumUpTo_25 : decode cX0_sumUpTo 25 = .ok (.iadd, 1) := by decide +kernel
theorem dX0_sumUpTo_26 : decode cX0_sumUpTo 26 = .ok (.istore_n 2, 1) := by decide +kernel
theorem dX0_sumUpTo_27 : decode cX0_sumUpTo 27 = .ok (.iinc 3 1, 3) := by decide +kernel
theorem dX0_sumUpTo_30 : decode cX0_sumUpTo 30 = .ok (.goto (-26), 3) := by decide +kernel
theorem dX0_sumUpTo_33 : decode cX0_sumUpTo 33 = .ok (.iload_n 2, 1) := by decide +kernel
theorem dX0_sumUpTo_34 : decode cX0_sumUpTo 34 = .ok (.ireturn, 1) := by decide +kernel
theorem dX1_init_0 : decode cX1_init 0 = .ok (.aload_n 0, 1) := by decide +kernel
theorem dX1_init_1 : decode cX1_init 1 = .ok (.invokespecial 1, 3) := by decide +kernel
theorem dX1_init_4 : decode cX1_init 4 = .ok (.aload_n 0, 1) := by decide +kernel
theorem dX1_init_5 : decode cX1_init 5 = .ok (.new 7, 3) := by decide +kernel
theorem dX1_init_8 : decode cX1_init 8 = .ok (.dup, 1) := by decide +kernel
theorem dX1_init_9 : decode cX1_init 9 = .ok (.invokespecial 9, 3) := by decide +kernel
theorem dX1_init_12 : decode cX1_init 12 = .ok (.putfield 10, 3) := by decide +kernel
theorem dX1_init_15 : decode cX1_init 15 = .ok (.aload_n 0, 1) := by decide +kernel
theorem dX1_init_16 : decode cX1_init 16 = .ok (.new 7, 3) := by decide +kernel
theorem dX1_init_19 : decode cX1_init 19 = .ok (.dup, 1) := by decide +kernel
theorem dX1_init_20 : decode cX1_init 20 = .ok (.invokespecial 9, 3) := by decide +kernel
theorem dX1_init_23 : decode cX1_init 23 = .ok (.putfield 16, 3) := by decide +kernel
theorem dX1_init_26 : decode cX1_init 26 = .ok (.aload_n 0, 1) := by decide +kernel
theorem dX1_init_27 : decode cX1_init 27 = .ok (.new 7, 3) := by decide +kernel
theorem dX1_init_30 : decode cX1_init 30 = .ok (.dup, 1) := by decide +kernel
theorem dX1_init_31 : decode cX1_init 31 = .ok (.invokespecial 9, 3) := by decide +kernel
theorem dX1_init_34 : decode cX1_init 34 = .ok (.putfield 19, 3) := by decide +kernel
theorem dX1_init_37 : decode cX1_init 37 = .ok (.aload_n 0, 1) := by decide +kernel
theorem dX1_init_38 : decode cX1_init 38 = .ok (.iload_n 1, 1) := by decide +kernel
theorem dX1_init_39 : decode cX1_init 39 = .ok (.putfield 22, 3) := by decide +kernel
theorem dX1_init_42 : decode cX1_init 42 = .ok (.aload_n 0, 1) := by decide +kernel
theorem dX1_init_43 : decode cX1_init 43 = .ok (.iload_n 2, 1) := by decide +kernel
theorem dX1_init_44 : decode cX1_init 44 = .ok (.putfield 26, 3) := by decide +kernel
theorem dX1_init_47 : decode cX1_init 47 = .ok (.aload_n 0, 1) := by decide +kernel
theorem dX1_init_48 : decode cX1_init 48 = .ok (.iload_n 2, 1) := by decide +kernel
theorem dX1_init_49 : decode cX1_init 49 = .ok (.putfield 29, 3) := by decide +kernel
theorem dX1_init_52 : decode cX1_init 52 = .ok (.return_, 1) := by decide +kernel
theorem dX1_hasPromotion_0 : decode cX1_hasPromotion 0 = .ok (.aload_n 0, 1) := by decide +kernel
theorem dX1_hasPromotion_1 : decode cX1_hasPromotion 1 = .ok (.getfield 19, 3) := by decide +kernel
theorem dX1_hasPromotion_4 : decode cX1_hasPromotion 4 = .ok (.iload_n 1, 1) := by decide +kernel
theorem dX1_hasPromotion_5 : decode cX1_hasPromotion 5 = .ok (.invokevirtual 32, 3) := by decide +kernel
theorem dX1_hasPromotion_8 : decode cX1_hasPromotion 8 = .ok (.ifCond .le 7, 3) := by decide +kernel
theorem dX1_hasPromotion_11 : decode cX1_hasPromotion 11 = .ok (.iconst 1, 1) := by decide +kernel
theorem dX1_hasPromotion_12 : decode cX1_hasPromotion 12 = .ok (.goto 4, 3) := by decide +kernel
theorem dX1_hasPromotion_15 : decode cX1_hasPromotion 15 = .ok (.iconst 0, 1) := by decide +kernel
theorem dX1_hasPromotion_16 : decode cX1_hasPromotion 16 = .ok (.ireturn, 1) := by decide +kernel
theorem dX1_takeIn_0 : decode cX1_takeIn 0 = .ok (.aload_n 0, 1) := by decide +kernel
theorem dX1_takeIn_1 : decode cX1_takeIn 1 = .ok (.getfield 10, 3) := by decide +kernel
theorem dX1_takeIn_4 : decode cX1_takeIn 4 = .ok (.iload_n 1, 1) := by decide +kernel
theorem dX1_takeIn_5 : decode cX1_takeIn 5 = .ok (.iload_n 2, 1) := by decide +kernel
theorem dX1_takeIn_6 : decode cX1_takeIn 6 = .ok (.invokevirtual 36, 3) := by decide +kernel
theorem dX1_takeIn_9 : decode cX1_takeIn 9 = .ok (.aload_n 0, 1) := by decide +kernel
theorem dX1_takeIn_10 : decode cX1_takeIn 10 = .ok (.dup, 1) := by decide +kernel
theorem dX1_takeIn_11 : decode cX1_takeIn 11 = .ok (.getfield 29, 3) := by decide +kernel
theorem dX1_takeIn_14 : decode cX1_takeIn 14 = .ok (.iload_n 2, 1) := by decide +kernel
theorem dX1_takeIn_15 : decode cX1_takeIn 15 = .ok (.iadd, 1) := by decide +kernel
theorem dX1_takeIn_16 : decode cX1_takeIn 16 = .ok (.putfield 29, 3) := by decide +kernel
theorem dX1_takeIn_19 : decode cX1_takeIn 19 = .ok (.return_, 1) := by decide +kernel
theorem dX1_giveOut_0 : decode cX1_giveOut 0 = .ok (.aload_n 0, 1) := by decide +kernel
theorem dX1_giveOut_1 : decode cX1_giveOut 1 = .ok (.getfield 16, 3) := by decide +kernel
theorem dX1_giveOut_4 : decode cX1_giveOut 4 = .ok (.iload_n 1, 1) := by decide +kernel
theorem dX1_giveOut_5 : decode cX1_giveOut 5 = .ok (.iload_n 2, 1) := by decide +kernel
theorem dX1_giveOut_6 : decode cX1_giveOut 6 = .ok (.invokevirtual 36, 3) := by decide +kernel
theorem dX1_giveOut_9 : decode cX1_giveOut 9 = .ok (.aload_n 0, 1) := by decide +kernel
theorem dX1_giveOut_10 : decode cX1_giveOut 10 = .ok (.dup, 1) := by decide +kernel
theorem dX1_giveOut_11 : decode cX1_giveOut 11 = .ok (.getfield 29, 3) := by decide +kernel
theorem dX1_giveOut_14 : decode cX1_giveOut 14 = .ok (.iload_n 2, 1) := by decide +kernel
theorem dX1_giveOut_15 : decode cX1_giveOut 15 = .ok (.isub, 1) := by decide +kernel
theorem dX1_giveOut_16 : decode cX1_giveOut 16 = .ok (.putfield 29, 3) := by decide +kernel
theorem dX1_giveOut_19 : decode cX1_giveOut 19 = .ok (.return_, 1) := by decide +kernel
theorem dX1_wholePacks_0 : decode cX1_wholePacks 0 = .ok (.aload_n 0, 1) := by decide +kernel
theorem dX1_wholePacks_1 : decode cX1_wholePacks 1 = .ok (.getfield 22, 3) := by decide +kernel
theorem dX1_wholePacks_4 : decode cX1_wholePacks 4 = .ok (.ifCond .le 15, 3) := by decide +kernel
theorem dX1_wholePacks_7 : decode cX1_wholePacks 7 = .ok (.aload_n 0, 1) := by decide +kernel
theorem dX1_wholePacks_8 : decode cX1_wholePacks 8 = .ok (.getfield 29, 3) := by decide +kernel
theorem dX1_wholePacks_11 : decode cX1_wholePacks 11 = .ok (.aload_n 0, 1) := by decide +kernel
theorem dX1_wholePacks_12 : decode cX1_wholePacks 12 = .ok (.getfield 22, 3) := by decide +kernel
theorem dX1_wholePacks_15 : decode cX1_wholePacks 15 = .ok (.idiv, 1) := by decide +kernel
theorem dX1_wholePacks_16 : decode cX1_wholePacks 16 = .ok (.goto 4, 3) := by decide +kernel
theorem dX1_wholePacks_19 : decode cX1_wholePacks 19 = .ok (.iconst 0, 1) := by decide +kernel
theorem dX1_wholePacks_20 : decode cX1_wholePacks 20 = .ok (.ireturn, 1) := by decide +kernel
theorem dX1_packsFor_0 : decode cX1_packsFor 0 = .ok (.iload_n 1, 1) := by decide +kernel
theorem dX1_packsFor_1 : decode cX1_packsFor 1 = .ok (.ifCond .le 26, 3) := by decide +kernel
theorem dX1_packsFor_4 : decode cX1_packsFor 4 = .ok (.aload_n 0, 1) := by decide +kernel
theorem dX1_packsFor_5 : decode cX1_packsFor 5 = .ok (.getfield 22, 3) := by decide +kernel
theorem dX1_packsFor_8 : decode cX1_packsFor 8 = .ok (.ifCond .le 19, 3) := by decide +kernel
theorem dX1_packsFor_11 : decode cX1_packsFor 11 = .ok (.iload_n 1, 1) := by decide +kernel
theorem dX1_packsFor_12 : decode cX1_packsFor 12 = .ok (.aload_n 0, 1) := by decide +kernel
theorem dX1_packsFor_13 : decode cX1_packsFor 13 = .ok (.getfield 22, 3) := by decide +kernel
theorem dX1_packsFor_16 : decode cX1_packsFor 16 = .ok (.iadd, 1) := by decide +kernel
theorem dX1_packsFor_17 : decode cX1_packsFor 17 = .ok (.iconst 1, 1) := by decide +kernel
theorem dX1_packsFor_18 : decode cX1_packsFor 18 = .ok (.isub, 1) := by decide +kernel
theorem dX1_packsFor_19 : decode cX1_packsFor 19 = .ok (.aload_n 0, 1) := by decide +kernel
theorem dX1_packsFor_20 : decode cX1_packsFor 20 = .ok (.getfield 22, 3) := by decide +kernel
theorem dX1_packsFor_23 : decode cX1_packsFor 23 = .ok (.idiv, 1) := by decide +kernel
theorem dX1_packsFor_24 : decode cX1_packsFor 24 = .ok (.goto 4, 3) := by decide +kernel
theorem dX1_packsFor_27 : decode cX1_packsFor 27 = .ok (.iconst 0, 1) := by decide +kernel
theorem dX1_packsFor_28 : decode cX1_packsFor 28 = .ok (.ireturn, 1) := by decide +kernel
theorem dX1_journalStock_0 : decode cX1_journalStock 0 = .ok (.aload_n 0, 1) := by decide +kernel
theorem dX1_journalStock_1 : decode cX1_journalStock 1 = .ok (.getfield 26, 3) := by decide +kernel
theorem dX1_journalStock_4 : decode cX1_journalStock 4 = .ok (.aload_n 0, 1) := by decide +kernel
theorem dX1_journalStock_5 : decode cX1_journalStock 5 = .ok (.getfield 10, 3) := by decide +kernel
theorem dX1_journalStock_8 : decode cX1_journalStock 8 = .ok (.iload_n 1, 1) := by decide +kernel
theorem dX1_journalStock_9 : decode cX1_journalStock 9 = .ok (.invokevirtual 40, 3) := by decide +kernel
theorem dX1_journalStock_12 : decode cX1_journalStock 12 = .ok (.iadd, 1) := by decide +kernel
theorem dX1_journalStock_13 : decode cX1_journalStock 13 = .ok (.aload_n 0, 1) := by decide +kernel
theorem dX1_journalStock_14 : decode cX1_journalStock 14 = .ok (.getfield 16, 3) := by decide +kernel
theorem dX1_journalStock_17 : decode cX1_journalStock 17 = .ok (.iload_n 1, 1) := by decide +kernel
theorem dX1_journalStock_18 : decode cX1_journalStock 18 = .ok (.invokevirtual 40, 3) := by decide +kernel
theorem dX1_journalStock_21 : decode cX1_journalStock 21 = .ok (.isub, 1) := by decide +kernel
theorem dX1_journalStock_22 : decode cX1_journalStock 22 = .ok (.ireturn, 1) := by decide +kernel
theorem dX2_init_0 : decode cX2_init 0 = .ok (.aload_n 0, 1) := by decide +kernel
theorem dX2_init_1 : decode cX2_init 1 = .ok (.invokespecial 3, 3) := by decide +kernel
theorem dX2_init_4 : decode cX2_init 4 = .ok (.aload_n 0, 1) := by decide +kernel
theorem dX2_init_5 : decode cX2_init 5 = .ok (.bipush 7, 2) := by decide +kernel
theorem dX2_init_7 : decode cX2_init 7 = .ok (.newarray .int, 2) := by decide +kernel
theorem dX2_init_9 : decode cX2_init 9 = .ok (.putfield 9, 3) := by decide +kernel
theorem dX2_init_12 : decode cX2_init 12 = .ok (.aload_n 0, 1) := by decide +kernel
theorem dX2_init_13 : decode cX2_init 13 = .ok (.iconst 0, 1) := by decide +kernel
theorem dX2_init_14 : decode cX2_init 14 = .ok (.putfield 15, 3) := by decide +kernel
theorem dX2_init_17 : decode cX2_init 17 = .ok (.return_, 1) := by decide +kernel
theorem dX2_start_0 : decode cX2_start 0 = .ok (.aload_n 0, 1) := by decide +kernel
theorem dX2_start_1 : decode cX2_start 1 = .ok (.iload_n 1, 1) := by decide +kernel
theorem dX2_start_2 : decode cX2_start 2 = .ok (.putfield 15, 3) := by decide +kernel
theorem dX2_start_5 : decode cX2_start 5 = .ok (.iconst 0, 1) := by decide +kernel
theorem dX2_start_6 : decode cX2_start 6 = .ok (.istore_n 2, 1) := by decide +kernel
theorem dX2_start_7 : decode cX2_start 7 = .ok (.iload_n 2, 1) := by decide +kernel
theorem dX2_start_8 : decode cX2_start 8 = .ok (.aload_n 0, 1) := by decide +kernel
theorem dX2_start_9 : decode cX2_start 9 = .ok (.getfield 9, 3) := by decide +kernel
theorem dX2_start_12 : decode cX2_start 12 = .ok (.arraylength, 1) := by decide +kernel
theorem dX2_start_13 : decode cX2_start 13 = .ok (.if_icmp .ge 18, 3) := by decide +kernel
theorem dX2_start_16 : decode cX2_start 16 = .ok (.aload_n 0, 1) := by decide +kernel
theorem dX2_start_17 : decode cX2_start 17 = .ok (.getfield 9, 3) := by decide +kernel
theorem dX2_start_20 : decode cX2_start 20 = .ok (.iload_n 2, 1) := by decide +kernel
theorem dX2_start_21 : decode cX2_start 21 = .ok (.sipush 1000, 3) := by decide +kernel
theorem dX2_start_24 : decode cX2_start 24 = .ok (.iastore, 1) := by decide +kernel
theorem dX2_start_25 : decode cX2_start 25 = .ok (.iinc 2 1, 3) := by decide +kernel
theorem dX2_start_28 : decode cX2_start 28 = .ok (.goto (-21), 3) := by decide +kernel
theorem dX2_start_31 : decode cX2_start 31 = .ok (.return_, 1) := by decide +kernel
theorem dX2_seasonOf_0 : decode cX2_seasonOf 0 = .ok (.iload_n 1, 1) := by decide +kernel
theorem dX2_seasonOf_1 : decode cX2_seasonOf 1 = .ok (.ifCond .lt 21, 3) := by decide +kernel
theorem dX2_seasonOf_4 : decode cX2_seasonOf 4 = .ok (.iload_n 1, 1) := by decide +kernel
theorem dX2_seasonOf_5 : decode cX2_seasonOf 5 = .ok (.aload_n 0, 1) := by decide +kernel
theorem dX2_seasonOf_6 : decode cX2_seasonOf 6 = .ok (.getfield 9, 3) := by decide +kernel
theorem dX2_seasonOf_9 : decode cX2_seasonOf 9 = .ok (.arraylength, 1) := by decide +kernel
theorem dX2_seasonOf_10 : decode cX2_seasonOf 10 = .ok (.if_icmp .ge 12, 3) := by decide +kernel
theorem dX2_seasonOf_13 : decode cX2_seasonOf 13 = .ok (.aload_n 0, 1) := by decide +kernel
theorem dX2_seasonOf_14 : decode cX2_seasonOf 14 = .ok (.getfield 9, 3) := by decide +kernel
theorem dX2_seasonOf_17 : decode cX2_seasonOf 17 = .ok (.iload_n 1, 1) := by decide +kernel
theorem dX2_seasonOf_18 : decode cX2_seasonOf 18 = .ok (.iaload, 1) := by decide +kernel
theorem dX2_seasonOf_19 : decode cX2_seasonOf 19 = .ok (.goto 6, 3) := by decide +kernel
theorem dX2_seasonOf_22 : decode cX2_seasonOf 22 = .ok (.sipush 1000, 3) := by decide +kernel
theorem dX2_seasonOf_25 : decode cX2_seasonOf 25 = .ok (.ireturn, 1) := by decide +kernel
theorem dX2_thousandthsFor_0 : decode cX2_thousandthsFor 0 = .ok (.aload_n 0, 1) := by decide +kernel
theorem dX2_thousandthsFor_1 : decode cX2_thousandthsFor 1 = .ok (.getfield 15, 3) := by decide +kernel
theorem dX2_thousandthsFor_4 : decode cX2_thousandthsFor 4 = .ok (.i2l, 1) := by decide +kernel
theorem dX2_thousandthsFor_5 : decode cX2_thousandthsFor 5 = .ok (.aload_n 0, 1) := by decide +kernel
theorem dX2_thousandthsFor_6 : decode cX2_thousandthsFor 6 = .ok (.iload_n 1, 1) := by decide +kernel
theorem dX2_thousandthsFor_7 : decode cX2_thousandthsFor 7 = .ok (.bipush 7, 2) := by decide +kernel
theorem dX2_thousandthsFor_9 : decode cX2_thousandthsFor 9 = .ok (.irem, 1) := by decide +kernel
theorem dX2_thousandthsFor_10 : decode cX2_thousandthsFor 10 = .ok (.invokevirtual 19, 3) := by decide +kernel
theorem dX2_thousandthsFor_13 : decode cX2_thousandthsFor 13 = .ok (.i2l, 1) := by decide +kernel
theorem dX2_thousandthsFor_14 : decode cX2_thousandthsFor 14 = .ok (.lmul, 1) := by decide +kernel
theorem dX2_thousandthsFor_15 : decode cX2_thousandthsFor 15 = .ok (.ldc2_w 23, 3) := by decide +kernel
theorem dX2_thousandthsFor_18 : decode cX2_thousandthsFor 18 = .ok (.ldiv, 1) := by decide +kernel
theorem dX2_thousandthsFor_19 : decode cX2_thousandthsFor 19 = .ok (.l2i, 1) := by decide +kernel
theorem dX2_thousandthsFor_20 : decode cX2_thousandthsFor 20 = .ok (.ireturn, 1) := by decide +kernel
theorem dX2_unitsFor_0 : decode cX2_unitsFor 0 = .ok (.aload_n 0, 1) := by decide +kernel
theorem dX2_unitsFor_1 : decode cX2_unitsFor 1 = .ok (.iload_n 1, 1) := by decide +kernel
theorem dX2_unitsFor_2 : decode cX2_unitsFor 2 = .ok (.invokevirtual 25, 3) := by decide +kernel
theorem dX2_unitsFor_5 : decode cX2_unitsFor 5 = .ok (.sipush 500, 3) := by decide +kernel
theorem dX2_unitsFor_8 : decode cX2_unitsFor 8 = .ok (.iadd, 1) := by decide +kernel
theorem dX2_unitsFor_9 : decode cX2_unitsFor 9 = .ok (.sipush 1000, 3) := by decide +kernel
theorem dX2_unitsFor_12 : decode cX2_unitsFor 12 = .ok (.idiv, 1) := by decide +kernel
theorem dX2_unitsFor_13 : decode cX2_unitsFor 13 = .ok (.ireturn, 1) := by decide +kernel
theorem dX2_learn_0 : decode cX2_learn 0 = .ok (.iload_n 1, 1) := by decide +kernel
theorem dX2_learn_1 : decode cX2_learn 1 = .ok (.bipush 7, 2) := by decide +kernel
theorem dX2_learn_3 : decode cX2_learn 3 = .ok (.irem, 1) := by decide +kernel
theorem dX2_learn_4 : decode cX2_learn 4 = .ok (.istore 5, 2) := by decide +kernel
theorem dX2_learn_6 : decode cX2_learn 6 = .ok (.aload_n 0, 1) := by decide +kernel
theorem dX2_learn_7 : decode cX2_learn 7 = .ok (.iload 5, 2) := by decide +kernel
theorem dX2_learn_9 : decode cX2_learn 9 = .ok (.invokevirtual 19, 3) := by decide +kernel
theorem dX2_learn_12 : decode cX2_learn 12 = .ok (.istore 6, 2) := by decide +kernel
theorem dX2_learn_14 : decode cX2_learn 14 = .ok (.iload 5, 2) := by decide +kernel
theorem dX2_learn_16 : decode cX2_learn 16 = .ok (.ifCond .lt 18, 3) := by decide +kernel
theorem dX2_learn_19 : decode cX2_learn 19 = .ok (.iload 5, 2) := by decide +kernel
theorem dX2_learn_21 : decode cX2_learn 21 = .ok (.aload_n 0, 1) := by decide +kernel
theorem dX2_learn_22 : decode cX2_learn 22 = .ok (.getfield 9, 3) := by decide +kernel
theorem dX2_learn_25 : decode cX2_learn 25 = .ok (.arraylength, 1) := by decide +kernel
theorem dX2_learn_26 : decode cX2_learn 26 = .ok (.if_icmp .ge 8, 3) := by decide +kernel
theorem dX2_learn_29 : decode cX2_learn 29 = .ok (.iload 6, 2) := by decide +kernel
theorem dX2_learn_31 : decode cX2_learn 31 = .ok (.ifCond .gt 4, 3) := by decide +kernel
theorem dX2_learn_34 : decode cX2_learn 34 = .ok (.return_, 1) := by decide +kernel
theorem dX2_learn_35 : decode cX2_learn 35 = .ok (.iload_n 2, 1) := by decide +kernel
theorem dX2_learn_36 : decode cX2_learn 36 = .ok (.i2l, 1) := by decide +kernel
theorem dX2_learn_37 : decode cX2_learn 37 = .ok (.ldc2_w 28, 3) := by decide +kernel
theorem dX2_learn_40 : decode cX2_learn 40 = .ok (.lmul, 1) := by decide +kernel
theorem dX2_learn_41 : decode cX2_learn 41 = .ok (.lstore 7, 2) := by decide +kernel
theorem dX2_learn_43 : decode cX2_learn 43 = .ok (.aload_n 0, 1) := by decide +kernel
theorem dX2_learn_44 : decode cX2_learn 44 = .ok (.dup, 1) := by decide +kernel
theorem dX2_learn_45 : decode cX2_learn 45 = .ok (.getfield 15, 3) := by decide +kernel
theorem dX2_learn_48 : decode cX2_learn 48 = .ok (.iload_n 3, 1) := by decide +kernel
theorem dX2_learn_49 : decode cX2_learn 49 = .ok (.i2l, 1) := by decide +kernel
theorem dX2_learn_50 : decode cX2_learn 50 = .ok (.lload 7, 2) := by decide +kernel
theorem dX2_learn_52 : decode cX2_learn 52 = .ok (.iload 6, 2) := by decide +kernel
theorem dX2_learn_54 : decode cX2_learn 54 = .ok (.i2l, 1) := by decide +kernel
theorem dX2_learn_55 : decode cX2_learn 55 = .ok (.ldiv, 1) := by decide +kernel
theorem dX2_learn_56 : decode cX2_learn 56 = .ok (.aload_n 0, 1) := by decide +kernel
theorem dX2_learn_57 : decode cX2_learn 57 = .ok (.getfield 15, 3) := by decide +kernel
theorem dX2_learn_60 : decode cX2_learn 60 = .ok (.i2l, 1) := by decide +kernel
theorem dX2_learn_61 : decode cX2_learn 61 = .ok (.lsub, 1) := by decide +kernel
theorem dX2_learn_62 : decode cX2_learn 62 = .ok (.lmul, 1) := by decide +kernel
theorem dX2_learn_63 : decode cX2_learn 63 = .ok (.ldc2_w 30, 3) := by decide +kernel
theorem dX2_learn_66 : decode cX2_learn 66 = .ok (.invokestatic 32, 3) := by decide +kernel
theorem dX2_learn_69 : decode cX2_learn 69 = .ok (.l2i, 1) := by decide +kernel
theorem dX2_learn_70 : decode cX2_learn 70 = .ok (.iadd, 1) := by decide +kernel
theorem dX2_learn_71 : decode cX2_learn 71 = .ok (.putfield 15, 3) := by decide +kernel
theorem dX2_learn_74 : decode cX2_learn 74 = .ok (.aload_n 0, 1) := by decide +kernel
theorem dX2_learn_75 : decode cX2_learn 75 = .ok (.getfield 15, 3) := by decide +kernel
theorem dX2_learn_78 : decode cX2_learn 78 = .ok (.ifCond .le 53, 3) := by decide +kernel
theorem dX2_learn_81 : decode cX2_learn 81 = .ok (.iload 6, 2) := by decide +kernel
theorem dX2_learn_83 : decode cX2_learn 83 = .ok (.i2l, 1) := by decide +kernel
theorem dX2_learn_84 : decode cX2_learn 84 = .ok (.iload 4, 2) := by decide +kernel
theorem dX2_learn_86 : decode cX2_learn 86 = .ok (.i2l, 1) := by decide +kernel
theorem dX2_learn_87 : decode cX2_learn 87 = .ok (.lload 7, 2) := by decide +kernel
theorem dX2_learn_89 : decode cX2_learn 89 = .ok (.aload_n 0, 1) := by decide +kernel
theorem dX2_learn_90 : decode cX2_learn 90 = .ok (.getfield 15, 3) := by decide +kernel
theorem dX2_learn_93 : decode cX2_learn 93 = .ok (.i2l, 1) := by decide +kernel
theorem dX2_learn_94 : decode cX2_learn 94 = .ok (.ldiv, 1) := by decide +kernel
theorem dX2_learn_95 : decode cX2_learn 95 = .ok (.iload 6, 2) := by decide +kernel
theorem dX2_learn_97 : decode cX2_learn 97 = .ok (.i2l, 1) := by decide +kernel
theorem dX2_learn_98 : decode cX2_learn 98 = .ok (.lsub, 1) := by decide +kernel
theorem dX2_learn_99 : decode cX2_learn 99 = .ok (.lmul, 1) := by decide +kernel
theorem dX2_learn_100 : decode cX2_learn 100 = .ok (.ldc2_w 30, 3) := by decide +kernel
theorem dX2_learn_103 : decode cX2_learn 103 = .ok (.invokestatic 32, 3) := by decide +kernel
theorem dX2_learn_106 : decode cX2_learn 106 = .ok (.ladd, 1) := by decide +kernel
theorem dX2_learn_107 : decode cX2_learn 107 = .ok (.lstore 9, 2) := by decide +kernel
theorem dX2_learn_109 : decode cX2_learn 109 = .ok (.aload_n 0, 1) := by decide +kernel
theorem dX2_learn_110 : decode cX2_learn 110 = .ok (.getfield 9, 3) := by decide +kernel
theorem dX2_learn_113 : decode cX2_learn 113 = .ok (.iload 5, 2) := by decide +kernel
theorem dX2_learn_115 : decode cX2_learn 115 = .ok (.ldc2_w 30, 3) := by decide +kernel
theorem dX2_learn_118 : decode cX2_learn 118 = .ok (.ldc2_w 38, 3) := by decide +kernel
theorem dX2_learn_121 : decode cX2_learn 121 = .ok (.lload 9, 2) := by decide +kernel
theorem dX2_learn_123 : decode cX2_learn 123 = .ok (.invokestatic 40, 3) := by decide +kernel
theorem dX2_learn_126 : decode cX2_learn 126 = .ok (.invokestatic 43, 3) := by decide +kernel
theorem dX2_learn_129 : decode cX2_learn 129 = .ok (.l2i, 1) := by decide +kernel
theorem dX2_learn_130 : decode cX2_learn 130 = .ok (.iastore, 1) := by decide +kernel
theorem dX2_learn_131 : decode cX2_learn 131 = .ok (.return_, 1) := by decide +kernel
theorem dX3_init_0 : decode cX3_init 0 = .ok (.aload_n 0, 1) := by decide +kernel
theorem dX3_init_1 : decode cX3_init 1 = .ok (.invokespecial 3, 3) := by decide +kernel
theorem dX3_init_4 : decode cX3_init 4 = .ok (.aload_n 0, 1) := by decide +kernel
theorem dX3_init_5 : decode cX3_init 5 = .ok (.new 9, 3) := by decide +kernel
theorem dX3_init_8 : decode cX3_init 8 = .ok (.dup, 1) := by decide +kernel
theorem dX3_init_9 : decode cX3_init 9 = .ok (.invokespecial 11, 3) := by decide +kernel
theorem dX3_init_12 : decode cX3_init 12 = .ok (.putfield 12, 3) := by decide +kernel
theorem dX3_init_15 : decode cX3_init 15 = .ok (.aload_n 0, 1) := by decide +kernel
theorem dX3_init_16 : decode cX3_init 16 = .ok (.bipush 21, 2) := by decide +kernel
theorem dX3_init_18 : decode cX3_init 18 = .ok (.newarray .int, 2) := by decide +kernel
theorem dX3_init_20 : decode cX3_init 20 = .ok (.putfield 18, 3) := by decide +kernel
theorem dX3_init_23 : decode cX3_init 23 = .ok (.aload_n 0, 1) := by decide +kernel
theorem dX3_init_24 : decode cX3_init 24 = .ok (.new 22, 3) := by decide +kernel
theorem dX3_init_27 : decode cX3_init 27 = .ok (.dup, 1) := by decide +kernel
theorem dX3_init_28 : decode cX3_init 28 = .ok (.invokespecial 24, 3) := by decide +kernel
theorem dX3_init_31 : decode cX3_init 31 = .ok (.putfield 25, 3) := by decide +kernel
theorem dX3_init_34 : decode cX3_init 34 = .ok (.aload_n 0, 1) := by decide +kernel
theorem dX3_init_35 : decode cX3_init 35 = .ok (.new 22, 3) := by decide +kernel
theorem dX3_init_38 : decode cX3_init 38 = .ok (.dup, 1) := by decide +kernel
theorem dX3_init_39 : decode cX3_init 39 = .ok (.invokespecial 24, 3) := by decide +kernel
theorem dX3_init_42 : decode cX3_init 42 = .ok (.putfield 29, 3) := by decide +kernel
theorem dX3_init_45 : decode cX3_init 45 = .ok (.aload_n 0, 1) := by decide +kernel
theorem dX3_init_46 : decode cX3_init 46 = .ok (.new 22, 3) := by decide +kernel
theorem dX3_init_49 : decode cX3_init 49 = .ok (.dup, 1) := by decide +kernel
theorem dX3_init_50 : decode cX3_init 50 = .ok (.invokespecial 24, 3) := by decide +kernel
theorem dX3_init_53 : decode cX3_init 53 = .ok (.putfield 32, 3) := by decide +kernel
theorem dX3_init_56 : decode cX3_init 56 = .ok (.aload_n 0, 1) := by decide +kernel
theorem dX3_init_57 : decode cX3_init 57 = .ok (.iconst 0, 1) := by decide +kernel
theorem dX3_init_58 : decode cX3_init 58 = .ok (.putfield 35, 3) := by decide +kernel
theorem dX3_init_61 : decode cX3_init 61 = .ok (.aload_n 0, 1) := by decide +kernel
theorem dX3_init_62 : decode cX3_init 62 = .ok (.iconst 0, 1) := by decide +kernel
theorem dX3_init_63 : decode cX3_init 63 = .ok (.putfield 39, 3) := by decide +kernel
theorem dX3_init_66 : decode cX3_init 66 = .ok (.aload_n 0, 1) := by decide +kernel
theorem dX3_init_67 : decode cX3_init 67 = .ok (.iconst 0, 1) := by decide +kernel
theorem dX3_init_68 : decode cX3_init 68 = .ok (.putfield 42, 3) := by decide +kernel
theorem dX3_init_71 : decode cX3_init 71 = .ok (.aload_n 0, 1) := by decide +kernel
theorem dX3_init_72 : decode cX3_init 72 = .ok (.aload_n 1, 1) := by decide +kernel
theorem dX3_init_73 : decode cX3_init 73 = .ok (.putfield 45, 3) := by decide +kernel
theorem dX3_init_76 : decode cX3_init 76 = .ok (.aload_n 0, 1) := by decide +kernel
theorem dX3_init_77 : decode cX3_init 77 = .ok (.iload_n 2, 1) := by decide +kernel
theorem dX3_init_78 : decode cX3_init 78 = .ok (.putfield 49, 3) := by decide +kernel
theorem dX3_init_81 : decode cX3_init 81 = .ok (.aload_n 0, 1) := by decide +kernel
theorem dX3_init_82 : decode cX3_init 82 = .ok (.iload_n 3, 1) := by decide +kernel
theorem dX3_init_83 : decode cX3_init 83 = .ok (.putfield 52, 3) := by decide +kernel
theorem dX3_init_86 : decode cX3_init 86 = .ok (.aload_n 0, 1) := by decide +kernel
theorem dX3_init_87 : decode cX3_init 87 = .ok (.iload 4, 2) := by decide +kernel
theorem dX3_init_89 : decode cX3_init 89 = .ok (.putfield 55, 3) := by decide +kernel
theorem dX3_init_92 : decode cX3_init 92 = .ok (.aload_n 0, 1) := by decide +kernel
theorem dX3_init_93 : decode cX3_init 93 = .ok (.iload 5, 2) := by decide +kernel
theorem dX3_init_95 : decode cX3_init 95 = .ok (.putfield 58, 3) := by decide +kernel
theorem dX3_init_98 : decode cX3_init 98 = .ok (.aload_n 0, 1) := by decide +kernel
theorem dX3_init_99 : decode cX3_init 99 = .ok (.iload 4, 2) := by decide +kernel
theorem dX3_init_101 : decode cX3_init 101 = .ok (.putfield 61, 3) := by decide +kernel
theorem dX3_init_104 : decode cX3_init 104 = .ok (.aload_n 0, 1) := by decide +kernel
theorem dX3_init_105 : decode cX3_init 105 = .ok (.getfield 12, 3) := by decide +kernel
theorem dX3_init_108 : decode cX3_init 108 = .ok (.iload 5, 2) := by decide +kernel
theorem dX3_init_110 : decode cX3_init 110 = .ok (.invokevirtual 64, 3) := by decide +kernel
theorem dX3_init_113 : decode cX3_init 113 = .ok (.return_, 1) := by decide +kernel
theorem dX3_sell_0 : decode cX3_sell 0 = .ok (.iload_n 2, 1) := by decide +kernel
theorem dX3_sell_1 : decode cX3_sell 1 = .ok (.aload_n 0, 1) := by decide +kernel
theorem dX3_sell_2 : decode cX3_sell 2 = .ok (.getfield 61, 3) := by decide +kernel
theorem dX3_sell_5 : decode cX3_sell 5 = .ok (.invokestatic 68, 3) := by decide +kernel
theorem dX3_sell_8 : decode cX3_sell 8 = .ok (.istore_n 3, 1) := by decide +kernel
theorem dX3_sell_9 : decode cX3_sell 9 = .ok (.aload_n 0, 1) := by decide +kernel
theorem dX3_sell_10 : decode cX3_sell 10 = .ok (.getfield 25, 3) := by decide +kernel
theorem dX3_sell_13 : decode cX3_sell 13 = .ok (.iload_n 1, 1) := by decide +kernel
theorem dX3_sell_14 : decode cX3_sell 14 = .ok (.iload_n 2, 1) := by decide +kernel
theorem dX3_sell_15 : decode cX3_sell 15 = .ok (.invokevirtual 74, 3) := by decide +kernel
theorem dX3_sell_18 : decode cX3_sell 18 = .ok (.aload_n 0, 1) := by decide +kernel
theorem dX3_sell_19 : decode cX3_sell 19 = .ok (.getfield 29, 3) := by decide +kernel
theorem dX3_sell_22 : decode cX3_sell 22 = .ok (.iload_n 1, 1) := by decide +kernel
theorem dX3_sell_23 : decode cX3_sell 23 = .ok (.iload_n 3, 1) := by decide +kernel
theorem dX3_sell_24 : decode cX3_sell 24 = .ok (.invokevirtual 74, 3) := by decide +kernel
theorem dX3_sell_27 : decode cX3_sell 27 = .ok (.aload_n 0, 1) := by decide +kernel
theorem dX3_sell_28 : decode cX3_sell 28 = .ok (.dup, 1) := by decide +kernel
theorem dX3_sell_29 : decode cX3_sell 29 = .ok (.getfield 61, 3) := by decide +kernel
theorem dX3_sell_32 : decode cX3_sell 32 = .ok (.iload_n 3, 1) := by decide +kernel
theorem dX3_sell_33 : decode cX3_sell 33 = .ok (.isub, 1) := by decide +kernel
theorem dX3_sell_34 : decode cX3_sell 34 = .ok (.putfield 61, 3) := by decide +kernel
theorem dX3_sell_37 : decode cX3_sell 37 = .ok (.aload_n 0, 1) := by decide +kernel
theorem dX3_sell_38 : decode cX3_sell 38 = .ok (.dup, 1) := by decide +kernel
theorem dX3_sell_39 : decode cX3_sell 39 = .ok (.getfield 39, 3) := by decide +kernel
theorem dX3_sell_42 : decode cX3_sell 42 = .ok (.iload_n 3, 1) := by decide +kernel
theorem dX3_sell_43 : decode cX3_sell 43 = .ok (.iadd, 1) := by decide +kernel
theorem dX3_sell_44 : decode cX3_sell 44 = .ok (.putfield 39, 3) := by decide +kernel
theorem dX3_sell_47 : decode cX3_sell 47 = .ok (.aload_n 0, 1) := by decide +kernel
theorem dX3_sell_48 : decode cX3_sell 48 = .ok (.dup, 1) := by decide +kernel
theorem dX3_sell_49 : decode cX3_sell 49 = .ok (.getfield 42, 3) := by decide +kernel
theorem dX3_sell_52 : decode cX3_sell 52 = .ok (.iload_n 2, 1) := by decide +kernel
theorem dX3_sell_53 : decode cX3_sell 53 = .ok (.iload_n 3, 1) := by decide +kernel
theorem dX3_sell_54 : decode cX3_sell 54 = .ok (.isub, 1) := by decide +kernel
theorem dX3_sell_55 : decode cX3_sell 55 = .ok (.iadd, 1) := by decide +kernel
theorem dX3_sell_56 : decode cX3_sell 56 = .ok (.putfield 42, 3) := by decide +kernel
theorem dX3_sell_59 : decode cX3_sell 59 = .ok (.iload_n 3, 1) := by decide +kernel
theorem dX3_sell_60 : decode cX3_sell 60 = .ok (.ireturn, 1) := by decide +kernel
theorem dX3_learnFrom_0 : decode cX3_learnFrom 0 = .ok (.aload_n 0, 1) := by decide +kernel
theorem dX3_learnFrom_1 : decode cX3_learnFrom 1 = .ok (.getfield 25, 3) := by decide +kernel
theorem dX3_learnFrom_4 : decode cX3_learnFrom 4 = .ok (.iload_n 1, 1) := by decide +kernel
theorem dX3_learnFrom_5 : decode cX3_learnFrom 5 = .ok (.invokevirtual 78, 3) := by decide +kernel
theorem dX3_learnFrom_8 : decode cX3_learnFrom 8 = .ok (.istore 4, 2) := by decide +kernel
theorem dX3_learnFrom_10 : decode cX3_learnFrom 10 = .ok (.bipush 20, 2) := by decide +kernel
theorem dX3_learnFrom_12 : decode cX3_learnFrom 12 = .ok (.iload 4, 2) := by decide +kernel
theorem dX3_learnFrom_14 : decode cX3_learnFrom 14 = .ok (.aload_n 0, 1) := by decide +kernel
theorem dX3_learnFrom_15 : decode cX3_learnFrom 15 = .ok (.getfield 12, 3) := by decide +kernel
theorem dX3_learnFrom_18 : decode cX3_learnFrom 18 = .ok (.iload_n 1, 1) := by decide +kernel
theorem dX3_learnFrom_19 : decode cX3_learnFrom 19 = .ok (.invokevirtual 82, 3) := by decide +kernel
theorem dX3_learnFrom_22 : decode cX3_learnFrom 22 = .ok (.isub, 1) := by decide +kernel
theorem dX3_learnFrom_23 : decode cX3_learnFrom 23 = .ok (.invokestatic 85, 3) := by decide +kernel
theorem dX3_learnFrom_26 : decode cX3_learnFrom 26 = .ok (.invokestatic 68, 3) := by decide +kernel
theorem dX3_learnFrom_29 : decode cX3_learnFrom 29 = .ok (.istore 5, 2) := by decide +kernel
theorem dX3_learnFrom_31 : decode cX3_learnFrom 31 = .ok (.iload 5, 2) := by decide +kernel
theorem dX3_learnFrom_33 : decode cX3_learnFrom 33 = .ok (.ifCond .lt 34, 3) := by decide +kernel
theorem dX3_learnFrom_36 : decode cX3_learnFrom 36 = .ok (.iload 5, 2) := by decide +kernel
theorem dX3_learnFrom_38 : decode cX3_learnFrom 38 = .ok (.aload_n 0, 1) := by decide +kernel
theorem dX3_learnFrom_39 : decode cX3_learnFrom 39 = .ok (.getfield 18, 3) := by decide +kernel
theorem dX3_learnFrom_42 : decode cX3_learnFrom 42 = .ok (.arraylength, 1) := by decide +kernel
theorem dX3_learnFrom_43 : decode cX3_learnFrom 43 = .ok (.if_icmp .ge 24, 3) := by decide +kernel
theorem dX3_learnFrom_46 : decode cX3_learnFrom 46 = .ok (.aload_n 0, 1) := by decide +kernel
theorem dX3_learnFrom_47 : decode cX3_learnFrom 47 = .ok (.getfield 18, 3) := by decide +kernel
theorem dX3_learnFrom_50 : decode cX3_learnFrom 50 = .ok (.iload 5, 2) := by decide +kernel
theorem dX3_learnFrom_52 : decode cX3_learnFrom 52 = .ok (.dup2, 1) := by decide +kernel
theorem dX3_learnFrom_53 : decode cX3_learnFrom 53 = .ok (.iaload, 1) := by decide +kernel
theorem dX3_learnFrom_54 : decode cX3_learnFrom 54 = .ok (.iconst 1, 1) := by decide +kernel
theorem dX3_learnFrom_55 : decode cX3_learnFrom 55 = .ok (.iadd, 1) := by decide +kernel
theorem dX3_learnFrom_56 : decode cX3_learnFrom 56 = .ok (.iastore, 1) := by decide +kernel
theorem dX3_learnFrom_57 : decode cX3_learnFrom 57 = .ok (.aload_n 0, 1) := by decide +kernel
theorem dX3_learnFrom_58 : decode cX3_learnFrom 58 = .ok (.dup, 1) := by decide +kernel
theorem dX3_learnFrom_59 : decode cX3_learnFrom 59 = .ok (.getfield 35, 3) := by decide +kernel
theorem dX3_learnFrom_62 : decode cX3_learnFrom 62 = .ok (.iconst 1, 1) := by decide +kernel
theorem dX3_learnFrom_63 : decode cX3_learnFrom 63 = .ok (.iadd, 1) := by decide +kernel
theorem dX3_learnFrom_64 : decode cX3_learnFrom 64 = .ok (.putfield 35, 3) := by decide +kernel
theorem dX3_learnFrom_67 : decode cX3_learnFrom 67 = .ok (.aload_n 0, 1) := by decide +kernel
theorem dX3_learnFrom_68 : decode cX3_learnFrom 68 = .ok (.getfield 12, 3) := by decide +kernel
theorem dX3_learnFrom_71 : decode cX3_learnFrom 71 = .ok (.iload_n 1, 1) := by decide +kernel
theorem dX3_learnFrom_72 : decode cX3_learnFrom 72 = .ok (.iload 4, 2) := by decide +kernel
theorem dX3_learnFrom_74 : decode cX3_learnFrom 74 = .ok (.iload_n 2, 1) := by decide +kernel
theorem dX3_learnFrom_75 : decode cX3_learnFrom 75 = .ok (.iload_n 3, 1) := by decide +kernel
theorem dX3_learnFrom_76 : decode cX3_learnFrom 76 = .ok (.invokevirtual 88, 3) := by decide +kernel
theorem dX3_learnFrom_79 : decode cX3_learnFrom 79 = .ok (.return_, 1) := by decide +kernel
theorem dX3_timesOf_0 : decode cX3_timesOf 0 = .ok (.iload_n 1, 1) := by decide +kernel
theorem dX3_timesOf_1 : decode cX3_timesOf 1 = .ok (.ifCond .lt 21, 3) := by decide +kernel
theorem dX3_timesOf_4 : decode cX3_timesOf 4 = .ok (.iload_n 1, 1) := by decide +kernel
theorem dX3_timesOf_5 : decode cX3_timesOf 5 = .ok (.aload_n 0, 1) := by decide +kernel
theorem dX3_timesOf_6 : decode cX3_timesOf 6 = .ok (.getfield 18, 3) := by decide +kernel
theorem dX3_timesOf_9 : decode cX3_timesOf 9 = .ok (.arraylength, 1) := by decide +kernel
theorem dX3_timesOf_10 : decode cX3_timesOf 10 = .ok (.if_icmp .ge 12, 3) := by decide +kernel
theorem dX3_timesOf_13 : decode cX3_timesOf 13 = .ok (.aload_n 0, 1) := by decide +kernel
theorem dX3_timesOf_14 : decode cX3_timesOf 14 = .ok (.getfield 18, 3) := by decide +kernel
theorem dX3_timesOf_17 : decode cX3_timesOf 17 = .ok (.iload_n 1, 1) := by decide +kernel
theorem dX3_timesOf_18 : decode cX3_timesOf 18 = .ok (.iaload, 1) := by decide +kernel
theorem dX3_timesOf_19 : decode cX3_timesOf 19 = .ok (.goto 4, 3) := by decide +kernel
theorem dX3_timesOf_22 : decode cX3_timesOf 22 = .ok (.iconst 0, 1) := by decide +kernel
theorem dX3_timesOf_23 : decode cX3_timesOf 23 = .ok (.ireturn, 1) := by decide +kernel
theorem dX3_safetyAt_0 : decode cX3_safetyAt 0 = .ok (.iconst 0, 1) := by decide +kernel
theorem dX3_safetyAt_1 : decode cX3_safetyAt 1 = .ok (.istore_n 2, 1) := by decide +kernel
theorem dX3_safetyAt_2 : decode cX3_safetyAt 2 = .ok (.iconst 0, 1) := by decide +kernel
theorem dX3_safetyAt_3 : decode cX3_safetyAt 3 = .ok (.istore_n 3, 1) := by decide +kernel
theorem dX3_safetyAt_4 : decode cX3_safetyAt 4 = .ok (.iload_n 3, 1) := by decide +kernel
theorem dX3_safetyAt_5 : decode cX3_safetyAt 5 = .ok (.aload_n 0, 1) := by decide +kernel
theorem dX3_safetyAt_6 : decode cX3_safetyAt 6 = .ok (.getfield 18, 3) := by decide +kernel
theorem dX3_safetyAt_9 : decode cX3_safetyAt 9 = .ok (.arraylength, 1) := by decide +kernel
theorem dX3_safetyAt_10 : decode cX3_safetyAt 10 = .ok (.if_icmp .ge 33, 3) := by decide +kernel
theorem dX3_safetyAt_13 : decode cX3_safetyAt 13 = .ok (.iload_n 2, 1) := by decide +kernel
theorem dX3_safetyAt_14 : decode cX3_safetyAt 14 = .ok (.aload_n 0, 1) := by decide +kernel
theorem dX3_safetyAt_15 : decode cX3_safetyAt 15 = .ok (.getfield 18, 3) := by decide +kernel
theorem dX3_safetyAt_18 : decode cX3_safetyAt 18 = .ok (.iload_n 3, 1) := by decide +kernel
theorem dX3_safetyAt_19 : decode cX3_safetyAt 19 = .ok (.iaload, 1) := by decide +kernel
theorem dX3_safetyAt_20 : decode cX3_safetyAt 20 = .ok (.iadd, 1) := by decide +kernel
theorem dX3_safetyAt_21 : decode cX3_safetyAt 21 = .ok (.istore_n 2, 1) := by decide +kernel
theorem dX3_safetyAt_22 : decode cX3_safetyAt 22 = .ok (.iload_n 2, 1) := by decide +kernel
theorem dX3_safetyAt_23 : decode cX3_safetyAt 23 = .ok (.bipush 100, 2) := by decide +kernel
theorem dX3_safetyAt_25 : decode cX3_safetyAt 25 = .ok (.imul, 1) := by decide +kernel
theorem dX3_safetyAt_26 : decode cX3_safetyAt 26 = .ok (.iload_n 1, 1) := by decide +kernel
theorem dX3_safetyAt_27 : decode cX3_safetyAt 27 = .ok (.aload_n 0, 1) := by decide +kernel
theorem dX3_safetyAt_28 : decode cX3_safetyAt 28 = .ok (.getfield 35, 3) := by decide +kernel
theorem dX3_safetyAt_31 : decode cX3_safetyAt 31 = .ok (.imul, 1) := by decide +kernel
theorem dX3_safetyAt_32 : decode cX3_safetyAt 32 = .ok (.if_icmp .lt 5, 3) := by decide +kernel
theorem dX3_safetyAt_35 : decode cX3_safetyAt 35 = .ok (.iload_n 3, 1) := by decide +kernel
theorem dX3_safetyAt_36 : decode cX3_safetyAt 36 = .ok (.ireturn, 1) := by decide +kernel
theorem dX3_safetyAt_37 : decode cX3_safetyAt 37 = .ok (.iinc 3 1, 3) := by decide +kernel
theorem dX3_safetyAt_40 : decode cX3_safetyAt 40 = .ok (.goto (-36), 3) := by decide +kernel
theorem dX3_safetyAt_43 : decode cX3_safetyAt 43 = .ok (.bipush 20, 2) := by decide +kernel
theorem dX3_safetyAt_45 : decode cX3_safetyAt 45 = .ok (.ireturn, 1) := by decide +kernel
theorem dX3_dueAfter_0 : decode cX3_dueAfter 0 = .ok (.iconst 0, 1) := by decide +kernel
theorem dX3_dueAfter_1 : decode cX3_dueAfter 1 = .ok (.istore_n 2, 1) := by decide +kernel
theorem dX3_dueAfter_2 : decode cX3_dueAfter 2 = .ok (.iconst 1, 1) := by decide +kernel
theorem dX3_dueAfter_3 : decode cX3_dueAfter 3 = .ok (.istore_n 3, 1) := by decide +kernel
theorem dX3_dueAfter_4 : decode cX3_dueAfter 4 = .ok (.iload_n 3, 1) := by decide +kernel
theorem dX3_dueAfter_5 : decode cX3_dueAfter 5 = .ok (.iconst 5, 1) := by decide +kernel
theorem dX3_dueAfter_6 : decode cX3_dueAfter 6 = .ok (.if_icmp .gt 22, 3) := by decide +kernel
theorem dX3_dueAfter_9 : decode cX3_dueAfter 9 = .ok (.iload_n 2, 1) := by decide +kernel
theorem dX3_dueAfter_10 : decode cX3_dueAfter 10 = .ok (.aload_n 0, 1) := by decide +kernel
theorem dX3_dueAfter_11 : decode cX3_dueAfter 11 = .ok (.getfield 32, 3) := by decide +kernel
theorem dX3_dueAfter_14 : decode cX3_dueAfter 14 = .ok (.iload_n 1, 1) := by decide +kernel
theorem dX3_dueAfter_15 : decode cX3_dueAfter 15 = .ok (.iload_n 3, 1) := by decide +kernel
theorem dX3_dueAfter_16 : decode cX3_dueAfter 16 = .ok (.iadd, 1) := by decide +kernel
theorem dX3_dueAfter_17 : decode cX3_dueAfter 17 = .ok (.invokevirtual 78, 3) := by decide +kernel
theorem dX3_dueAfter_20 : decode cX3_dueAfter 20 = .ok (.iadd, 1) := by decide +kernel
theorem dX3_dueAfter_21 : decode cX3_dueAfter 21 = .ok (.istore_n 2, 1) := by decide +kernel
theorem dX3_dueAfter_22 : decode cX3_dueAfter 22 = .ok (.iinc 3 1, 3) := by decide +kernel
theorem dX3_dueAfter_25 : decode cX3_dueAfter 25 = .ok (.goto (-21), 3) := by decide +kernel
theorem dX3_dueAfter_28 : decode cX3_dueAfter 28 = .ok (.iload_n 2, 1) := by decide +kernel
theorem dX3_dueAfter_29 : decode cX3_dueAfter 29 = .ok (.ireturn, 1) := by decide +kernel
theorem dX3_send_0 : decode cX3_send 0 = .ok (.iload_n 2, 1) := by decide +kernel
theorem dX3_send_1 : decode cX3_send 1 = .ok (.aload_n 0, 1) := by decide +kernel
theorem dX3_send_2 : decode cX3_send 2 = .ok (.getfield 45, 3) := by decide +kernel
theorem dX3_send_5 : decode cX3_send 5 = .ok (.getfield 92, 3) := by decide +kernel
theorem dX3_send_8 : decode cX3_send 8 = .ok (.imul, 1) := by decide +kernel
theorem dX3_send_9 : decode cX3_send 9 = .ok (.istore_n 3, 1) := by decide +kernel
theorem dX3_send_10 : decode cX3_send 10 = .ok (.aload_n 0, 1) := by decide +kernel
theorem dX3_send_11 : decode cX3_send 11 = .ok (.getfield 45, 3) := by decide +kernel
theorem dX3_send_14 : decode cX3_send 14 = .ok (.iload_n 1, 1) := by decide +kernel
theorem dX3_send_15 : decode cX3_send 15 = .ok (.iload_n 3, 1) := by decide +kernel
theorem dX3_send_16 : decode cX3_send 16 = .ok (.invokevirtual 97, 3) := by decide +kernel
theorem dX3_send_19 : decode cX3_send 19 = .ok (.aload_n 0, 1) := by decide +kernel
theorem dX3_send_20 : decode cX3_send 20 = .ok (.getfield 32, 3) := by decide +kernel
theorem dX3_send_23 : decode cX3_send 23 = .ok (.iload_n 1, 1) := by decide +kernel
theorem dX3_send_24 : decode cX3_send 24 = .ok (.aload_n 0, 1) := by decide +kernel
theorem dX3_send_25 : decode cX3_send 25 = .ok (.getfield 49, 3) := by decide +kernel
theorem dX3_send_28 : decode cX3_send 28 = .ok (.iadd, 1) := by decide +kernel
theorem dX3_send_29 : decode cX3_send 29 = .ok (.iload_n 3, 1) := by decide +kernel
theorem dX3_send_30 : decode cX3_send 30 = .ok (.invokevirtual 74, 3) := by decide +kernel
theorem dX3_send_33 : decode cX3_send 33 = .ok (.return_, 1) := by decide +kernel
theorem dX3_firstDueAfter_0 : decode cX3_firstDueAfter 0 = .ok (.iconst 1, 1) := by decide +kernel
theorem dX3_firstDueAfter_1 : decode cX3_firstDueAfter 1 = .ok (.istore_n 2, 1) := by decide +kernel
theorem dX3_firstDueAfter_2 : decode cX3_firstDueAfter 2 = .ok (.iload_n 2, 1) := by decide +kernel
theorem dX3_firstDueAfter_3 : decode cX3_firstDueAfter 3 = .ok (.iconst 5, 1) := by decide +kernel
theorem dX3_firstDueAfter_4 : decode cX3_firstDueAfter 4 = .ok (.if_icmp .gt 26, 3) := by decide +kernel
theorem dX3_firstDueAfter_7 : decode cX3_firstDueAfter 7 = .ok (.aload_n 0, 1) := by decide +kernel
theorem dX3_firstDueAfter_8 : decode cX3_firstDueAfter 8 = .ok (.getfield 32, 3) := by decide +kernel
theorem dX3_firstDueAfter_11 : decode cX3_firstDueAfter 11 = .ok (.iload_n 1, 1) := by decide +kernel
theorem dX3_firstDueAfter_12 : decode cX3_firstDueAfter 12 = .ok (.iload_n 2, 1) := by decide +kernel
theorem dX3_firstDueAfter_13 : decode cX3_firstDueAfter 13 = .ok (.iadd, 1) := by decide +kernel
theorem dX3_firstDueAfter_14 : decode cX3_firstDueAfter 14 = .ok (.invokevirtual 78, 3) := by decide +kernel
theorem dX3_firstDueAfter_17 : decode cX3_firstDueAfter 17 = .ok (.ifCond .le 7, 3) := by decide +kernel
theorem dX3_firstDueAfter_20 : decode cX3_firstDueAfter 20 = .ok (.iload_n 1, 1) := by decide +kernel
theorem dX3_firstDueAfter_21 : decode cX3_firstDueAfter 21 = .ok (.iload_n 2, 1) := by decide +kernel
theorem dX3_firstDueAfter_22 : decode cX3_firstDueAfter 22 = .ok (.iadd, 1) := by decide +kernel
theorem dX3_firstDueAfter_23 : decode cX3_firstDueAfter 23 = .ok (.ireturn, 1) := by decide +kernel
theorem dX3_firstDueAfter_24 : decode cX3_firstDueAfter 24 = .ok (.iinc 2 1, 3) := by decide +kernel
theorem dX3_firstDueAfter_27 : decode cX3_firstDueAfter 27 = .ok (.goto (-25), 3) := by decide +kernel
theorem dX3_firstDueAfter_30 : decode cX3_firstDueAfter 30 = .ok (.iconst (-1), 1) := by decide +kernel
theorem dX3_firstDueAfter_31 : decode cX3_firstDueAfter 31 = .ok (.ireturn, 1) := by decide +kernel
theorem dX3_needOn_0 : decode cX3_needOn 0 = .ok (.lconst 0, 1) := by decide +kernel
theorem dX3_needOn_1 : decode cX3_needOn 1 = .ok (.lstore_n 3, 1) := by decide +kernel
theorem dX3_needOn_2 : decode cX3_needOn 2 = .ok (.iconst 0, 1) := by decide +kernel
theorem dX3_needOn_3 : decode cX3_needOn 3 = .ok (.istore 5, 2) := by decide +kernel
theorem dX3_needOn_5 : decode cX3_needOn 5 = .ok (.iload 5, 2) := by decide +kernel
theorem dX3_needOn_7 : decode cX3_needOn 7 = .ok (.aload_n 0, 1) := by decide +kernel
theorem dX3_needOn_8 : decode cX3_needOn 8 = .ok (.getfield 49, 3) := by decide +kernel
theorem dX3_needOn_11 : decode cX3_needOn 11 = .ok (.if_icmp .gt 24, 3) := by decide +kernel
theorem dX3_needOn_14 : decode cX3_needOn 14 = .ok (.lload_n 3, 1) := by decide +kernel
theorem dX3_needOn_15 : decode cX3_needOn 15 = .ok (.aload_n 0, 1) := by decide +kernel
theorem dX3_needOn_16 : decode cX3_needOn 16 = .ok (.getfield 12, 3) := by decide +kernel
theorem dX3_needOn_19 : decode cX3_needOn 19 = .ok (.iload_n 1, 1) := by decide +kernel
theorem dX3_needOn_20 : decode cX3_needOn 20 = .ok (.iload 5, 2) := by decide +kernel
theorem dX3_needOn_22 : decode cX3_needOn 22 = .ok (.iadd, 1) := by decide +kernel
theorem dX3_needOn_23 : decode cX3_needOn 23 = .ok (.invokevirtual 100, 3) := by decide +kernel
theorem dX3_needOn_26 : decode cX3_needOn 26 = .ok (.i2l, 1) := by decide +kernel
theorem dX3_needOn_27 : decode cX3_needOn 27 = .ok (.ladd, 1) := by decide +kernel
theorem dX3_needOn_28 : decode cX3_needOn 28 = .ok (.lstore_n 3, 1) := by decide +kernel
theorem dX3_needOn_29 : decode cX3_needOn 29 = .ok (.iinc 5 1, 3) := by decide +kernel
theorem dX3_needOn_32 : decode cX3_needOn 32 = .ok (.goto (-27), 3) := by decide +kernel
theorem dX3_needOn_35 : decode cX3_needOn 35 = .ok (.lload_n 3, 1) := by decide +kernel
theorem dX3_needOn_36 : decode cX3_needOn 36 = .ok (.ldc2_w 103, 3) := by decide +kernel
theorem dX3_needOn_39 : decode cX3_needOn 39 = .ok (.ladd, 1) := by decide +kernel
theorem dX3_needOn_40 : decode cX3_needOn 40 = .ok (.ldc2_w 105, 3) := by decide +kernel
theorem dX3_needOn_43 : decode cX3_needOn 43 = .ok (.ldiv, 1) := by decide +kernel
theorem dX3_needOn_44 : decode cX3_needOn 44 = .ok (.l2i, 1) := by decide +kernel
theorem dX3_needOn_45 : decode cX3_needOn 45 = .ok (.istore 5, 2) := by decide +kernel
theorem dX3_needOn_47 : decode cX3_needOn 47 = .ok (.iload 5, 2) := by decide +kernel
theorem dX3_needOn_49 : decode cX3_needOn 49 = .ok (.aload_n 0, 1) := by decide +kernel
theorem dX3_needOn_50 : decode cX3_needOn 50 = .ok (.iload_n 2, 1) := by decide +kernel
theorem dX3_needOn_51 : decode cX3_needOn 51 = .ok (.invokevirtual 107, 3) := by decide +kernel
theorem dX3_needOn_54 : decode cX3_needOn 54 = .ok (.iadd, 1) := by decide +kernel
theorem dX3_needOn_55 : decode cX3_needOn 55 = .ok (.aload_n 0, 1) := by decide +kernel
theorem dX3_needOn_56 : decode cX3_needOn 56 = .ok (.getfield 61, 3) := by decide +kernel
theorem dX3_needOn_59 : decode cX3_needOn 59 = .ok (.isub, 1) := by decide +kernel
theorem dX3_needOn_60 : decode cX3_needOn 60 = .ok (.aload_n 0, 1) := by decide +kernel
theorem dX3_needOn_61 : decode cX3_needOn 61 = .ok (.iload_n 1, 1) := by decide +kernel
theorem dX3_needOn_62 : decode cX3_needOn 62 = .ok (.invokevirtual 110, 3) := by decide +kernel
theorem dX3_needOn_65 : decode cX3_needOn 65 = .ok (.isub, 1) := by decide +kernel
theorem dX3_needOn_66 : decode cX3_needOn 66 = .ok (.ireturn, 1) := by decide +kernel
theorem dX3_requestOn_0 : decode cX3_requestOn 0 = .ok (.aload_n 0, 1) := by decide +kernel
theorem dX3_requestOn_1 : decode cX3_requestOn 1 = .ok (.getfield 45, 3) := by decide +kernel
theorem dX3_requestOn_4 : decode cX3_requestOn 4 = .ok (.aload_n 0, 1) := by decide +kernel
theorem dX3_requestOn_5 : decode cX3_requestOn 5 = .ok (.iload_n 1, 1) := by decide +kernel
theorem dX3_requestOn_6 : decode cX3_requestOn 6 = .ok (.iload_n 2, 1) := by decide +kernel
theorem dX3_requestOn_7 : decode cX3_requestOn 7 = .ok (.invokevirtual 113, 3) := by decide +kernel
theorem dX3_requestOn_10 : decode cX3_requestOn 10 = .ok (.invokevirtual 116, 3) := by decide +kernel
theorem dX3_requestOn_13 : decode cX3_requestOn 13 = .ok (.ireturn, 1) := by decide +kernel
theorem dX3_journalStock_0 : decode cX3_journalStock 0 = .ok (.aload_n 0, 1) := by decide +kernel
theorem dX3_journalStock_1 : decode cX3_journalStock 1 = .ok (.getfield 55, 3) := by decide +kernel
theorem dX3_journalStock_4 : decode cX3_journalStock 4 = .ok (.aload_n 0, 1) := by decide +kernel
theorem dX3_journalStock_5 : decode cX3_journalStock 5 = .ok (.getfield 32, 3) := by decide +kernel
theorem dX3_journalStock_8 : decode cX3_journalStock 8 = .ok (.iload_n 1, 1) := by decide +kernel
theorem dX3_journalStock_9 : decode cX3_journalStock 9 = .ok (.invokevirtual 119, 3) := by decide +kernel
theorem dX3_journalStock_12 : decode cX3_journalStock 12 = .ok (.iadd, 1) := by decide +kernel
theorem dX3_journalStock_13 : decode cX3_journalStock 13 = .ok (.aload_n 0, 1) := by decide +kernel
theorem dX3_journalStock_14 : decode cX3_journalStock 14 = .ok (.getfield 29, 3) := by decide +kernel
theorem dX3_journalStock_17 : decode cX3_journalStock 17 = .ok (.iload_n 1, 1) := by decide +kernel
theorem dX3_journalStock_18 : decode cX3_journalStock 18 = .ok (.invokevirtual 119, 3) := by decide +kernel
theorem dX3_journalStock_21 : decode cX3_journalStock 21 = .ok (.isub, 1) := by decide +kernel
theorem dX3_journalStock_22 : decode cX3_journalStock 22 = .ok (.ireturn, 1) := by decide +kernel
theorem dX4_init_0 : decode cX4_init 0 = .ok (.aload_n 0, 1) := by decide +kernel
theorem dX4_init_1 : decode cX4_init 1 = .ok (.invokespecial 3, 3) := by decide +kernel
theorem dX4_init_4 : decode cX4_init 4 = .ok (.aload_n 0, 1) := by decide +kernel
theorem dX4_init_5 : decode cX4_init 5 = .ok (.iconst 4, 1) := by decide +kernel
theorem dX4_init_6 : decode cX4_init 6 = .ok (.newarray .int, 2) := by decide +kernel
theorem dX4_init_8 : decode cX4_init 8 = .ok (.putfield 9, 3) := by decide +kernel
theorem dX4_init_11 : decode cX4_init 11 = .ok (.aload_n 0, 1) := by decide +kernel
theorem dX4_init_12 : decode cX4_init 12 = .ok (.iconst 4, 1) := by decide +kernel
theorem dX4_init_13 : decode cX4_init 13 = .ok (.newarray .int, 2) := by decide +kernel
theorem dX4_init_15 : decode cX4_init 15 = .ok (.putfield 15, 3) := by decide +kernel
theorem dX4_init_18 : decode cX4_init 18 = .ok (.aload_n 0, 1) := by decide +kernel
theorem dX4_init_19 : decode cX4_init 19 = .ok (.iconst 0, 1) := by decide +kernel
theorem dX4_init_20 : decode cX4_init 20 = .ok (.putfield 18, 3) := by decide +kernel
theorem dX4_init_23 : decode cX4_init 23 = .ok (.return_, 1) := by decide +kernel
theorem dX4_start_0 : decode cX4_start 0 = .ok (.aload_n 0, 1) := by decide +kernel
theorem dX4_start_1 : decode cX4_start 1 = .ok (.iload_n 1, 1) := by decide +kernel
theorem dX4_start_2 : decode cX4_start 2 = .ok (.putfield 18, 3) := by decide +kernel
theorem dX4_start_5 : decode cX4_start 5 = .ok (.iconst 0, 1) := by decide +kernel
theorem dX4_start_6 : decode cX4_start 6 = .ok (.istore_n 2, 1) := by decide +kernel
theorem dX4_start_7 : decode cX4_start 7 = .ok (.iload_n 2, 1) := by decide +kernel
theorem dX4_start_8 : decode cX4_start 8 = .ok (.aload_n 0, 1) := by decide +kernel
theorem dX4_start_9 : decode cX4_start 9 = .ok (.getfield 9, 3) := by decide +kernel
theorem dX4_start_12 : decode cX4_start 12 = .ok (.arraylength, 1) := by decide +kernel
theorem dX4_start_13 : decode cX4_start 13 = .ok (.if_icmp .ge 16, 3) := by decide +kernel
theorem dX4_start_16 : decode cX4_start 16 = .ok (.aload_n 0, 1) := by decide +kernel
theorem dX4_start_17 : decode cX4_start 17 = .ok (.getfield 9, 3) := by decide +kernel
theorem dX4_start_20 : decode cX4_start 20 = .ok (.iload_n 2, 1) := by decide +kernel
theorem dX4_start_21 : decode cX4_start 21 = .ok (.iconst 0, 1) := by decide +kernel
theorem dX4_start_22 : decode cX4_start 22 = .ok (.iastore, 1) := by decide +kernel
theorem dX4_start_23 : decode cX4_start 23 = .ok (.iinc 2 1, 3) := by decide +kernel
theorem dX4_start_26 : decode cX4_start 26 = .ok (.goto (-19), 3) := by decide +kernel
theorem dX4_start_29 : decode cX4_start 29 = .ok (.return_, 1) := by decide +kernel
theorem dX4_ask_0 : decode cX4_ask 0 = .ok (.iload_n 1, 1) := by decide +kernel
theorem dX4_ask_1 : decode cX4_ask 1 = .ok (.ifCond .lt 19, 3) := by decide +kernel
theorem dX4_ask_4 : decode cX4_ask 4 = .ok (.iload_n 1, 1) := by decide +kernel
theorem dX4_ask_5 : decode cX4_ask 5 = .ok (.aload_n 0, 1) := by decide +kernel
theorem dX4_ask_6 : decode cX4_ask 6 = .ok (.getfield 9, 3) := by decide +kernel
theorem dX4_ask_9 : decode cX4_ask 9 = .ok (.arraylength, 1) := by decide +kernel
theorem dX4_ask_10 : decode cX4_ask 10 = .ok (.if_icmp .ge 10, 3) := by decide +kernel
theorem dX4_ask_13 : decode cX4_ask 13 = .ok (.aload_n 0, 1) := by decide +kernel
theorem dX4_ask_14 : decode cX4_ask 14 = .ok (.getfield 9, 3) := by decide +kernel
theorem dX4_ask_17 : decode cX4_ask 17 = .ok (.iload_n 1, 1) := by decide +kernel
theorem dX4_ask_18 : decode cX4_ask 18 = .ok (.iload_n 2, 1) := by decide +kernel
theorem dX4_ask_19 : decode cX4_ask 19 = .ok (.iastore, 1) := by decide +kernel
theorem dX4_ask_20 : decode cX4_ask 20 = .ok (.return_, 1) := by decide +kernel
theorem dX4_counted_0 : decode cX4_counted 0 = .ok (.iload_n 1, 1) := by decide +kernel
theorem dX4_counted_1 : decode cX4_counted 1 = .ok (.ifCond .lt 12, 3) := by decide +kernel
theorem dX4_counted_4 : decode cX4_counted 4 = .ok (.iload_n 1, 1) := by decide +kernel
theorem dX4_counted_5 : decode cX4_counted 5 = .ok (.aload_n 0, 1) := by decide +kernel
theorem dX4_counted_6 : decode cX4_counted 6 = .ok (.getfield 9, 3) := by decide +kernel
theorem dX4_counted_9 : decode cX4_counted 9 = .ok (.arraylength, 1) := by decide +kernel
theorem dX4_counted_10 : decode cX4_counted 10 = .ok (.if_icmp .lt 5, 3) := by decide +kernel
theorem dX4_counted_13 : decode cX4_counted 13 = .ok (.iconst 0, 1) := by decide +kernel
theorem dX4_counted_14 : decode cX4_counted 14 = .ok (.ireturn, 1) := by decide +kernel
theorem dX4_counted_15 : decode cX4_counted 15 = .ok (.iconst 0, 1) := by decide +kernel
theorem dX4_counted_16 : decode cX4_counted 16 = .ok (.istore_n 2, 1) := by decide +kernel
theorem dX4_counted_17 : decode cX4_counted 17 = .ok (.aload_n 0, 1) := by decide +kernel
theorem dX4_counted_18 : decode cX4_counted 18 = .ok (.getfield 9, 3) := by decide +kernel
theorem dX4_counted_21 : decode cX4_counted 21 = .ok (.iload_n 1, 1) := by decide +kernel
theorem dX4_counted_22 : decode cX4_counted 22 = .ok (.iaload, 1) := by decide +kernel
theorem dX4_counted_23 : decode cX4_counted 23 = .ok (.istore_n 3, 1) := by decide +kernel
theorem dX4_counted_24 : decode cX4_counted 24 = .ok (.iconst 0, 1) := by decide +kernel
theorem dX4_counted_25 : decode cX4_counted 25 = .ok (.istore 4, 2) := by decide +kernel
theorem dX4_counted_27 : decode cX4_counted 27 = .ok (.iload 4, 2) := by decide +kernel
theorem dX4_counted_29 : decode cX4_counted 29 = .ok (.bipush 32, 2) := by decide +kernel
theorem dX4_counted_31 : decode cX4_counted 31 = .ok (.if_icmp .ge 50, 3) := by decide +kernel
theorem dX4_counted_34 : decode cX4_counted 34 = .ok (.iload_n 2, 1) := by decide +kernel
theorem dX4_counted_35 : decode cX4_counted 35 = .ok (.iload_n 3, 1) := by decide +kernel
theorem dX4_counted_36 : decode cX4_counted 36 = .ok (.if_icmp .ge 45, 3) := by decide +kernel
theorem dX4_counted_39 : decode cX4_counted 39 = .ok (.iload_n 2, 1) := by decide +kernel
theorem dX4_counted_40 : decode cX4_counted 40 = .ok (.iload_n 3, 1) := by decide +kernel
theorem dX4_counted_41 : decode cX4_counted 41 = .ok (.iload_n 2, 1) := by decide +kernel
theorem dX4_counted_42 : decode cX4_counted 42 = .ok (.isub, 1) := by decide +kernel
theorem dX4_counted_43 : decode cX4_counted 43 = .ok (.iconst 2, 1) := by decide +kernel
theorem dX4_counted_44 : decode cX4_counted 44 = .ok (.idiv, 1) := by decide +kernel
theorem dX4_counted_45 : decode cX4_counted 45 = .ok (.iadd, 1) := by decide +kernel
theorem dX4_counted_46 : decode cX4_counted 46 = .ok (.istore 5, 2) := by decide +kernel
theorem dX4_counted_48 : decode cX4_counted 48 = .ok (.aload_n 0, 1) := by decide +kernel
theorem dX4_counted_49 : decode cX4_counted 49 = .ok (.iload_n 1, 1) := by decide +kernel
theorem dX4_counted_50 : decode cX4_counted 50 = .ok (.iload 5, 2) := by decide +kernel
theorem dX4_counted_52 : decode cX4_counted 52 = .ok (.invokevirtual 22, 3) := by decide +kernel
theorem dX4_counted_55 : decode cX4_counted 55 = .ok (.aload_n 0, 1) := by decide +kernel
theorem dX4_counted_56 : decode cX4_counted 56 = .ok (.getfield 18, 3) := by decide +kernel
theorem dX4_counted_59 : decode cX4_counted 59 = .ok (.i2l, 1) := by decide +kernel
theorem dX4_counted_60 : decode cX4_counted 60 = .ok (.lcmp, 1) := by decide +kernel
theorem dX4_counted_61 : decode cX4_counted 61 = .ok (.ifCond .ge 11, 3) := by decide +kernel
theorem dX4_counted_64 : decode cX4_counted 64 = .ok (.iload 5, 2) := by decide +kernel
theorem dX4_counted_66 : decode cX4_counted 66 = .ok (.iconst 1, 1) := by decide +kernel
theorem dX4_counted_67 : decode cX4_counted 67 = .ok (.iadd, 1) := by decide +kernel
theorem dX4_counted_68 : decode cX4_counted 68 = .ok (.istore_n 2, 1) := by decide +kernel
theorem dX4_counted_69 : decode cX4_counted 69 = .ok (.goto 6, 3) := by decide +kernel
theorem dX4_counted_72 : decode cX4_counted 72 = .ok (.iload 5, 2) := by decide +kernel
theorem dX4_counted_74 : decode cX4_counted 74 = .ok (.istore_n 3, 1) := by decide +kernel
theorem dX4_counted_75 : decode cX4_counted 75 = .ok (.iinc 4 1, 3) := by decide +kernel
theorem dX4_counted_78 : decode cX4_counted 78 = .ok (.goto (-51), 3) := by decide +kernel
theorem dX4_counted_81 : decode cX4_counted 81 = .ok (.iload_n 2, 1) := by decide +kernel
theorem dX4_counted_82 : decode cX4_counted 82 = .ok (.ireturn, 1) := by decide +kernel
theorem dX4_givenAhead_0 : decode cX4_givenAhead 0 = .ok (.iload_n 1, 1) := by decide +kernel
theorem dX4_givenAhead_1 : decode cX4_givenAhead 1 = .ok (.ifCond .lt 22, 3) := by decide +kernel
theorem dX4_givenAhead_4 : decode cX4_givenAhead 4 = .ok (.iload_n 1, 1) := by decide +kernel
theorem dX4_givenAhead_5 : decode cX4_givenAhead 5 = .ok (.aload_n 0, 1) := by decide +kernel
theorem dX4_givenAhead_6 : decode cX4_givenAhead 6 = .ok (.getfield 9, 3) := by decide +kernel
theorem dX4_givenAhead_9 : decode cX4_givenAhead 9 = .ok (.arraylength, 1) := by decide +kernel
theorem dX4_givenAhead_10 : decode cX4_givenAhead 10 = .ok (.if_icmp .ge 13, 3) := by decide +kernel
theorem dX4_givenAhead_13 : decode cX4_givenAhead 13 = .ok (.aload_n 0, 1) := by decide +kernel
theorem dX4_givenAhead_14 : decode cX4_givenAhead 14 = .ok (.getfield 9, 3) := by decide +kernel
theorem dX4_givenAhead_17 : decode cX4_givenAhead 17 = .ok (.iload_n 1, 1) := by decide +kernel
theorem dX4_givenAhead_18 : decode cX4_givenAhead 18 = .ok (.iaload, 1) := by decide +kernel
theorem dX4_givenAhead_19 : decode cX4_givenAhead 19 = .ok (.i2l, 1) := by decide +kernel
theorem dX4_givenAhead_20 : decode cX4_givenAhead 20 = .ok (.goto 4, 3) := by decide +kernel
theorem dX4_givenAhead_23 : decode cX4_givenAhead 23 = .ok (.lconst 0, 1) := by decide +kernel
theorem dX4_givenAhead_24 : decode cX4_givenAhead 24 = .ok (.lstore_n 3, 1) := by decide +kernel
theorem dX4_givenAhead_25 : decode cX4_givenAhead 25 = .ok (.lload_n 3, 1) := by decide +kernel
theorem dX4_givenAhead_26 : decode cX4_givenAhead 26 = .ok (.lconst 0, 1) := by decide +kernel
theorem dX4_givenAhead_27 : decode cX4_givenAhead 27 = .ok (.lcmp, 1) := by decide +kernel
theorem dX4_givenAhead_28 : decode cX4_givenAhead 28 = .ok (.ifCond .gt 5, 3) := by decide +kernel
theorem dX4_givenAhead_31 : decode cX4_givenAhead 31 = .ok (.lconst 0, 1) := by decide +kernel
theorem dX4_givenAhead_32 : decode cX4_givenAhead 32 = .ok (.lreturn, 1) := by decide +kernel
theorem dX4_givenAhead_33 : decode cX4_givenAhead 33 = .ok (.iload_n 2, 1) := by decide +kernel
theorem dX4_givenAhead_34 : decode cX4_givenAhead 34 = .ok (.i2l, 1) := by decide +kernel
theorem dX4_givenAhead_35 : decode cX4_givenAhead 35 = .ok (.lstore 5, 2) := by decide +kernel
theorem dX4_givenAhead_37 : decode cX4_givenAhead 37 = .ok (.iconst 0, 1) := by decide +kernel
theorem dX4_givenAhead_38 : decode cX4_givenAhead 38 = .ok (.istore 7, 2) := by decide +kernel
theorem dX4_givenAhead_40 : decode cX4_givenAhead 40 = .ok (.iload 7, 2) := by decide +kernel
theorem dX4_givenAhead_42 : decode cX4_givenAhead 42 = .ok (.aload_n 0, 1) := by decide +kernel
theorem dX4_givenAhead_43 : decode cX4_givenAhead 43 = .ok (.getfield 9, 3) := by decide +kernel
theorem dX4_givenAhead_46 : decode cX4_givenAhead 46 = .ok (.arraylength, 1) := by decide +kernel
theorem dX4_givenAhead_47 : decode cX4_givenAhead 47 = .ok (.if_icmp .ge 81, 3) := by decide +kernel
theorem dX4_givenAhead_50 : decode cX4_givenAhead 50 = .ok (.iload_n 2, 1) := by decide +kernel
theorem dX4_givenAhead_51 : decode cX4_givenAhead 51 = .ok (.i2l, 1) := by decide +kernel
theorem dX4_givenAhead_52 : decode cX4_givenAhead 52 = .ok (.aload_n 0, 1) := by decide +kernel
theorem dX4_givenAhead_53 : decode cX4_givenAhead 53 = .ok (.getfield 9, 3) := by decide +kernel
theorem dX4_givenAhead_56 : decode cX4_givenAhead 56 = .ok (.iload 7, 2) := by decide +kernel
theorem dX4_givenAhead_58 : decode cX4_givenAhead 58 = .ok (.iaload, 1) := by decide +kernel
theorem dX4_givenAhead_59 : decode cX4_givenAhead 59 = .ok (.i2l, 1) := by decide +kernel
theorem dX4_givenAhead_60 : decode cX4_givenAhead 60 = .ok (.lmul, 1) := by decide +kernel
theorem dX4_givenAhead_61 : decode cX4_givenAhead 61 = .ok (.lstore 8, 2) := by decide +kernel
theorem dX4_givenAhead_63 : decode cX4_givenAhead 63 = .ok (.aload_n 0, 1) := by decide +kernel
theorem dX4_givenAhead_64 : decode cX4_givenAhead 64 = .ok (.getfield 9, 3) := by decide +kernel
theorem dX4_givenAhead_67 : decode cX4_givenAhead 67 = .ok (.iload 7, 2) := by decide +kernel
theorem dX4_givenAhead_69 : decode cX4_givenAhead 69 = .ok (.iaload, 1) := by decide +kernel
theorem dX4_givenAhead_70 : decode cX4_givenAhead 70 = .ok (.ifCond .le 23, 3) := by decide +kernel
theorem dX4_givenAhead_73 : decode cX4_givenAhead 73 = .ok (.iload 7, 2) := by decide +kernel
theorem dX4_givenAhead_75 : decode cX4_givenAhead 75 = .ok (.iload_n 1, 1) := by decide +kernel
theorem dX4_givenAhead_76 : decode cX4_givenAhead 76 = .ok (.if_icmp .ge 17, 3) := by decide +kernel
theorem dX4_givenAhead_79 : decode cX4_givenAhead 79 = .ok (.lload 5, 2) := by decide +kernel
theorem dX4_givenAhead_81 : decode cX4_givenAhead 81 = .ok (.lload 8, 2) := by decide +kernel
theorem dX4_givenAhead_83 : decode cX4_givenAhead 83 = .ok (.lload_n 3, 1) := by decide +kernel
theorem dX4_givenAhead_84 : decode cX4_givenAhead 84 = .ok (.ldiv, 1) := by decide +kernel
theorem dX4_givenAhead_85 : decode cX4_givenAhead 85 = .ok (.lconst 1, 1) := by decide +kernel
theorem dX4_givenAhead_86 : decode cX4_givenAhead 86 = .ok (.ladd, 1) := by decide +kernel
theorem dX4_givenAhead_87 : decode cX4_givenAhead 87 = .ok (.ladd, 1) := by decide +kernel
theorem dX4_givenAhead_88 : decode cX4_givenAhead 88 = .ok (.lstore 5, 2) := by decide +kernel
theorem dX4_givenAhead_90 : decode cX4_givenAhead 90 = .ok (.goto 32, 3) := by decide +kernel
theorem dX4_givenAhead_93 : decode cX4_givenAhead 93 = .ok (.aload_n 0, 1) := by decide +kernel
theorem dX4_givenAhead_94 : decode cX4_givenAhead 94 = .ok (.getfield 9, 3) := by decide +kernel
theorem dX4_givenAhead_97 : decode cX4_givenAhead 97 = .ok (.iload 7, 2) := by decide +kernel
theorem dX4_givenAhead_99 : decode cX4_givenAhead 99 = .ok (.iaload, 1) := by decide +kernel
theorem dX4_givenAhead_100 : decode cX4_givenAhead 100 = .ok (.ifCond .le 22, 3) := by decide +kernel
theorem dX4_givenAhead_103 : decode cX4_givenAhead 103 = .ok (.iload 7, 2) := by decide +kernel
theorem dX4_givenAhead_105 : decode cX4_givenAhead 105 = .ok (.iload_n 1, 1) := by decide +kernel
theorem dX4_givenAhead_106 : decode cX4_givenAhead 106 = .ok (.if_icmp .le 16, 3) := by decide +kernel
theorem dX4_givenAhead_109 : decode cX4_givenAhead 109 = .ok (.lload 5, 2) := by decide +kernel
theorem dX4_givenAhead_111 : decode cX4_givenAhead 111 = .ok (.lload 8, 2) := by decide +kernel
theorem dX4_givenAhead_113 : decode cX4_givenAhead 113 = .ok (.lload_n 3, 1) := by decide +kernel
theorem dX4_givenAhead_114 : decode cX4_givenAhead 114 = .ok (.ladd, 1) := by decide +kernel
theorem dX4_givenAhead_115 : decode cX4_givenAhead 115 = .ok (.lconst 1, 1) := by decide +kernel
theorem dX4_givenAhead_116 : decode cX4_givenAhead 116 = .ok (.lsub, 1) := by decide +kernel
theorem dX4_givenAhead_117 : decode cX4_givenAhead 117 = .ok (.lload_n 3, 1) := by decide +kernel
theorem dX4_givenAhead_118 : decode cX4_givenAhead 118 = .ok (.ldiv, 1) := by decide +kernel
theorem dX4_givenAhead_119 : decode cX4_givenAhead 119 = .ok (.ladd, 1) := by decide +kernel
theorem dX4_givenAhead_120 : decode cX4_givenAhead 120 = .ok (.lstore 5, 2) := by decide +kernel
theorem dX4_givenAhead_122 : decode cX4_givenAhead 122 = .ok (.iinc 7 1, 3) := by decide +kernel
theorem dX4_givenAhead_125 : decode cX4_givenAhead 125 = .ok (.goto (-85), 3) := by decide +kernel
theorem dX4_givenAhead_128 : decode cX4_givenAhead 128 = .ok (.lload 5, 2) := by decide +kernel
theorem dX4_givenAhead_130 : decode cX4_givenAhead 130 = .ok (.lreturn, 1) := by decide +kernel
theorem dX4_handedOut_0 : decode cX4_handedOut 0 = .ok (.iconst 0, 1) := by decide +kernel
theorem dX4_handedOut_1 : decode cX4_handedOut 1 = .ok (.istore_n 2, 1) := by decide +kernel
theorem dX4_handedOut_2 : decode cX4_handedOut 2 = .ok (.iload_n 2, 1) := by decide +kernel
theorem dX4_handedOut_3 : decode cX4_handedOut 3 = .ok (.aload_n 0, 1) := by decide +kernel
theorem dX4_handedOut_4 : decode cX4_handedOut 4 = .ok (.getfield 15, 3) := by decide +kernel
theorem dX4_handedOut_7 : decode cX4_handedOut 7 = .ok (.arraylength, 1) := by decide +kernel
theorem dX4_handedOut_8 : decode cX4_handedOut 8 = .ok (.if_icmp .ge 16, 3) := by decide +kernel
theorem dX4_handedOut_11 : decode cX4_handedOut 11 = .ok (.aload_n 0, 1) := by decide +kernel
theorem dX4_handedOut_12 : decode cX4_handedOut 12 = .ok (.getfield 15, 3) := by decide +kernel
theorem dX4_handedOut_15 : decode cX4_handedOut 15 = .ok (.iload_n 2, 1) := by decide +kernel
theorem dX4_handedOut_16 : decode cX4_handedOut 16 = .ok (.iconst 0, 1) := by decide +kernel
theorem dX4_handedOut_17 : decode cX4_handedOut 17 = .ok (.iastore, 1) := by decide +kernel
theorem dX4_handedOut_18 : decode cX4_handedOut 18 = .ok (.iinc 2 1, 3) := by decide +kernel
theorem dX4_handedOut_21 : decode cX4_handedOut 21 = .ok (.goto (-19), 3) := by decide +kernel
theorem dX4_handedOut_24 : decode cX4_handedOut 24 = .ok (.aload_n 0, 1) := by decide +kernel
theorem dX4_handedOut_25 : decode cX4_handedOut 25 = .ok (.invokevirtual 26, 3) := by decide +kernel
theorem dX4_handedOut_28 : decode cX4_handedOut 28 = .ok (.istore_n 2, 1) := by decide +kernel
theorem dX4_handedOut_29 : decode cX4_handedOut 29 = .ok (.iconst 0, 1) := by decide +kernel
theorem dX4_handedOut_30 : decode cX4_handedOut 30 = .ok (.istore_n 3, 1) := by decide +kernel
theorem dX4_handedOut_31 : decode cX4_handedOut 31 = .ok (.iload_n 3, 1) := by decide +kernel
theorem dX4_handedOut_32 : decode cX4_handedOut 32 = .ok (.aload_n 0, 1) := by decide +kernel
theorem dX4_handedOut_33 : decode cX4_handedOut 33 = .ok (.getfield 18, 3) := by decide +kernel
theorem dX4_handedOut_36 : decode cX4_handedOut 36 = .ok (.if_icmp .ge 37, 3) := by decide +kernel
theorem dX4_handedOut_39 : decode cX4_handedOut 39 = .ok (.iload_n 2, 1) := by decide +kernel
theorem dX4_handedOut_40 : decode cX4_handedOut 40 = .ok (.ifCond .lt 33, 3) := by decide +kernel
theorem dX4_handedOut_43 : decode cX4_handedOut 43 = .ok (.iload_n 2, 1) := by decide +kernel
theorem dX4_handedOut_44 : decode cX4_handedOut 44 = .ok (.aload_n 0, 1) := by decide +kernel
theorem dX4_handedOut_45 : decode cX4_handedOut 45 = .ok (.getfield 15, 3) := by decide +kernel
theorem dX4_handedOut_48 : decode cX4_handedOut 48 = .ok (.arraylength, 1) := by decide +kernel
theorem dX4_handedOut_49 : decode cX4_handedOut 49 = .ok (.if_icmp .ge 24, 3) := by decide +kernel
theorem dX4_handedOut_52 : decode cX4_handedOut 52 = .ok (.aload_n 0, 1) := by decide +kernel
theorem dX4_handedOut_53 : decode cX4_handedOut 53 = .ok (.getfield 15, 3) := by decide +kernel
theorem dX4_handedOut_56 : decode cX4_handedOut 56 = .ok (.iload_n 2, 1) := by decide +kernel
theorem dX4_handedOut_57 : decode cX4_handedOut 57 = .ok (.dup2, 1) := by decide +kernel
theorem dX4_handedOut_58 : decode cX4_handedOut 58 = .ok (.iaload, 1) := by decide +kernel
theorem dX4_handedOut_59 : decode cX4_handedOut 59 = .ok (.iconst 1, 1) := by decide +kernel
theorem dX4_handedOut_60 : decode cX4_handedOut 60 = .ok (.iadd, 1) := by decide +kernel
theorem dX4_handedOut_61 : decode cX4_handedOut 61 = .ok (.iastore, 1) := by decide +kernel
theorem dX4_handedOut_62 : decode cX4_handedOut 62 = .ok (.aload_n 0, 1) := by decide +kernel
theorem dX4_handedOut_63 : decode cX4_handedOut 63 = .ok (.invokevirtual 26, 3) := by decide +kernel
theorem dX4_handedOut_66 : decode cX4_handedOut 66 = .ok (.istore_n 2, 1) := by decide +kernel
theorem dX4_handedOut_67 : decode cX4_handedOut 67 = .ok (.iinc 3 1, 3) := by decide +kernel
theorem dX4_handedOut_70 : decode cX4_handedOut 70 = .ok (.goto (-39), 3) := by decide +kernel
theorem dX4_handedOut_73 : decode cX4_handedOut 73 = .ok (.iload_n 1, 1) := by decide +kernel
theorem dX4_handedOut_74 : decode cX4_handedOut 74 = .ok (.ifCond .lt 21, 3) := by decide +kernel
theorem dX4_handedOut_77 : decode cX4_handedOut 77 = .ok (.iload_n 1, 1) := by decide +kernel
theorem dX4_handedOut_78 : decode cX4_handedOut 78 = .ok (.aload_n 0, 1) := by decide +kernel
theorem dX4_handedOut_79 : decode cX4_handedOut 79 = .ok (.getfield 15, 3) := by decide +kernel
theorem dX4_handedOut_82 : decode cX4_handedOut 82 = .ok (.arraylength, 1) := by decide +kernel
theorem dX4_handedOut_83 : decode cX4_handedOut 83 = .ok (.if_icmp .ge 12, 3) := by decide +kernel
theorem dX4_handedOut_86 : decode cX4_handedOut 86 = .ok (.aload_n 0, 1) := by decide +kernel
theorem dX4_handedOut_87 : decode cX4_handedOut 87 = .ok (.getfield 15, 3) := by decide +kernel
theorem dX4_handedOut_90 : decode cX4_handedOut 90 = .ok (.iload_n 1, 1) := by decide +kernel
theorem dX4_handedOut_91 : decode cX4_handedOut 91 = .ok (.iaload, 1) := by decide +kernel
theorem dX4_handedOut_92 : decode cX4_handedOut 92 = .ok (.goto 4, 3) := by decide +kernel
theorem dX4_handedOut_95 : decode cX4_handedOut 95 = .ok (.iconst 0, 1) := by decide +kernel
theorem dX4_handedOut_96 : decode cX4_handedOut 96 = .ok (.ireturn, 1) := by decide +kernel
theorem dX4_nextToGet_0 : decode cX4_nextToGet 0 = .ok (.iconst (-1), 1) := by decide +kernel
theorem dX4_nextToGet_1 : decode cX4_nextToGet 1 = .ok (.istore_n 1, 1) := by decide +kernel
theorem dX4_nextToGet_2 : decode cX4_nextToGet 2 = .ok (.lconst 0, 1) := by decide +kernel
theorem dX4_nextToGet_3 : decode cX4_nextToGet 3 = .ok (.lstore_n 2, 1) := by decide +kernel
theorem dX4_nextToGet_4 : decode cX4_nextToGet 4 = .ok (.lconst 1, 1) := by decide +kernel
theorem dX4_nextToGet_5 : decode cX4_nextToGet 5 = .ok (.lstore 4, 2) := by decide +kernel
theorem dX4_nextToGet_7 : decode cX4_nextToGet 7 = .ok (.iconst 0, 1) := by decide +kernel
theorem dX4_nextToGet_8 : decode cX4_nextToGet 8 = .ok (.istore 6, 2) := by decide +kernel
theorem dX4_nextToGet_10 : decode cX4_nextToGet 10 = .ok (.iload 6, 2) := by decide +kernel
theorem dX4_nextToGet_12 : decode cX4_nextToGet 12 = .ok (.aload_n 0, 1) := by decide +kernel
theorem dX4_nextToGet_13 : decode cX4_nextToGet 13 = .ok (.getfield 15, 3) := by decide +kernel
theorem dX4_nextToGet_16 : decode cX4_nextToGet 16 = .ok (.arraylength, 1) := by decide +kernel
theorem dX4_nextToGet_17 : decode cX4_nextToGet 17 = .ok (.if_icmp .ge 99, 3) := by decide +kernel
theorem dX4_nextToGet_20 : decode cX4_nextToGet 20 = .ok (.iload 6, 2) := by decide +kernel
theorem dX4_nextToGet_22 : decode cX4_nextToGet 22 = .ok (.aload_n 0, 1) := by decide +kernel
theorem dX4_nextToGet_23 : decode cX4_nextToGet 23 = .ok (.getfield 9, 3) := by decide +kernel
theorem dX4_nextToGet_26 : decode cX4_nextToGet 26 = .ok (.arraylength, 1) := by decide +kernel
theorem dX4_nextToGet_27 : decode cX4_nextToGet 27 = .ok (.if_icmp .ge 89, 3) := by decide +kernel
theorem dX4_nextToGet_30 : decode cX4_nextToGet 30 = .ok (.aload_n 0, 1) := by decide +kernel
theorem dX4_nextToGet_31 : decode cX4_nextToGet 31 = .ok (.getfield 15, 3) := by decide +kernel
theorem dX4_nextToGet_34 : decode cX4_nextToGet 34 = .ok (.iload 6, 2) := by decide +kernel
theorem dX4_nextToGet_36 : decode cX4_nextToGet 36 = .ok (.iaload, 1) := by decide +kernel
theorem dX4_nextToGet_37 : decode cX4_nextToGet 37 = .ok (.aload_n 0, 1) := by decide +kernel
theorem dX4_nextToGet_38 : decode cX4_nextToGet 38 = .ok (.getfield 9, 3) := by decide +kernel
theorem dX4_nextToGet_41 : decode cX4_nextToGet 41 = .ok (.iload 6, 2) := by decide +kernel
theorem dX4_nextToGet_43 : decode cX4_nextToGet 43 = .ok (.iaload, 1) := by decide +kernel
theorem dX4_nextToGet_44 : decode cX4_nextToGet 44 = .ok (.if_icmp .ge 7, 3) := by decide +kernel
theorem dX4_nextToGet_47 : decode cX4_nextToGet 47 = .ok (.iconst 1, 1) := by decide +kernel
theorem dX4_nextToGet_48 : decode cX4_nextToGet 48 = .ok (.goto 4, 3) := by decide +kernel
theorem dX4_nextToGet_51 : decode cX4_nextToGet 51 = .ok (.iconst 0, 1) := by decide +kernel
theorem dX4_nextToGet_52 : decode cX4_nextToGet 52 = .ok (.istore 7, 2) := by decide +kernel
theorem dX4_nextToGet_54 : decode cX4_nextToGet 54 = .ok (.iload 7, 2) := by decide +kernel
theorem dX4_nextToGet_56 : decode cX4_nextToGet 56 = .ok (.ifCond .eq 54, 3) := by decide +kernel
theorem dX4_nextToGet_59 : decode cX4_nextToGet 59 = .ok (.iload_n 1, 1) := by decide +kernel
theorem dX4_nextToGet_60 : decode cX4_nextToGet 60 = .ok (.ifCond .lt 28, 3) := by decide +kernel
theorem dX4_nextToGet_63 : decode cX4_nextToGet 63 = .ok (.aload_n 0, 1) := by decide +kernel
theorem dX4_nextToGet_64 : decode cX4_nextToGet 64 = .ok (.getfield 15, 3) := by decide +kernel
theorem dX4_nextToGet_67 : decode cX4_nextToGet 67 = .ok (.iload 6, 2) := by decide +kernel
theorem dX4_nextToGet_69 : decode cX4_nextToGet 69 = .ok (.iaload, 1) := by decide +kernel
theorem dX4_nextToGet_70 : decode cX4_nextToGet 70 = .ok (.i2l, 1) := by decide +kernel
theorem dX4_nextToGet_71 : decode cX4_nextToGet 71 = .ok (.lload 4, 2) := by decide +kernel
theorem dX4_nextToGet_73 : decode cX4_nextToGet 73 = .ok (.lmul, 1) := by decide +kernel
theorem dX4_nextToGet_74 : decode cX4_nextToGet 74 = .ok (.lload_n 2, 1) := by decide +kernel
theorem dX4_nextToGet_75 : decode cX4_nextToGet 75 = .ok (.aload_n 0, 1) := by decide +kernel
theorem dX4_nextToGet_76 : decode cX4_nextToGet 76 = .ok (.getfield 9, 3) := by decide +kernel
theorem dX4_nextToGet_79 : decode cX4_nextToGet 79 = .ok (.iload 6, 2) := by decide +kernel
theorem dX4_nextToGet_81 : decode cX4_nextToGet 81 = .ok (.iaload, 1) := by decide +kernel
theorem dX4_nextToGet_82 : decode cX4_nextToGet 82 = .ok (.i2l, 1) := by decide +kernel
theorem dX4_nextToGet_83 : decode cX4_nextToGet 83 = .ok (.lmul, 1) := by decide +kernel
theorem dX4_nextToGet_84 : decode cX4_nextToGet 84 = .ok (.lcmp, 1) := by decide +kernel
theorem dX4_nextToGet_85 : decode cX4_nextToGet 85 = .ok (.ifCond .ge 25, 3) := by decide +kernel
theorem dX4_nextToGet_88 : decode cX4_nextToGet 88 = .ok (.iload 6, 2) := by decide +kernel
theorem dX4_nextToGet_90 : decode cX4_nextToGet 90 = .ok (.istore_n 1, 1) := by decide +kernel
theorem dX4_nextToGet_91 : decode cX4_nextToGet 91 = .ok (.aload_n 0, 1) := by decide +kernel
theorem dX4_nextToGet_92 : decode cX4_nextToGet 92 = .ok (.getfield 15, 3) := by decide +kernel
theorem dX4_nextToGet_95 : decode cX4_nextToGet 95 = .ok (.iload 6, 2) := by decide +kernel
theorem dX4_nextToGet_97 : decode cX4_nextToGet 97 = .ok (.iaload, 1) := by decide +kernel
theorem dX4_nextToGet_98 : decode cX4_nextToGet 98 = .ok (.i2l, 1) := by decide +kernel
theorem dX4_nextToGet_99 : decode cX4_nextToGet 99 = .ok (.lstore_n 2, 1) := by decide +kernel
theorem dX4_nextToGet_100 : decode cX4_nextToGet 100 = .ok (.aload_n 0, 1) := by decide +kernel
theorem dX4_nextToGet_101 : decode cX4_nextToGet 101 = .ok (.getfield 9, 3) := by decide +kernel
theorem dX4_nextToGet_104 : decode cX4_nextToGet 104 = .ok (.iload 6, 2) := by decide +kernel
theorem dX4_nextToGet_106 : decode cX4_nextToGet 106 = .ok (.iaload, 1) := by decide +kernel
theorem dX4_nextToGet_107 : decode cX4_nextToGet 107 = .ok (.i2l, 1) := by decide +kernel
theorem dX4_nextToGet_108 : decode cX4_nextToGet 108 = .ok (.lstore 4, 2) := by decide +kernel
theorem dX4_nextToGet_110 : decode cX4_nextToGet 110 = .ok (.iinc 6 1, 3) := by decide +kernel
theorem dX4_nextToGet_113 : decode cX4_nextToGet 113 = .ok (.goto (-103), 3) := by decide +kernel
theorem dX4_nextToGet_116 : decode cX4_nextToGet 116 = .ok (.iload_n 1, 1) := by decide +kernel
theorem dX4_nextToGet_117 : decode cX4_nextToGet 117 = .ok (.ireturn, 1) := by decide +kernel
theorem dX5_init_0 : decode cX5_init 0 = .ok (.aload_n 0, 1) := by decide +kernel
theorem dX5_init_1 : decode cX5_init 1 = .ok (.invokespecial 3, 3) := by decide +kernel
theorem dX5_init_4 : decode cX5_init 4 = .ok (.aload_n 0, 1) := by decide +kernel
theorem dX5_init_5 : decode cX5_init 5 = .ok (.iconst 4, 1) := by decide +kernel
theorem dX5_init_6 : decode cX5_init 6 = .ok (.newarray .int, 2) := by decide +kernel
theorem dX5_init_8 : decode cX5_init 8 = .ok (.putfield 9, 3) := by decide +kernel
theorem dX5_init_11 : decode cX5_init 11 = .ok (.aload_n 0, 1) := by decide +kernel
theorem dX5_init_12 : decode cX5_init 12 = .ok (.iconst 5, 1) := by decide +kernel
theorem dX5_init_13 : decode cX5_init 13 = .ok (.anewarray 13, 3) := by decide +kernel
theorem dX5_init_16 : decode cX5_init 16 = .ok (.putfield 15, 3) := by decide +kernel
theorem dX5_init_19 : decode cX5_init 19 = .ok (.aload_n 0, 1) := by decide +kernel
theorem dX5_init_20 : decode cX5_init 20 = .ok (.bipush 20, 2) := by decide +kernel
theorem dX5_init_22 : decode cX5_init 22 = .ok (.anewarray 19, 3) := by decide +kernel
theorem dX5_init_25 : decode cX5_init 25 = .ok (.putfield 21, 3) := by decide +kernel
theorem dX5_init_28 : decode cX5_init 28 = .ok (.aload_n 0, 1) := by decide +kernel
theorem dX5_init_29 : decode cX5_init 29 = .ok (.new 25, 3) := by decide +kernel
theorem dX5_init_32 : decode cX5_init 32 = .ok (.dup, 1) := by decide +kernel
theorem dX5_init_33 : decode cX5_init 33 = .ok (.invokespecial 27, 3) := by decide +kernel
theorem dX5_init_36 : decode cX5_init 36 = .ok (.putfield 28, 3) := by decide +kernel
theorem dX5_init_39 : decode cX5_init 39 = .ok (.aload_n 0, 1) := by decide +kernel
theorem dX5_init_40 : decode cX5_init 40 = .ok (.new 25, 3) := by decide +kernel
theorem dX5_init_43 : decode cX5_init 43 = .ok (.dup, 1) := by decide +kernel
theorem dX5_init_44 : decode cX5_init 44 = .ok (.invokespecial 27, 3) := by decide +kernel
theorem dX5_init_47 : decode cX5_init 47 = .ok (.putfield 32, 3) := by decide +kernel
theorem dX5_init_50 : decode cX5_init 50 = .ok (.aload_n 0, 1) := by decide +kernel
theorem dX5_init_51 : decode cX5_init 51 = .ok (.new 35, 3) := by decide +kernel
theorem dX5_init_54 : decode cX5_init 54 = .ok (.dup, 1) := by decide +kernel
theorem dX5_init_55 : decode cX5_init 55 = .ok (.invokespecial 37, 3) := by decide +kernel
theorem dX5_init_58 : decode cX5_init 58 = .ok (.putfield 38, 3) := by decide +kernel
theorem dX5_init_61 : decode cX5_init 61 = .ok (.aload_n 0, 1) := by decide +kernel
theorem dX5_init_62 : decode cX5_init 62 = .ok (.new 42, 3) := by decide +kernel
theorem dX5_init_65 : decode cX5_init 65 = .ok (.dup, 1) := by decide +kernel
theorem dX5_init_66 : decode cX5_init 66 = .ok (.invokespecial 44, 3) := by decide +kernel
theorem dX5_init_69 : decode cX5_init 69 = .ok (.putfield 45, 3) := by decide +kernel
theorem dX5_init_72 : decode cX5_init 72 = .ok (.aload_n 0, 1) := by decide +kernel
theorem dX5_init_73 : decode cX5_init 73 = .ok (.iconst 0, 1) := by decide +kernel
theorem dX5_init_74 : decode cX5_init 74 = .ok (.putfield 49, 3) := by decide +kernel
theorem dX5_init_77 : decode cX5_init 77 = .ok (.aload_n 0, 1) := by decide +kernel
theorem dX5_init_78 : decode cX5_init 78 = .ok (.iconst 0, 1) := by decide +kernel
theorem dX5_init_79 : decode cX5_init 79 = .ok (.putfield 53, 3) := by decide +kernel
theorem dX5_init_82 : decode cX5_init 82 = .ok (.aload_n 0, 1) := by decide +kernel
theorem dX5_init_83 : decode cX5_init 83 = .ok (.iconst 0, 1) := by decide +kernel
theorem dX5_init_84 : decode cX5_init 84 = .ok (.putfield 56, 3) := by decide +kernel
theorem dX5_init_87 : decode cX5_init 87 = .ok (.aload_n 0, 1) := by decide +kernel
theorem dX5_init_88 : decode cX5_init 88 = .ok (.iconst 0, 1) := by decide +kernel
theorem dX5_init_89 : decode cX5_init 89 = .ok (.putfield 59, 3) := by decide +kernel
theorem dX5_init_92 : decode cX5_init 92 = .ok (.aload_n 0, 1) := by decide +kernel
theorem dX5_init_93 : decode cX5_init 93 = .ok (.bipush 90, 2) := by decide +kernel
theorem dX5_init_95 : decode cX5_init 95 = .ok (.putfield 62, 3) := by decide +kernel
theorem dX5_init_98 : decode cX5_init 98 = .ok (.aload_n 0, 1) := by decide +kernel
theorem dX5_init_99 : decode cX5_init 99 = .ok (.bipush 20, 2) := by decide +kernel
theorem dX5_init_101 : decode cX5_init 101 = .ok (.putfield 65, 3) := by decide +kernel
theorem dX5_init_104 : decode cX5_init 104 = .ok (.aload_n 0, 1) := by decide +kernel
theorem dX5_init_105 : decode cX5_init 105 = .ok (.bipush 10, 2) := by decide +kernel
theorem dX5_init_107 : decode cX5_init 107 = .ok (.putfield 68, 3) := by decide +kernel
theorem dX5_init_110 : decode cX5_init 110 = .ok (.return_, 1) := by decide +kernel
theorem dX5_addShop_0 : decode cX5_addShop 0 = .ok (.iload_n 1, 1) := by decide +kernel
theorem dX5_addShop_1 : decode cX5_addShop 1 = .ok (.iconst 1, 1) := by decide +kernel
theorem dX5_addShop_2 : decode cX5_addShop 2 = .ok (.if_icmp .lt 8, 3) := by decide +kernel
theorem dX5_addShop_5 : decode cX5_addShop 5 = .ok (.iload_n 1, 1) := by decide +kernel
theorem dX5_addShop_6 : decode cX5_addShop 6 = .ok (.iconst 5, 1) := by decide +kernel
theorem dX5_addShop_7 : decode cX5_addShop 7 = .ok (.if_icmp .le 13, 3) := by decide +kernel
theorem dX5_addShop_10 : decode cX5_addShop 10 = .ok (.new 71, 3) := by decide +kernel
theorem dX5_addShop_13 : decode cX5_addShop 13 = .ok (.dup, 1) := by decide +kernel
theorem dX5_addShop_14 : decode cX5_addShop 14 = .ok (.ldc 73, 2) := by decide +kernel
theorem dX5_addShop_16 : decode cX5_addShop 16 = .ok (.invokespecial 75, 3) := by decide +kernel
theorem dX5_addShop_19 : decode cX5_addShop 19 = .ok (.athrow, 1) := by decide +kernel
theorem dX5_addShop_20 : decode cX5_addShop 20 = .ok (.aload_n 0, 1) := by decide +kernel
theorem dX5_addShop_21 : decode cX5_addShop 21 = .ok (.getfield 49, 3) := by decide +kernel
theorem dX5_addShop_24 : decode cX5_addShop 24 = .ok (.aload_n 0, 1) := by decide +kernel
theorem dX5_addShop_25 : decode cX5_addShop 25 = .ok (.getfield 9, 3) := by decide +kernel
theorem dX5_addShop_28 : decode cX5_addShop 28 = .ok (.arraylength, 1) := by decide +kernel
theorem dX5_addShop_29 : decode cX5_addShop 29 = .ok (.if_icmp .lt 13, 3) := by decide +kernel
theorem dX5_addShop_32 : decode cX5_addShop 32 = .ok (.new 78, 3) := by decide +kernel
theorem dX5_addShop_35 : decode cX5_addShop 35 = .ok (.dup, 1) := by decide +kernel
theorem dX5_addShop_36 : decode cX5_addShop 36 = .ok (.ldc 80, 2) := by decide +kernel
theorem dX5_addShop_38 : decode cX5_addShop 38 = .ok (.invokespecial 82, 3) := by decide +kernel
theorem dX5_addShop_41 : decode cX5_addShop 41 = .ok (.athrow, 1) := by decide +kernel
theorem dX5_addShop_42 : decode cX5_addShop 42 = .ok (.aload_n 0, 1) := by decide +kernel
theorem dX5_addShop_43 : decode cX5_addShop 43 = .ok (.getfield 9, 3) := by decide +kernel
theorem dX5_addShop_46 : decode cX5_addShop 46 = .ok (.aload_n 0, 1) := by decide +kernel
theorem dX5_addShop_47 : decode cX5_addShop 47 = .ok (.getfield 49, 3) := by decide +kernel
theorem dX5_addShop_50 : decode cX5_addShop 50 = .ok (.iload_n 1, 1) := by decide +kernel
theorem dX5_addShop_51 : decode cX5_addShop 51 = .ok (.iastore, 1) := by decide +kernel
theorem dX5_addShop_52 : decode cX5_addShop 52 = .ok (.aload_n 0, 1) := by decide +kernel
theorem dX5_addShop_53 : decode cX5_addShop 53 = .ok (.dup, 1) := by decide +kernel
theorem dX5_addShop_54 : decode cX5_addShop 54 = .ok (.getfield 49, 3) := by decide +kernel
theorem dX5_addShop_57 : decode cX5_addShop 57 = .ok (.iconst 1, 1) := by decide +kernel
theorem dX5_addShop_58 : decode cX5_addShop 58 = .ok (.iadd, 1) := by decide +kernel
theorem dX5_addShop_59 : decode cX5_addShop 59 = .ok (.putfield 49, 3) := by decide +kernel
theorem dX5_addShop_62 : decode cX5_addShop 62 = .ok (.aload_n 0, 1) := by decide +kernel
theorem dX5_addShop_63 : decode cX5_addShop 63 = .ok (.getfield 49, 3) := by decide +kernel
theorem dX5_addShop_66 : decode cX5_addShop 66 = .ok (.iconst 1, 1) := by decide +kernel
theorem dX5_addShop_67 : decode cX5_addShop 67 = .ok (.isub, 1) := by decide +kernel
theorem dX5_addShop_68 : decode cX5_addShop 68 = .ok (.ireturn, 1) := by decide +kernel
theorem dX5_addItem_0 : decode cX5_addItem 0 = .ok (.iload_n 1, 1) := by decide +kernel
theorem dX5_addItem_1 : decode cX5_addItem 1 = .ok (.iconst 1, 1) := by decide +kernel
theorem dX5_addItem_2 : decode cX5_addItem 2 = .ok (.if_icmp .lt 9, 3) := by decide +kernel
theorem dX5_addItem_5 : decode cX5_addItem 5 = .ok (.iload_n 1, 1) := by decide +kernel
theorem dX5_addItem_6 : decode cX5_addItem 6 = .ok (.bipush 50, 2) := by decide +kernel
theorem dX5_addItem_8 : decode cX5_addItem 8 = .ok (.if_icmp .le 13, 3) := by decide +kernel
theorem dX5_addItem_11 : decode cX5_addItem 11 = .ok (.new 71, 3) := by decide +kernel
theorem dX5_addItem_14 : decode cX5_addItem 14 = .ok (.dup, 1) := by decide +kernel
theorem dX5_addItem_15 : decode cX5_addItem 15 = .ok (.ldc 83, 2) := by decide +kernel
theorem dX5_addItem_17 : decode cX5_addItem 17 = .ok (.invokespecial 75, 3) := by decide +kernel
theorem dX5_addItem_20 : decode cX5_addItem 20 = .ok (.athrow, 1) := by decide +kernel
theorem dX5_addItem_21 : decode cX5_addItem 21 = .ok (.iload_n 2, 1) := by decide +kernel
theorem dX5_addItem_22 : decode cX5_addItem 22 = .ok (.ifCond .lt 10, 3) := by decide +kernel
theorem dX5_addItem_25 : decode cX5_addItem 25 = .ok (.iload_n 2, 1) := by decide +kernel
theorem dX5_addItem_26 : decode cX5_addItem 26 = .ok (.sipush 9999, 3) := by decide +kernel
theorem dX5_addItem_29 : decode cX5_addItem 29 = .ok (.if_icmp .le 13, 3) := by decide +kernel
theorem dX5_addItem_32 : decode cX5_addItem 32 = .ok (.new 71, 3) := by decide +kernel
theorem dX5_addItem_35 : decode cX5_addItem 35 = .ok (.dup, 1) := by decide +kernel
theorem dX5_addItem_36 : decode cX5_addItem 36 = .ok (.ldc 85, 2) := by decide +kernel
theorem dX5_addItem_38 : decode cX5_addItem 38 = .ok (.invokespecial 75, 3) := by decide +kernel
theorem dX5_addItem_41 : decode cX5_addItem 41 = .ok (.athrow, 1) := by decide +kernel
theorem dX5_addItem_42 : decode cX5_addItem 42 = .ok (.aload_n 0, 1) := by decide +kernel
theorem dX5_addItem_43 : decode cX5_addItem 43 = .ok (.getfield 53, 3) := by decide +kernel
theorem dX5_addItem_46 : decode cX5_addItem 46 = .ok (.aload_n 0, 1) := by decide +kernel
theorem dX5_addItem_47 : decode cX5_addItem 47 = .ok (.getfield 15, 3) := by decide +kernel
theorem dX5_addItem_50 : decode cX5_addItem 50 = .ok (.arraylength, 1) := by decide +kernel
theorem dX5_addItem_51 : decode cX5_addItem 51 = .ok (.if_icmp .lt 13, 3) := by decide +kernel
theorem dX5_addItem_54 : decode cX5_addItem 54 = .ok (.new 78, 3) := by decide +kernel
theorem dX5_addItem_57 : decode cX5_addItem 57 = .ok (.dup, 1) := by decide +kernel
theorem dX5_addItem_58 : decode cX5_addItem 58 = .ok (.ldc 87, 2) := by decide +kernel
theorem dX5_addItem_60 : decode cX5_addItem 60 = .ok (.invokespecial 82, 3) := by decide +kernel
theorem dX5_addItem_63 : decode cX5_addItem 63 = .ok (.athrow, 1) := by decide +kernel
theorem dX5_addItem_64 : decode cX5_addItem 64 = .ok (.aload_n 0, 1) := by decide +kernel
theorem dX5_addItem_65 : decode cX5_addItem 65 = .ok (.getfield 15, 3) := by decide +kernel
theorem dX5_addItem_68 : decode cX5_addItem 68 = .ok (.aload_n 0, 1) := by decide +kernel
theorem dX5_addItem_69 : decode cX5_addItem 69 = .ok (.getfield 53, 3) := by decide +kernel
theorem dX5_addItem_72 : decode cX5_addItem 72 = .ok (.new 13, 3) := by decide +kernel
theorem dX5_addItem_75 : decode cX5_addItem 75 = .ok (.dup, 1) := by decide +kernel
theorem dX5_addItem_76 : decode cX5_addItem 76 = .ok (.iload_n 1, 1) := by decide +kernel
theorem dX5_addItem_77 : decode cX5_addItem 77 = .ok (.iload_n 2, 1) := by decide +kernel
theorem dX5_addItem_78 : decode cX5_addItem 78 = .ok (.invokespecial 89, 3) := by decide +kernel
theorem dX5_addItem_81 : decode cX5_addItem 81 = .ok (.aastore, 1) := by decide +kernel
theorem dX5_addItem_82 : decode cX5_addItem 82 = .ok (.aload_n 0, 1) := by decide +kernel
theorem dX5_addItem_83 : decode cX5_addItem 83 = .ok (.dup, 1) := by decide +kernel
theorem dX5_addItem_84 : decode cX5_addItem 84 = .ok (.getfield 53, 3) := by decide +kernel
theorem dX5_addItem_87 : decode cX5_addItem 87 = .ok (.iconst 1, 1) := by decide +kernel
theorem dX5_addItem_88 : decode cX5_addItem 88 = .ok (.iadd, 1) := by decide +kernel
theorem dX5_addItem_89 : decode cX5_addItem 89 = .ok (.putfield 53, 3) := by decide +kernel
theorem dX5_addItem_92 : decode cX5_addItem 92 = .ok (.aload_n 0, 1) := by decide +kernel
theorem dX5_addItem_93 : decode cX5_addItem 93 = .ok (.getfield 53, 3) := by decide +kernel
theorem dX5_addItem_96 : decode cX5_addItem 96 = .ok (.iconst 1, 1) := by decide +kernel
theorem dX5_addItem_97 : decode cX5_addItem 97 = .ok (.isub, 1) := by decide +kernel
theorem dX5_addItem_98 : decode cX5_addItem 98 = .ok (.ireturn, 1) := by decide +kernel
theorem dX5_carry_0 : decode cX5_carry 0 = .ok (.aload_n 0, 1) := by decide +kernel
theorem dX5_carry_1 : decode cX5_carry 1 = .ok (.iload_n 1, 1) := by decide +kernel
theorem dX5_carry_2 : decode cX5_carry 2 = .ok (.invokevirtual 92, 3) := by decide +kernel
theorem dX5_carry_5 : decode cX5_carry 5 = .ok (.aload_n 0, 1) := by decide +kernel
theorem dX5_carry_6 : decode cX5_carry 6 = .ok (.iload_n 2, 1) := by decide +kernel
theorem dX5_carry_7 : decode cX5_carry 7 = .ok (.invokevirtual 96, 3) := by decide +kernel
theorem dX5_carry_10 : decode cX5_carry 10 = .ok (.astore 5, 2) := by decide +kernel
theorem dX5_carry_12 : decode cX5_carry 12 = .ok (.iload_n 3, 1) := by decide +kernel
theorem dX5_carry_13 : decode cX5_carry 13 = .ok (.ifCond .lt 10, 3) := by decide +kernel
theorem dX5_carry_16 : decode cX5_carry 16 = .ok (.iload_n 3, 1) := by decide +kernel
theorem dX5_carry_17 : decode cX5_carry 17 = .ok (.sipush 999, 3) := by decide +kernel
theorem dX5_carry_20 : decode cX5_carry 20 = .ok (.if_icmp .le 13, 3) := by decide +kernel
theorem dX5_carry_23 : decode cX5_carry 23 = .ok (.new 71, 3) := by decide +kernel
theorem dX5_carry_26 : decode cX5_carry 26 = .ok (.dup, 1) := by decide +kernel
theorem dX5_carry_27 : decode cX5_carry 27 = .ok (.ldc 100, 2) := by decide +kernel
theorem dX5_carry_29 : decode cX5_carry 29 = .ok (.invokespecial 75, 3) := by decide +kernel
theorem dX5_carry_32 : decode cX5_carry 32 = .ok (.athrow, 1) := by decide +kernel
theorem dX5_carry_33 : decode cX5_carry 33 = .ok (.iload 4, 2) := by decide +kernel
theorem dX5_carry_35 : decode cX5_carry 35 = .ok (.ifCond .lt 10, 3) := by decide +kernel
theorem dX5_carry_38 : decode cX5_carry 38 = .ok (.iload 4, 2) := by decide +kernel
theorem dX5_carry_40 : decode cX5_carry 40 = .ok (.ldc 102, 2) := by decide +kernel
theorem dX5_carry_42 : decode cX5_carry 42 = .ok (.if_icmp .le 13, 3) := by decide +kernel
theorem dX5_carry_45 : decode cX5_carry 45 = .ok (.new 71, 3) := by decide +kernel
theorem dX5_carry_48 : decode cX5_carry 48 = .ok (.dup, 1) := by decide +kernel
theorem dX5_carry_49 : decode cX5_carry 49 = .ok (.ldc 103, 2) := by decide +kernel
theorem dX5_carry_51 : decode cX5_carry 51 = .ok (.invokespecial 75, 3) := by decide +kernel
theorem dX5_carry_54 : decode cX5_carry 54 = .ok (.athrow, 1) := by decide +kernel
theorem dX5_carry_55 : decode cX5_carry 55 = .ok (.aload_n 0, 1) := by decide +kernel
theorem dX5_carry_56 : decode cX5_carry 56 = .ok (.iload_n 1, 1) := by decide +kernel
theorem dX5_carry_57 : decode cX5_carry 57 = .ok (.iload_n 2, 1) := by decide +kernel
theorem dX5_carry_58 : decode cX5_carry 58 = .ok (.invokevirtual 105, 3) := by decide +kernel
theorem dX5_carry_61 : decode cX5_carry 61 = .ok (.istore 6, 2) := by decide +kernel
theorem dX5_carry_63 : decode cX5_carry 63 = .ok (.iload 6, 2) := by decide +kernel
theorem dX5_carry_65 : decode cX5_carry 65 = .ok (.ifCond .lt 23, 3) := by decide +kernel
theorem dX5_carry_68 : decode cX5_carry 68 = .ok (.iload 6, 2) := by decide +kernel
theorem dX5_carry_70 : decode cX5_carry 70 = .ok (.aload_n 0, 1) := by decide +kernel
theorem dX5_carry_71 : decode cX5_carry 71 = .ok (.getfield 21, 3) := by decide +kernel
theorem dX5_carry_74 : decode cX5_carry 74 = .ok (.arraylength, 1) := by decide +kernel
theorem dX5_carry_75 : decode cX5_carry 75 = .ok (.if_icmp .ge 13, 3) := by decide +kernel
theorem dX5_carry_78 : decode cX5_carry 78 = .ok (.aload_n 0, 1) := by decide +kernel
theorem dX5_carry_79 : decode cX5_carry 79 = .ok (.getfield 21, 3) := by decide +kernel
theorem dX5_carry_82 : decode cX5_carry 82 = .ok (.iload 6, 2) := by decide +kernel
theorem dX5_carry_84 : decode cX5_carry 84 = .ok (.aaload, 1) := by decide +kernel
theorem dX5_carry_85 : decode cX5_carry 85 = .ok (.ifnull 13, 3) := by decide +kernel
theorem dX5_carry_88 : decode cX5_carry 88 = .ok (.new 78, 3) := by decide +kernel
theorem dX5_carry_91 : decode cX5_carry 91 = .ok (.dup, 1) := by decide +kernel
theorem dX5_carry_92 : decode cX5_carry 92 = .ok (.ldc 109, 2) := by decide +kernel
theorem dX5_carry_94 : decode cX5_carry 94 = .ok (.invokespecial 82, 3) := by decide +kernel
theorem dX5_carry_97 : decode cX5_carry 97 = .ok (.athrow, 1) := by decide +kernel
theorem dX5_carry_98 : decode cX5_carry 98 = .ok (.aload_n 0, 1) := by decide +kernel
theorem dX5_carry_99 : decode cX5_carry 99 = .ok (.getfield 21, 3) := by decide +kernel
theorem dX5_carry_102 : decode cX5_carry 102 = .ok (.iload 6, 2) := by decide +kernel
theorem dX5_carry_104 : decode cX5_carry 104 = .ok (.new 19, 3) := by decide +kernel
theorem dX5_carry_107 : decode cX5_carry 107 = .ok (.dup, 1) := by decide +kernel
theorem dX5_carry_108 : decode cX5_carry 108 = .ok (.aload 5, 2) := by decide +kernel
theorem dX5_carry_110 : decode cX5_carry 110 = .ok (.aload_n 0, 1) := by decide +kernel
theorem dX5_carry_111 : decode cX5_carry 111 = .ok (.iload_n 1, 1) := by decide +kernel
theorem dX5_carry_112 : decode cX5_carry 112 = .ok (.invokevirtual 111, 3) := by decide +kernel
theorem dX5_carry_115 : decode cX5_carry 115 = .ok (.aload_n 0, 1) := by decide +kernel
theorem dX5_carry_116 : decode cX5_carry 116 = .ok (.getfield 59, 3) := by decide +kernel
theorem dX5_carry_119 : decode cX5_carry 119 = .ok (.iload_n 3, 1) := by decide +kernel
theorem dX5_carry_120 : decode cX5_carry 120 = .ok (.iload 4, 2) := by decide +kernel
theorem dX5_carry_122 : decode cX5_carry 122 = .ok (.invokespecial 115, 3) := by decide +kernel
theorem dX5_carry_125 : decode cX5_carry 125 = .ok (.aastore, 1) := by decide +kernel
theorem dX5_carry_126 : decode cX5_carry 126 = .ok (.aload_n 0, 1) := by decide +kernel
theorem dX5_carry_127 : decode cX5_carry 127 = .ok (.dup, 1) := by decide +kernel
theorem dX5_carry_128 : decode cX5_carry 128 = .ok (.getfield 56, 3) := by decide +kernel
theorem dX5_carry_131 : decode cX5_carry 131 = .ok (.iconst 1, 1) := by decide +kernel
theorem dX5_carry_132 : decode cX5_carry 132 = .ok (.iadd, 1) := by decide +kernel
theorem dX5_carry_133 : decode cX5_carry 133 = .ok (.putfield 56, 3) := by decide +kernel
theorem dX5_carry_136 : decode cX5_carry 136 = .ok (.aload_n 0, 1) := by decide +kernel
theorem dX5_carry_137 : decode cX5_carry 137 = .ok (.getfield 56, 3) := by decide +kernel
theorem dX5_carry_140 : decode cX5_carry 140 = .ok (.ireturn, 1) := by decide +kernel
theorem dX5_carries_0 : decode cX5_carries 0 = .ok (.aload_n 0, 1) := by decide +kernel
theorem dX5_carries_1 : decode cX5_carries 1 = .ok (.iload_n 1, 1) := by decide +kernel
theorem dX5_carries_2 : decode cX5_carries 2 = .ok (.invokevirtual 92, 3) := by decide +kernel
theorem dX5_carries_5 : decode cX5_carries 5 = .ok (.aload_n 0, 1) := by decide +kernel
theorem dX5_carries_6 : decode cX5_carries 6 = .ok (.iload_n 2, 1) := by decide +kernel
theorem dX5_carries_7 : decode cX5_carries 7 = .ok (.invokevirtual 96, 3) := by decide +kernel
theorem dX5_carries_10 : decode cX5_carries 10 = .ok (.pop, 1) := by decide +kernel
theorem dX5_carries_11 : decode cX5_carries 11 = .ok (.aload_n 0, 1) := by decide +kernel
theorem dX5_carries_12 : decode cX5_carries 12 = .ok (.iload_n 1, 1) := by decide +kernel
theorem dX5_carries_13 : decode cX5_carries 13 = .ok (.iload_n 2, 1) := by decide +kernel
theorem dX5_carries_14 : decode cX5_carries 14 = .ok (.invokevirtual 118, 3) := by decide +kernel
theorem dX5_carries_17 : decode cX5_carries 17 = .ok (.ifnull 7, 3) := by decide +kernel
theorem dX5_carries_20 : decode cX5_carries 20 = .ok (.iconst 1, 1) := by decide +kernel
theorem dX5_carries_21 : decode cX5_carries 21 = .ok (.goto 4, 3) := by decide +kernel
theorem dX5_carries_24 : decode cX5_carries 24 = .ok (.iconst 0, 1) := by decide +kernel
theorem dX5_carries_25 : decode cX5_carries 25 = .ok (.ireturn, 1) := by decide +kernel
theorem dX5_supply_0 : decode cX5_supply 0 = .ok (.aload_n 0, 1) := by decide +kernel
theorem dX5_supply_1 : decode cX5_supply 1 = .ok (.iload_n 1, 1) := by decide +kernel
theorem dX5_supply_2 : decode cX5_supply 2 = .ok (.invokevirtual 96, 3) := by decide +kernel
theorem dX5_supply_5 : decode cX5_supply 5 = .ok (.astore_n 3, 1) := by decide +kernel
theorem dX5_supply_6 : decode cX5_supply 6 = .ok (.iload_n 2, 1) := by decide +kernel
theorem dX5_supply_7 : decode cX5_supply 7 = .ok (.iconst 1, 1) := by decide +kernel
theorem dX5_supply_8 : decode cX5_supply 8 = .ok (.if_icmp .lt 10, 3) := by decide +kernel
theorem dX5_supply_11 : decode cX5_supply 11 = .ok (.iload_n 2, 1) := by decide +kernel
theorem dX5_supply_12 : decode cX5_supply 12 = .ok (.sipush 9999, 3) := by decide +kernel
theorem dX5_supply_15 : decode cX5_supply 15 = .ok (.if_icmp .le 13, 3) := by decide +kernel
theorem dX5_supply_18 : decode cX5_supply 18 = .ok (.new 71, 3) := by decide +kernel
theorem dX5_supply_21 : decode cX5_supply 21 = .ok (.dup, 1) := by decide +kernel
theorem dX5_supply_22 : decode cX5_supply 22 = .ok (.ldc 122, 2) := by decide +kernel
theorem dX5_supply_24 : decode cX5_supply 24 = .ok (.invokespecial 75, 3) := by decide +kernel
theorem dX5_supply_27 : decode cX5_supply 27 = .ok (.athrow, 1) := by decide +kernel
theorem dX5_supply_28 : decode cX5_supply 28 = .ok (.aload_n 3, 1) := by decide +kernel
theorem dX5_supply_29 : decode cX5_supply 29 = .ok (.getfield 124, 3) := by decide +kernel
theorem dX5_supply_32 : decode cX5_supply 32 = .ok (.iload_n 2, 1) := by decide +kernel
theorem dX5_supply_33 : decode cX5_supply 33 = .ok (.iadd, 1) := by decide +kernel
theorem dX5_supply_34 : decode cX5_supply 34 = .ok (.ldc 102, 2) := by decide +kernel
theorem dX5_supply_36 : decode cX5_supply 36 = .ok (.if_icmp .le 13, 3) := by decide +kernel
theorem dX5_supply_39 : decode cX5_supply 39 = .ok (.new 78, 3) := by decide +kernel
theorem dX5_supply_42 : decode cX5_supply 42 = .ok (.dup, 1) := by decide +kernel
theorem dX5_supply_43 : decode cX5_supply 43 = .ok (.ldc 127, 2) := by decide +kernel
theorem dX5_supply_45 : decode cX5_supply 45 = .ok (.invokespecial 82, 3) := by decide +kernel
theorem dX5_supply_48 : decode cX5_supply 48 = .ok (.athrow, 1) := by decide +kernel
theorem dX5_supply_49 : decode cX5_supply 49 = .ok (.aload_n 3, 1) := by decide +kernel
theorem dX5_supply_50 : decode cX5_supply 50 = .ok (.aload_n 0, 1) := by decide +kernel
theorem dX5_supply_51 : decode cX5_supply 51 = .ok (.getfield 59, 3) := by decide +kernel
theorem dX5_supply_54 : decode cX5_supply 54 = .ok (.iload_n 2, 1) := by decide +kernel
theorem dX5_supply_55 : decode cX5_supply 55 = .ok (.invokevirtual 129, 3) := by decide +kernel
theorem dX5_supply_58 : decode cX5_supply 58 = .ok (.aload_n 3, 1) := by decide +kernel
theorem dX5_supply_59 : decode cX5_supply 59 = .ok (.getfield 124, 3) := by decide +kernel
theorem dX5_supply_62 : decode cX5_supply 62 = .ok (.ireturn, 1) := by decide +kernel
theorem dX5_setService_0 : decode cX5_setService 0 = .ok (.iload_n 1, 1) := by decide +kernel
theorem dX5_setService_1 : decode cX5_setService 1 = .ok (.iconst 1, 1) := by decide +kernel
theorem dX5_setService_2 : decode cX5_setService 2 = .ok (.if_icmp .lt 9, 3) := by decide +kernel
theorem dX5_setService_5 : decode cX5_setService 5 = .ok (.iload_n 1, 1) := by decide +kernel
theorem dX5_setService_6 : decode cX5_setService 6 = .ok (.bipush 100, 2) := by decide +kernel
theorem dX5_setService_8 : decode cX5_setService 8 = .ok (.if_icmp .le 13, 3) := by decide +kernel
theorem dX5_setService_11 : decode cX5_setService 11 = .ok (.new 71, 3) := by decide +kernel
theorem dX5_setService_14 : decode cX5_setService 14 = .ok (.dup, 1) := by decide +kernel
theorem dX5_setService_15 : decode cX5_setService 15 = .ok (.ldc 132, 2) := by decide +kernel
theorem dX5_setService_17 : decode cX5_setService 17 = .ok (.invokespecial 75, 3) := by decide +kernel
theorem dX5_setService_20 : decode cX5_setService 20 = .ok (.athrow, 1) := by decide +kernel
theorem dX5_setService_21 : decode cX5_setService 21 = .ok (.aload_n 0, 1) := by decide +kernel
theorem dX5_setService_22 : decode cX5_setService 22 = .ok (.getfield 62, 3) := by decide +kernel
theorem dX5_setService_25 : decode cX5_setService 25 = .ok (.istore_n 2, 1) := by decide +kernel
theorem dX5_setService_26 : decode cX5_setService 26 = .ok (.aload_n 0, 1) := by decide +kernel
theorem dX5_setService_27 : decode cX5_setService 27 = .ok (.iload_n 1, 1) := by decide +kernel
theorem dX5_setService_28 : decode cX5_setService 28 = .ok (.putfield 62, 3) := by decide +kernel
theorem dX5_setService_31 : decode cX5_setService 31 = .ok (.iload_n 2, 1) := by decide +kernel
theorem dX5_setService_32 : decode cX5_setService 32 = .ok (.ireturn, 1) := by decide +kernel
theorem dX5_setRates_0 : decode cX5_setRates 0 = .ok (.iload_n 1, 1) := by decide +kernel
theorem dX5_setRates_1 : decode cX5_setRates 1 = .ok (.ifCond .lt 9, 3) := by decide +kernel
theorem dX5_setRates_4 : decode cX5_setRates 4 = .ok (.iload_n 1, 1) := by decide +kernel
theorem dX5_setRates_5 : decode cX5_setRates 5 = .ok (.bipush 100, 2) := by decide +kernel
theorem dX5_setRates_7 : decode cX5_setRates 7 = .ok (.if_icmp .le 13, 3) := by decide +kernel
theorem dX5_setRates_10 : decode cX5_setRates 10 = .ok (.new 71, 3) := by decide +kernel
theorem dX5_setRates_13 : decode cX5_setRates 13 = .ok (.dup, 1) := by decide +kernel
theorem dX5_setRates_14 : decode cX5_setRates 14 = .ok (.ldc 134, 2) := by decide +kernel
theorem dX5_setRates_16 : decode cX5_setRates 16 = .ok (.invokespecial 75, 3) := by decide +kernel
theorem dX5_setRates_19 : decode cX5_setRates 19 = .ok (.athrow, 1) := by decide +kernel
theorem dX5_setRates_20 : decode cX5_setRates 20 = .ok (.iload_n 2, 1) := by decide +kernel
theorem dX5_setRates_21 : decode cX5_setRates 21 = .ok (.ifCond .lt 9, 3) := by decide +kernel
theorem dX5_setRates_24 : decode cX5_setRates 24 = .ok (.iload_n 2, 1) := by decide +kernel
theorem dX5_setRates_25 : decode cX5_setRates 25 = .ok (.bipush 100, 2) := by decide +kernel
theorem dX5_setRates_27 : decode cX5_setRates 27 = .ok (.if_icmp .le 13, 3) := by decide +kernel
theorem dX5_setRates_30 : decode cX5_setRates 30 = .ok (.new 71, 3) := by decide +kernel
theorem dX5_setRates_33 : decode cX5_setRates 33 = .ok (.dup, 1) := by decide +kernel
theorem dX5_setRates_34 : decode cX5_setRates 34 = .ok (.ldc 136, 2) := by decide +kernel
theorem dX5_setRates_36 : decode cX5_setRates 36 = .ok (.invokespecial 75, 3) := by decide +kernel
theorem dX5_setRates_39 : decode cX5_setRates 39 = .ok (.athrow, 1) := by decide +kernel
theorem dX5_setRates_40 : decode cX5_setRates 40 = .ok (.aload_n 0, 1) := by decide +kernel
theorem dX5_setRates_41 : decode cX5_setRates 41 = .ok (.getfield 65, 3) := by decide +kernel
theorem dX5_setRates_44 : decode cX5_setRates 44 = .ok (.istore_n 3, 1) := by decide +kernel
theorem dX5_setRates_45 : decode cX5_setRates 45 = .ok (.aload_n 0, 1) := by decide +kernel
theorem dX5_setRates_46 : decode cX5_setRates 46 = .ok (.iload_n 1, 1) := by decide +kernel
theorem dX5_setRates_47 : decode cX5_setRates 47 = .ok (.putfield 65, 3) := by decide +kernel
theorem dX5_setRates_50 : decode cX5_setRates 50 = .ok (.aload_n 0, 1) := by decide +kernel
theorem dX5_setRates_51 : decode cX5_setRates 51 = .ok (.iload_n 2, 1) := by decide +kernel
theorem dX5_setRates_52 : decode cX5_setRates 52 = .ok (.putfield 68, 3) := by decide +kernel
theorem dX5_setRates_55 : decode cX5_setRates 55 = .ok (.iload_n 3, 1) := by decide +kernel
theorem dX5_setRates_56 : decode cX5_setRates 56 = .ok (.ireturn, 1) := by decide +kernel
theorem dX5_mark_0 : decode cX5_mark 0 = .ok (.aload_n 0, 1) := by decide +kernel
theorem dX5_mark_1 : decode cX5_mark 1 = .ok (.iload_n 1, 1) := by decide +kernel
theorem dX5_mark_2 : decode cX5_mark 2 = .ok (.invokevirtual 96, 3) := by decide +kernel
theorem dX5_mark_5 : decode cX5_mark 5 = .ok (.astore_n 3, 1) := by decide +kernel
theorem dX5_mark_6 : decode cX5_mark 6 = .ok (.iload_n 2, 1) := by decide +kernel
theorem dX5_mark_7 : decode cX5_mark 7 = .ok (.aload_n 0, 1) := by decide +kernel
theorem dX5_mark_8 : decode cX5_mark 8 = .ok (.getfield 59, 3) := by decide +kernel
theorem dX5_mark_11 : decode cX5_mark 11 = .ok (.if_icmp .lt 10, 3) := by decide +kernel
theorem dX5_mark_14 : decode cX5_mark 14 = .ok (.iload_n 2, 1) := by decide +kernel
theorem dX5_mark_15 : decode cX5_mark 15 = .ok (.sipush 999, 3) := by decide +kernel
theorem dX5_mark_18 : decode cX5_mark 18 = .ok (.if_icmp .le 13, 3) := by decide +kernel
theorem dX5_mark_21 : decode cX5_mark 21 = .ok (.new 71, 3) := by decide +kernel
theorem dX5_mark_24 : decode cX5_mark 24 = .ok (.dup, 1) := by decide +kernel
theorem dX5_mark_25 : decode cX5_mark 25 = .ok (.ldc 138, 2) := by decide +kernel
theorem dX5_mark_27 : decode cX5_mark 27 = .ok (.invokespecial 75, 3) := by decide +kernel
theorem dX5_mark_30 : decode cX5_mark 30 = .ok (.athrow, 1) := by decide +kernel
theorem dX5_mark_31 : decode cX5_mark 31 = .ok (.aload_n 3, 1) := by decide +kernel
theorem dX5_mark_32 : decode cX5_mark 32 = .ok (.iload_n 2, 1) := by decide +kernel
theorem dX5_mark_33 : decode cX5_mark 33 = .ok (.invokevirtual 140, 3) := by decide +kernel
theorem dX5_mark_36 : decode cX5_mark 36 = .ok (.istore 4, 2) := by decide +kernel
theorem dX5_mark_38 : decode cX5_mark 38 = .ok (.iload 4, 2) := by decide +kernel
theorem dX5_mark_40 : decode cX5_mark 40 = .ok (.ifCond .ne 12, 3) := by decide +kernel
theorem dX5_mark_43 : decode cX5_mark 43 = .ok (.aload_n 3, 1) := by decide +kernel
theorem dX5_mark_44 : decode cX5_mark 44 = .ok (.getfield 144, 3) := by decide +kernel
theorem dX5_mark_47 : decode cX5_mark 47 = .ok (.iload_n 2, 1) := by decide +kernel
theorem dX5_mark_48 : decode cX5_mark 48 = .ok (.iconst 1, 1) := by decide +kernel
theorem dX5_mark_49 : decode cX5_mark 49 = .ok (.invokevirtual 147, 3) := by decide +kernel
theorem dX5_mark_52 : decode cX5_mark 52 = .ok (.iload 4, 2) := by decide +kernel
theorem dX5_mark_54 : decode cX5_mark 54 = .ok (.ireturn, 1) := by decide +kernel
theorem dX5_isMarked_0 : decode cX5_isMarked 0 = .ok (.aload_n 0, 1) := by decide +kernel
theorem dX5_isMarked_1 : decode cX5_isMarked 1 = .ok (.iload_n 1, 1) := by decide +kernel
theorem dX5_isMarked_2 : decode cX5_isMarked 2 = .ok (.invokevirtual 96, 3) := by decide +kernel
theorem dX5_isMarked_5 : decode cX5_isMarked 5 = .ok (.astore_n 3, 1) := by decide +kernel
theorem dX5_isMarked_6 : decode cX5_isMarked 6 = .ok (.iload_n 2, 1) := by decide +kernel
theorem dX5_isMarked_7 : decode cX5_isMarked 7 = .ok (.ifCond .lt 10, 3) := by decide +kernel
theorem dX5_isMarked_10 : decode cX5_isMarked 10 = .ok (.iload_n 2, 1) := by decide +kernel
theorem dX5_isMarked_11 : decode cX5_isMarked 11 = .ok (.sipush 999, 3) := by decide +kernel
theorem dX5_isMarked_14 : decode cX5_isMarked 14 = .ok (.if_icmp .le 13, 3) := by decide +kernel
theorem dX5_isMarked_17 : decode cX5_isMarked 17 = .ok (.new 71, 3) := by decide +kernel
theorem dX5_isMarked_20 : decode cX5_isMarked 20 = .ok (.dup, 1) := by decide +kernel
theorem dX5_isMarked_21 : decode cX5_isMarked 21 = .ok (.ldc 150, 2) := by decide +kernel
theorem dX5_isMarked_23 : decode cX5_isMarked 23 = .ok (.invokespecial 75, 3) := by decide +kernel
theorem dX5_isMarked_26 : decode cX5_isMarked 26 = .ok (.athrow, 1) := by decide +kernel
theorem dX5_isMarked_27 : decode cX5_isMarked 27 = .ok (.aload_n 3, 1) := by decide +kernel
theorem dX5_isMarked_28 : decode cX5_isMarked 28 = .ok (.iload_n 2, 1) := by decide +kernel
theorem dX5_isMarked_29 : decode cX5_isMarked 29 = .ok (.invokevirtual 140, 3) := by decide +kernel
theorem dX5_isMarked_32 : decode cX5_isMarked 32 = .ok (.ireturn, 1) := by decide +kernel
theorem dX5_demand_0 : decode cX5_demand 0 = .ok (.aload_n 0, 1) := by decide +kernel
theorem dX5_demand_1 : decode cX5_demand 1 = .ok (.iload_n 1, 1) := by decide +kernel
theorem dX5_demand_2 : decode cX5_demand 2 = .ok (.iload_n 2, 1) := by decide +kernel
theorem dX5_demand_3 : decode cX5_demand 3 = .ok (.invokevirtual 152, 3) := by decide +kernel
theorem dX5_demand_6 : decode cX5_demand 6 = .ok (.astore 4, 2) := by decide +kernel
theorem dX5_demand_8 : decode cX5_demand 8 = .ok (.iload_n 3, 1) := by decide +kernel
theorem dX5_demand_9 : decode cX5_demand 9 = .ok (.iconst 1, 1) := by decide +kernel
theorem dX5_demand_10 : decode cX5_demand 10 = .ok (.if_icmp .lt 9, 3) := by decide +kernel
theorem dX5_demand_13 : decode cX5_demand 13 = .ok (.iload_n 3, 1) := by decide +kernel
theorem dX5_demand_14 : decode cX5_demand 14 = .ok (.bipush 99, 2) := by decide +kernel
theorem dX5_demand_16 : decode cX5_demand 16 = .ok (.if_icmp .le 13, 3) := by decide +kernel
theorem dX5_demand_19 : decode cX5_demand 19 = .ok (.new 71, 3) := by decide +kernel
theorem dX5_demand_22 : decode cX5_demand 22 = .ok (.dup, 1) := by decide +kernel
theorem dX5_demand_23 : decode cX5_demand 23 = .ok (.ldc 155, 2) := by decide +kernel
theorem dX5_demand_25 : decode cX5_demand 25 = .ok (.invokespecial 75, 3) := by decide +kernel
theorem dX5_demand_28 : decode cX5_demand 28 = .ok (.athrow, 1) := by decide +kernel
theorem dX5_demand_29 : decode cX5_demand 29 = .ok (.aload 4, 2) := by decide +kernel
theorem dX5_demand_31 : decode cX5_demand 31 = .ok (.getfield 157, 3) := by decide +kernel
theorem dX5_demand_34 : decode cX5_demand 34 = .ok (.aload_n 0, 1) := by decide +kernel
theorem dX5_demand_35 : decode cX5_demand 35 = .ok (.getfield 59, 3) := by decide +kernel
theorem dX5_demand_38 : decode cX5_demand 38 = .ok (.invokevirtual 160, 3) := by decide +kernel
theorem dX5_demand_41 : decode cX5_demand 41 = .ok (.iload_n 3, 1) := by decide +kernel
theorem dX5_demand_42 : decode cX5_demand 42 = .ok (.iadd, 1) := by decide +kernel
theorem dX5_demand_43 : decode cX5_demand 43 = .ok (.sipush 999, 3) := by decide +kernel
theorem dX5_demand_46 : decode cX5_demand 46 = .ok (.if_icmp .le 13, 3) := by decide +kernel
theorem dX5_demand_49 : decode cX5_demand 49 = .ok (.new 163, 3) := by decide +kernel
theorem dX5_demand_52 : decode cX5_demand 52 = .ok (.dup, 1) := by decide +kernel
theorem dX5_demand_53 : decode cX5_demand 53 = .ok (.ldc 165, 2) := by decide +kernel
theorem dX5_demand_55 : decode cX5_demand 55 = .ok (.invokespecial 167, 3) := by decide +kernel
theorem dX5_demand_58 : decode cX5_demand 58 = .ok (.athrow, 1) := by decide +kernel
theorem dX5_demand_59 : decode cX5_demand 59 = .ok (.aload 4, 2) := by decide +kernel
theorem dX5_demand_61 : decode cX5_demand 61 = .ok (.aload_n 0, 1) := by decide +kernel
theorem dX5_demand_62 : decode cX5_demand 62 = .ok (.getfield 59, 3) := by decide +kernel
theorem dX5_demand_65 : decode cX5_demand 65 = .ok (.iload_n 3, 1) := by decide +kernel
theorem dX5_demand_66 : decode cX5_demand 66 = .ok (.invokevirtual 168, 3) := by decide +kernel
theorem dX5_demand_69 : decode cX5_demand 69 = .ok (.ireturn, 1) := by decide +kernel
theorem dX5_night_0 : decode cX5_night 0 = .ok (.aload_n 0, 1) := by decide +kernel
theorem dX5_night_1 : decode cX5_night 1 = .ok (.getfield 59, 3) := by decide +kernel
theorem dX5_night_4 : decode cX5_night 4 = .ok (.sipush 999, 3) := by decide +kernel
theorem dX5_night_7 : decode cX5_night 7 = .ok (.if_icmp .lt 13, 3) := by decide +kernel
theorem dX5_night_10 : decode cX5_night 10 = .ok (.new 78, 3) := by decide +kernel
theorem dX5_night_13 : decode cX5_night 13 = .ok (.dup, 1) := by decide +kernel
theorem dX5_night_14 : decode cX5_night 14 = .ok (.ldc 171, 2) := by decide +kernel
theorem dX5_night_16 : decode cX5_night 16 = .ok (.invokespecial 82, 3) := by decide +kernel
theorem dX5_night_19 : decode cX5_night 19 = .ok (.athrow, 1) := by decide +kernel
theorem dX5_night_20 : decode cX5_night 20 = .ok (.aload_n 0, 1) := by decide +kernel
theorem dX5_night_21 : decode cX5_night 21 = .ok (.invokevirtual 173, 3) := by decide +kernel
theorem dX5_night_24 : decode cX5_night 24 = .ok (.aload_n 0, 1) := by decide +kernel
theorem dX5_night_25 : decode cX5_night 25 = .ok (.dup, 1) := by decide +kernel
theorem dX5_night_26 : decode cX5_night 26 = .ok (.getfield 59, 3) := by decide +kernel
theorem dX5_night_29 : decode cX5_night 29 = .ok (.iconst 1, 1) := by decide +kernel
theorem dX5_night_30 : decode cX5_night 30 = .ok (.iadd, 1) := by decide +kernel
theorem dX5_night_31 : decode cX5_night 31 = .ok (.putfield 59, 3) := by decide +kernel
theorem dX5_night_34 : decode cX5_night 34 = .ok (.aload_n 0, 1) := by decide +kernel
theorem dX5_night_35 : decode cX5_night 35 = .ok (.invokevirtual 176, 3) := by decide +kernel
theorem dX5_night_38 : decode cX5_night 38 = .ok (.iconst 0, 1) := by decide +kernel
theorem dX5_night_39 : decode cX5_night 39 = .ok (.istore_n 1, 1) := by decide +kernel
theorem dX5_night_40 : decode cX5_night 40 = .ok (.iconst 0, 1) := by decide +kernel
theorem dX5_night_41 : decode cX5_night 41 = .ok (.istore_n 2, 1) := by decide +kernel
theorem dX5_night_42 : decode cX5_night 42 = .ok (.iload_n 2, 1) := by decide +kernel
theorem dX5_night_43 : decode cX5_night 43 = .ok (.aload_n 0, 1) := by decide +kernel
theorem dX5_night_44 : decode cX5_night 44 = .ok (.getfield 53, 3) := by decide +kernel
theorem dX5_night_47 : decode cX5_night 47 = .ok (.if_icmp .ge 17, 3) := by decide +kernel
theorem dX5_night_50 : decode cX5_night 50 = .ok (.iload_n 1, 1) := by decide +kernel
theorem dX5_night_51 : decode cX5_night 51 = .ok (.aload_n 0, 1) := by decide +kernel
theorem dX5_night_52 : decode cX5_night 52 = .ok (.iload_n 2, 1) := by decide +kernel
theorem dX5_night_53 : decode cX5_night 53 = .ok (.invokevirtual 179, 3) := by decide +kernel
theorem dX5_night_56 : decode cX5_night 56 = .ok (.iadd, 1) := by decide +kernel
theorem dX5_night_57 : decode cX5_night 57 = .ok (.istore_n 1, 1) := by decide +kernel
theorem dX5_night_58 : decode cX5_night 58 = .ok (.iinc 2 1, 3) := by decide +kernel
theorem dX5_night_61 : decode cX5_night 61 = .ok (.goto (-19), 3) := by decide +kernel
theorem dX5_night_64 : decode cX5_night 64 = .ok (.iload_n 1, 1) := by decide +kernel
theorem dX5_night_65 : decode cX5_night 65 = .ok (.ireturn, 1) := by decide +kernel
theorem dX5_today_0 : decode cX5_today 0 = .ok (.aload_n 0, 1) := by decide +kernel
theorem dX5_today_1 : decode cX5_today 1 = .ok (.getfield 59, 3) := by decide +kernel
theorem dX5_today_4 : decode cX5_today 4 = .ok (.ireturn, 1) := by decide +kernel
theorem dX5_demandToday_0 : decode cX5_demandToday 0 = .ok (.aload_n 0, 1) := by decide +kernel
theorem dX5_demandToday_1 : decode cX5_demandToday 1 = .ok (.iload_n 1, 1) := by decide +kernel
theorem dX5_demandToday_2 : decode cX5_demandToday 2 = .ok (.iload_n 2, 1) := by decide +kernel
theorem dX5_demandToday_3 : decode cX5_demandToday 3 = .ok (.invokevirtual 152, 3) := by decide +kernel
theorem dX5_demandToday_6 : decode cX5_demandToday 6 = .ok (.getfield 157, 3) := by decide +kernel
theorem dX5_demandToday_9 : decode cX5_demandToday 9 = .ok (.aload_n 0, 1) := by decide +kernel
theorem dX5_demandToday_10 : decode cX5_demandToday 10 = .ok (.getfield 59, 3) := by decide +kernel
theorem dX5_demandToday_13 : decode cX5_demandToday 13 = .ok (.invokevirtual 160, 3) := by decide +kernel
theorem dX5_demandToday_16 : decode cX5_demandToday 16 = .ok (.ireturn, 1) := by decide +kernel
theorem dX5_level_0 : decode cX5_level 0 = .ok (.aload_n 0, 1) := by decide +kernel
theorem dX5_level_1 : decode cX5_level 1 = .ok (.iload_n 1, 1) := by decide +kernel
theorem dX5_level_2 : decode cX5_level 2 = .ok (.iload_n 2, 1) := by decide +kernel
theorem dX5_level_3 : decode cX5_level 3 = .ok (.invokevirtual 152, 3) := by decide +kernel
theorem dX5_level_6 : decode cX5_level 6 = .ok (.getfield 182, 3) := by decide +kernel
theorem dX5_level_9 : decode cX5_level 9 = .ok (.getfield 185, 3) := by decide +kernel
theorem dX5_level_12 : decode cX5_level 12 = .ok (.ireturn, 1) := by decide +kernel
theorem dX5_levelByDays_0 : decode cX5_levelByDays 0 = .ok (.aload_n 0, 1) := by decide +kernel
theorem dX5_levelByDays_1 : decode cX5_levelByDays 1 = .ok (.iload_n 1, 1) := by decide +kernel
theorem dX5_levelByDays_2 : decode cX5_levelByDays 2 = .ok (.iload_n 2, 1) := by decide +kernel
theorem dX5_levelByDays_3 : decode cX5_levelByDays 3 = .ok (.invokevirtual 152, 3) := by decide +kernel
theorem dX5_levelByDays_6 : decode cX5_levelByDays 6 = .ok (.astore_n 3, 1) := by decide +kernel
theorem dX5_levelByDays_7 : decode cX5_levelByDays 7 = .ok (.aload_n 0, 1) := by decide +kernel
theorem dX5_levelByDays_8 : decode cX5_levelByDays 8 = .ok (.getfield 38, 3) := by decide +kernel
theorem dX5_levelByDays_11 : decode cX5_levelByDays 11 = .ok (.aload_n 3, 1) := by decide +kernel
theorem dX5_levelByDays_12 : decode cX5_levelByDays 12 = .ok (.getfield 188, 3) := by decide +kernel
theorem dX5_levelByDays_15 : decode cX5_levelByDays 15 = .ok (.invokevirtual 191, 3) := by decide +kernel
theorem dX5_levelByDays_18 : decode cX5_levelByDays 18 = .ok (.aload_n 3, 1) := by decide +kernel
theorem dX5_levelByDays_19 : decode cX5_levelByDays 19 = .ok (.getfield 194, 3) := by decide +kernel
theorem dX5_levelByDays_22 : decode cX5_levelByDays 22 = .ok (.istore 4, 2) := by decide +kernel
theorem dX5_levelByDays_24 : decode cX5_levelByDays 24 = .ok (.iload 4, 2) := by decide +kernel
theorem dX5_levelByDays_26 : decode cX5_levelByDays 26 = .ok (.aload_n 0, 1) := by decide +kernel
theorem dX5_levelByDays_27 : decode cX5_levelByDays 27 = .ok (.getfield 59, 3) := by decide +kernel
theorem dX5_levelByDays_30 : decode cX5_levelByDays 30 = .ok (.if_icmp .ge 57, 3) := by decide +kernel
theorem dX5_levelByDays_33 : decode cX5_levelByDays 33 = .ok (.aload_n 3, 1) := by decide +kernel
theorem dX5_levelByDays_34 : decode cX5_levelByDays 34 = .ok (.getfield 197, 3) := by decide +kernel
theorem dX5_levelByDays_37 : decode cX5_levelByDays 37 = .ok (.iload 4, 2) := by decide +kernel
theorem dX5_levelByDays_39 : decode cX5_levelByDays 39 = .ok (.invokevirtual 140, 3) := by decide +kernel
theorem dX5_levelByDays_42 : decode cX5_levelByDays 42 = .ok (.ifCond .ne 39, 3) := by decide +kernel
theorem dX5_levelByDays_45 : decode cX5_levelByDays 45 = .ok (.aload_n 0, 1) := by decide +kernel
theorem dX5_levelByDays_46 : decode cX5_levelByDays 46 = .ok (.getfield 38, 3) := by decide +kernel
theorem dX5_levelByDays_49 : decode cX5_levelByDays 49 = .ok (.iload 4, 2) := by decide +kernel
theorem dX5_levelByDays_51 : decode cX5_levelByDays 51 = .ok (.aload_n 3, 1) := by decide +kernel
theorem dX5_levelByDays_52 : decode cX5_levelByDays 52 = .ok (.getfield 157, 3) := by decide +kernel
theorem dX5_levelByDays_55 : decode cX5_levelByDays 55 = .ok (.iload 4, 2) := by decide +kernel
theorem dX5_levelByDays_57 : decode cX5_levelByDays 57 = .ok (.invokevirtual 160, 3) := by decide +kernel
theorem dX5_levelByDays_60 : decode cX5_levelByDays 60 = .ok (.aload_n 0, 1) := by decide +kernel
theorem dX5_levelByDays_61 : decode cX5_levelByDays 61 = .ok (.getfield 28, 3) := by decide +kernel
theorem dX5_levelByDays_64 : decode cX5_levelByDays 64 = .ok (.iload 4, 2) := by decide +kernel
theorem dX5_levelByDays_66 : decode cX5_levelByDays 66 = .ok (.invokevirtual 160, 3) := by decide +kernel
theorem dX5_levelByDays_69 : decode cX5_levelByDays 69 = .ok (.aload_n 0, 1) := by decide +kernel
theorem dX5_levelByDays_70 : decode cX5_levelByDays 70 = .ok (.getfield 32, 3) := by decide +kernel
theorem dX5_levelByDays_73 : decode cX5_levelByDays 73 = .ok (.iload 4, 2) := by decide +kernel
theorem dX5_levelByDays_75 : decode cX5_levelByDays 75 = .ok (.invokevirtual 160, 3) := by decide +kernel
theorem dX5_levelByDays_78 : decode cX5_levelByDays 78 = .ok (.invokevirtual 201, 3) := by decide +kernel
theorem dX5_levelByDays_81 : decode cX5_levelByDays 81 = .ok (.iinc 4 1, 3) := by decide +kernel
theorem dX5_levelByDays_84 : decode cX5_levelByDays 84 = .ok (.goto (-60), 3) := by decide +kernel
theorem dX5_levelByDays_87 : decode cX5_levelByDays 87 = .ok (.aload_n 0, 1) := by decide +kernel
theorem dX5_levelByDays_88 : decode cX5_levelByDays 88 = .ok (.getfield 38, 3) := by decide +kernel
theorem dX5_levelByDays_91 : decode cX5_levelByDays 91 = .ok (.getfield 185, 3) := by decide +kernel
theorem dX5_levelByDays_94 : decode cX5_levelByDays 94 = .ok (.ireturn, 1) := by decide +kernel
theorem dX5_season_0 : decode cX5_season 0 = .ok (.aload_n 0, 1) := by decide +kernel
theorem dX5_season_1 : decode cX5_season 1 = .ok (.iload_n 1, 1) := by decide +kernel
theorem dX5_season_2 : decode cX5_season 2 = .ok (.iload_n 2, 1) := by decide +kernel
theorem dX5_season_3 : decode cX5_season 3 = .ok (.invokevirtual 152, 3) := by decide +kernel
theorem dX5_season_6 : decode cX5_season 6 = .ok (.astore 4, 2) := by decide +kernel
theorem dX5_season_8 : decode cX5_season 8 = .ok (.iload_n 3, 1) := by decide +kernel
theorem dX5_season_9 : decode cX5_season 9 = .ok (.ifCond .lt 9, 3) := by decide +kernel
theorem dX5_season_12 : decode cX5_season 12 = .ok (.iload_n 3, 1) := by decide +kernel
theorem dX5_season_13 : decode cX5_season 13 = .ok (.bipush 7, 2) := by decide +kernel
theorem dX5_season_15 : decode cX5_season 15 = .ok (.if_icmp .lt 13, 3) := by decide +kernel
theorem dX5_season_18 : decode cX5_season 18 = .ok (.new 71, 3) := by decide +kernel
theorem dX5_season_21 : decode cX5_season 21 = .ok (.dup, 1) := by decide +kernel
theorem dX5_season_22 : decode cX5_season 22 = .ok (.ldc 205, 2) := by decide +kernel
theorem dX5_season_24 : decode cX5_season 24 = .ok (.invokespecial 75, 3) := by decide +kernel
theorem dX5_season_27 : decode cX5_season 27 = .ok (.athrow, 1) := by decide +kernel
theorem dX5_season_28 : decode cX5_season 28 = .ok (.aload 4, 2) := by decide +kernel
theorem dX5_season_30 : decode cX5_season 30 = .ok (.getfield 182, 3) := by decide +kernel
theorem dX5_season_33 : decode cX5_season 33 = .ok (.iload_n 3, 1) := by decide +kernel
theorem dX5_season_34 : decode cX5_season 34 = .ok (.invokevirtual 207, 3) := by decide +kernel
theorem dX5_season_37 : decode cX5_season 37 = .ok (.ireturn, 1) := by decide +kernel
theorem dX5_forecast_0 : decode cX5_forecast 0 = .ok (.aload_n 0, 1) := by decide +kernel
theorem dX5_forecast_1 : decode cX5_forecast 1 = .ok (.iload_n 1, 1) := by decide +kernel
theorem dX5_forecast_2 : decode cX5_forecast 2 = .ok (.iload_n 2, 1) := by decide +kernel
theorem dX5_forecast_3 : decode cX5_forecast 3 = .ok (.invokevirtual 152, 3) := by decide +kernel
theorem dX5_forecast_6 : decode cX5_forecast 6 = .ok (.astore 4, 2) := by decide +kernel
theorem dX5_forecast_8 : decode cX5_forecast 8 = .ok (.iload_n 3, 1) := by decide +kernel
theorem dX5_forecast_9 : decode cX5_forecast 9 = .ok (.aload_n 0, 1) := by decide +kernel
theorem dX5_forecast_10 : decode cX5_forecast 10 = .ok (.getfield 59, 3) := by decide +kernel
theorem dX5_forecast_13 : decode cX5_forecast 13 = .ok (.if_icmp .lt 10, 3) := by decide +kernel
theorem dX5_forecast_16 : decode cX5_forecast 16 = .ok (.iload_n 3, 1) := by decide +kernel
theorem dX5_forecast_17 : decode cX5_forecast 17 = .ok (.sipush 1099, 3) := by decide +kernel
theorem dX5_forecast_20 : decode cX5_forecast 20 = .ok (.if_icmp .le 13, 3) := by decide +kernel
theorem dX5_forecast_23 : decode cX5_forecast 23 = .ok (.new 71, 3) := by decide +kernel
theorem dX5_forecast_26 : decode cX5_forecast 26 = .ok (.dup, 1) := by decide +kernel
theorem dX5_forecast_27 : decode cX5_forecast 27 = .ok (.ldc 210, 2) := by decide +kernel
theorem dX5_forecast_29 : decode cX5_forecast 29 = .ok (.invokespecial 75, 3) := by decide +kernel
theorem dX5_forecast_32 : decode cX5_forecast 32 = .ok (.athrow, 1) := by decide +kernel
theorem dX5_forecast_33 : decode cX5_forecast 33 = .ok (.aload 4, 2) := by decide +kernel
theorem dX5_forecast_35 : decode cX5_forecast 35 = .ok (.getfield 182, 3) := by decide +kernel
theorem dX5_forecast_38 : decode cX5_forecast 38 = .ok (.iload_n 3, 1) := by decide +kernel
theorem dX5_forecast_39 : decode cX5_forecast 39 = .ok (.invokevirtual 212, 3) := by decide +kernel
theorem dX5_forecast_42 : decode cX5_forecast 42 = .ok (.ireturn, 1) := by decide +kernel
theorem dX5_errors_0 : decode cX5_errors 0 = .ok (.aload_n 0, 1) := by decide +kernel
theorem dX5_errors_1 : decode cX5_errors 1 = .ok (.iload_n 1, 1) := by decide +kernel
theorem dX5_errors_2 : decode cX5_errors 2 = .ok (.iload_n 2, 1) := by decide +kernel
theorem dX5_errors_3 : decode cX5_errors 3 = .ok (.invokevirtual 152, 3) := by decide +kernel
theorem dX5_errors_6 : decode cX5_errors 6 = .ok (.astore 4, 2) := by decide +kernel
theorem dX5_errors_8 : decode cX5_errors 8 = .ok (.iload_n 3, 1) := by decide +kernel
theorem dX5_errors_9 : decode cX5_errors 9 = .ok (.ifCond .lt 9, 3) := by decide +kernel
theorem dX5_errors_12 : decode cX5_errors 12 = .ok (.iload_n 3, 1) := by decide +kernel
theorem dX5_errors_13 : decode cX5_errors 13 = .ok (.bipush 20, 2) := by decide +kernel
theorem dX5_errors_15 : decode cX5_errors 15 = .ok (.if_icmp .le 13, 3) := by decide +kernel
theorem dX5_errors_18 : decode cX5_errors 18 = .ok (.new 71, 3) := by decide +kernel
theorem dX5_errors_21 : decode cX5_errors 21 = .ok (.dup, 1) := by decide +kernel
theorem dX5_errors_22 : decode cX5_errors 22 = .ok (.ldc 215, 2) := by decide +kernel
theorem dX5_errors_24 : decode cX5_errors 24 = .ok (.invokespecial 75, 3) := by decide +kernel
theorem dX5_errors_27 : decode cX5_errors 27 = .ok (.athrow, 1) := by decide +kernel
theorem dX5_errors_28 : decode cX5_errors 28 = .ok (.aload 4, 2) := by decide +kernel
theorem dX5_errors_30 : decode cX5_errors 30 = .ok (.iload_n 3, 1) := by decide +kernel
theorem dX5_errors_31 : decode cX5_errors 31 = .ok (.invokevirtual 217, 3) := by decide +kernel
theorem dX5_errors_34 : decode cX5_errors 34 = .ok (.ireturn, 1) := by decide +kernel
theorem dX5_safety_0 : decode cX5_safety 0 = .ok (.aload_n 0, 1) := by decide +kernel
theorem dX5_safety_1 : decode cX5_safety 1 = .ok (.iload_n 1, 1) := by decide +kernel
theorem dX5_safety_2 : decode cX5_safety 2 = .ok (.iload_n 2, 1) := by decide +kernel
theorem dX5_safety_3 : decode cX5_safety 3 = .ok (.invokevirtual 152, 3) := by decide +kernel
theorem dX5_safety_6 : decode cX5_safety 6 = .ok (.aload_n 0, 1) := by decide +kernel
theorem dX5_safety_7 : decode cX5_safety 7 = .ok (.getfield 62, 3) := by decide +kernel
theorem dX5_safety_10 : decode cX5_safety 10 = .ok (.invokevirtual 220, 3) := by decide +kernel
theorem dX5_safety_13 : decode cX5_safety 13 = .ok (.ireturn, 1) := by decide +kernel
theorem dX5_stock_0 : decode cX5_stock 0 = .ok (.aload_n 0, 1) := by decide +kernel
theorem dX5_stock_1 : decode cX5_stock 1 = .ok (.iload_n 1, 1) := by decide +kernel
theorem dX5_stock_2 : decode cX5_stock 2 = .ok (.iload_n 2, 1) := by decide +kernel
theorem dX5_stock_3 : decode cX5_stock 3 = .ok (.invokevirtual 152, 3) := by decide +kernel
theorem dX5_stock_6 : decode cX5_stock 6 = .ok (.getfield 223, 3) := by decide +kernel
theorem dX5_stock_9 : decode cX5_stock 9 = .ok (.ireturn, 1) := by decide +kernel
theorem dX5_stockByJournal_0 : decode cX5_stockByJournal 0 = .ok (.aload_n 0, 1) := by decide +kernel
theorem dX5_stockByJournal_1 : decode cX5_stockByJournal 1 = .ok (.iload_n 1, 1) := by decide +kernel
theorem dX5_stockByJournal_2 : decode cX5_stockByJournal 2 = .ok (.iload_n 2, 1) := by decide +kernel
theorem dX5_stockByJournal_3 : decode cX5_stockByJournal 3 = .ok (.invokevirtual 152, 3) := by decide +kernel
theorem dX5_stockByJournal_6 : decode cX5_stockByJournal 6 = .ok (.aload_n 0, 1) := by decide +kernel
theorem dX5_stockByJournal_7 : decode cX5_stockByJournal 7 = .ok (.getfield 59, 3) := by decide +kernel
theorem dX5_stockByJournal_10 : decode cX5_stockByJournal 10 = .ok (.invokevirtual 224, 3) := by decide +kernel
theorem dX5_stockByJournal_13 : decode cX5_stockByJournal 13 = .ok (.ireturn, 1) := by decide +kernel
theorem dX5_onWay_0 : decode cX5_onWay 0 = .ok (.aload_n 0, 1) := by decide +kernel
theorem dX5_onWay_1 : decode cX5_onWay 1 = .ok (.iload_n 1, 1) := by decide +kernel
theorem dX5_onWay_2 : decode cX5_onWay 2 = .ok (.iload_n 2, 1) := by decide +kernel
theorem dX5_onWay_3 : decode cX5_onWay 3 = .ok (.invokevirtual 152, 3) := by decide +kernel
theorem dX5_onWay_6 : decode cX5_onWay 6 = .ok (.aload_n 0, 1) := by decide +kernel
theorem dX5_onWay_7 : decode cX5_onWay 7 = .ok (.getfield 59, 3) := by decide +kernel
theorem dX5_onWay_10 : decode cX5_onWay 10 = .ok (.invokevirtual 227, 3) := by decide +kernel
theorem dX5_onWay_13 : decode cX5_onWay 13 = .ok (.ireturn, 1) := by decide +kernel
theorem dX5_nextArrival_0 : decode cX5_nextArrival 0 = .ok (.aload_n 0, 1) := by decide +kernel
theorem dX5_nextArrival_1 : decode cX5_nextArrival 1 = .ok (.iload_n 1, 1) := by decide +kernel
theorem dX5_nextArrival_2 : decode cX5_nextArrival 2 = .ok (.iload_n 2, 1) := by decide +kernel
theorem dX5_nextArrival_3 : decode cX5_nextArrival 3 = .ok (.invokevirtual 152, 3) := by decide +kernel
theorem dX5_nextArrival_6 : decode cX5_nextArrival 6 = .ok (.aload_n 0, 1) := by decide +kernel
theorem dX5_nextArrival_7 : decode cX5_nextArrival 7 = .ok (.getfield 59, 3) := by decide +kernel
theorem dX5_nextArrival_10 : decode cX5_nextArrival 10 = .ok (.invokevirtual 230, 3) := by decide +kernel
theorem dX5_nextArrival_13 : decode cX5_nextArrival 13 = .ok (.istore_n 3, 1) := by decide +kernel
theorem dX5_nextArrival_14 : decode cX5_nextArrival 14 = .ok (.iload_n 3, 1) := by decide +kernel
theorem dX5_nextArrival_15 : decode cX5_nextArrival 15 = .ok (.ifCond .ge 13, 3) := by decide +kernel
theorem dX5_nextArrival_18 : decode cX5_nextArrival 18 = .ok (.new 233, 3) := by decide +kernel
theorem dX5_nextArrival_21 : decode cX5_nextArrival 21 = .ok (.dup, 1) := by decide +kernel
theorem dX5_nextArrival_22 : decode cX5_nextArrival 22 = .ok (.ldc 235, 2) := by decide +kernel
theorem dX5_nextArrival_24 : decode cX5_nextArrival 24 = .ok (.invokespecial 237, 3) := by decide +kernel
theorem dX5_nextArrival_27 : decode cX5_nextArrival 27 = .ok (.athrow, 1) := by decide +kernel
theorem dX5_nextArrival_28 : decode cX5_nextArrival 28 = .ok (.iload_n 3, 1) := by decide +kernel
theorem dX5_nextArrival_29 : decode cX5_nextArrival 29 = .ok (.ireturn, 1) := by decide +kernel
theorem dX5_need_0 : decode cX5_need 0 = .ok (.aload_n 0, 1) := by decide +kernel
theorem dX5_need_1 : decode cX5_need 1 = .ok (.iload_n 1, 1) := by decide +kernel
theorem dX5_need_2 : decode cX5_need 2 = .ok (.iload_n 2, 1) := by decide +kernel
theorem dX5_need_3 : decode cX5_need 3 = .ok (.invokevirtual 152, 3) := by decide +kernel
theorem dX5_need_6 : decode cX5_need 6 = .ok (.aload_n 0, 1) := by decide +kernel
theorem dX5_need_7 : decode cX5_need 7 = .ok (.getfield 59, 3) := by decide +kernel
theorem dX5_need_10 : decode cX5_need 10 = .ok (.aload_n 0, 1) := by decide +kernel
theorem dX5_need_11 : decode cX5_need 11 = .ok (.getfield 62, 3) := by decide +kernel
theorem dX5_need_14 : decode cX5_need 14 = .ok (.invokevirtual 238, 3) := by decide +kernel
theorem dX5_need_17 : decode cX5_need 17 = .ok (.ireturn, 1) := by decide +kernel
theorem dX5_request_0 : decode cX5_request 0 = .ok (.aload_n 0, 1) := by decide +kernel
theorem dX5_request_1 : decode cX5_request 1 = .ok (.iload_n 1, 1) := by decide +kernel
theorem dX5_request_2 : decode cX5_request 2 = .ok (.iload_n 2, 1) := by decide +kernel
theorem dX5_request_3 : decode cX5_request 3 = .ok (.invokevirtual 152, 3) := by decide +kernel
theorem dX5_request_6 : decode cX5_request 6 = .ok (.aload_n 0, 1) := by decide +kernel
theorem dX5_request_7 : decode cX5_request 7 = .ok (.getfield 59, 3) := by decide +kernel
theorem dX5_request_10 : decode cX5_request 10 = .ok (.aload_n 0, 1) := by decide +kernel
theorem dX5_request_11 : decode cX5_request 11 = .ok (.getfield 62, 3) := by decide +kernel
theorem dX5_request_14 : decode cX5_request 14 = .ok (.invokevirtual 241, 3) := by decide +kernel
theorem dX5_request_17 : decode cX5_request 17 = .ok (.ireturn, 1) := by decide +kernel
theorem dX5_share_0 : decode cX5_share 0 = .ok (.aload_n 0, 1) := by decide +kernel
theorem dX5_share_1 : decode cX5_share 1 = .ok (.iload_n 1, 1) := by decide +kernel
theorem dX5_share_2 : decode cX5_share 2 = .ok (.iload_n 2, 1) := by decide +kernel
theorem dX5_share_3 : decode cX5_share 3 = .ok (.invokevirtual 152, 3) := by decide +kernel
theorem dX5_share_6 : decode cX5_share 6 = .ok (.pop, 1) := by decide +kernel
theorem dX5_share_7 : decode cX5_share 7 = .ok (.aload_n 0, 1) := by decide +kernel
theorem dX5_share_8 : decode cX5_share 8 = .ok (.iload_n 2, 1) := by decide +kernel
theorem dX5_share_9 : decode cX5_share 9 = .ok (.invokevirtual 244, 3) := by decide +kernel
theorem dX5_share_12 : decode cX5_share 12 = .ok (.aload_n 0, 1) := by decide +kernel
theorem dX5_share_13 : decode cX5_share 13 = .ok (.getfield 45, 3) := by decide +kernel
theorem dX5_share_16 : decode cX5_share 16 = .ok (.iload_n 1, 1) := by decide +kernel
theorem dX5_share_17 : decode cX5_share 17 = .ok (.invokevirtual 247, 3) := by decide +kernel
theorem dX5_share_20 : decode cX5_share 20 = .ok (.ireturn, 1) := by decide +kernel
theorem dX5_shareByPacks_0 : decode cX5_shareByPacks 0 = .ok (.aload_n 0, 1) := by decide +kernel
theorem dX5_shareByPacks_1 : decode cX5_shareByPacks 1 = .ok (.iload_n 1, 1) := by decide +kernel
theorem dX5_shareByPacks_2 : decode cX5_shareByPacks 2 = .ok (.iload_n 2, 1) := by decide +kernel
theorem dX5_shareByPacks_3 : decode cX5_shareByPacks 3 = .ok (.invokevirtual 152, 3) := by decide +kernel
theorem dX5_shareByPacks_6 : decode cX5_shareByPacks 6 = .ok (.pop, 1) := by decide +kernel
theorem dX5_shareByPacks_7 : decode cX5_shareByPacks 7 = .ok (.aload_n 0, 1) := by decide +kernel
theorem dX5_shareByPacks_8 : decode cX5_shareByPacks 8 = .ok (.iload_n 2, 1) := by decide +kernel
theorem dX5_shareByPacks_9 : decode cX5_shareByPacks 9 = .ok (.invokevirtual 244, 3) := by decide +kernel
theorem dX5_shareByPacks_12 : decode cX5_shareByPacks 12 = .ok (.aload_n 0, 1) := by decide +kernel
theorem dX5_shareByPacks_13 : decode cX5_shareByPacks 13 = .ok (.getfield 45, 3) := by decide +kernel
theorem dX5_shareByPacks_16 : decode cX5_shareByPacks 16 = .ok (.iload_n 1, 1) := by decide +kernel
theorem dX5_shareByPacks_17 : decode cX5_shareByPacks 17 = .ok (.invokevirtual 250, 3) := by decide +kernel
theorem dX5_shareByPacks_20 : decode cX5_shareByPacks 20 = .ok (.ireturn, 1) := by decide +kernel
theorem dX5_centre_0 : decode cX5_centre 0 = .ok (.aload_n 0, 1) := by decide +kernel
theorem dX5_centre_1 : decode cX5_centre 1 = .ok (.iload_n 1, 1) := by decide +kernel
theorem dX5_centre_2 : decode cX5_centre 2 = .ok (.invokevirtual 96, 3) := by decide +kernel
theorem dX5_centre_5 : decode cX5_centre 5 = .ok (.getfield 124, 3) := by decide +kernel
theorem dX5_centre_8 : decode cX5_centre 8 = .ok (.ireturn, 1) := by decide +kernel
theorem dX5_centreByJournal_0 : decode cX5_centreByJournal 0 = .ok (.aload_n 0, 1) := by decide +kernel
theorem dX5_centreByJournal_1 : decode cX5_centreByJournal 1 = .ok (.iload_n 1, 1) := by decide +kernel
theorem dX5_centreByJournal_2 : decode cX5_centreByJournal 2 = .ok (.invokevirtual 96, 3) := by decide +kernel
theorem dX5_centreByJournal_5 : decode cX5_centreByJournal 5 = .ok (.aload_n 0, 1) := by decide +kernel
theorem dX5_centreByJournal_6 : decode cX5_centreByJournal 6 = .ok (.getfield 59, 3) := by decide +kernel
theorem dX5_centreByJournal_9 : decode cX5_centreByJournal 9 = .ok (.invokevirtual 253, 3) := by decide +kernel
theorem dX5_centreByJournal_12 : decode cX5_centreByJournal 12 = .ok (.ireturn, 1) := by decide +kernel
theorem dX5_lost_0 : decode cX5_lost 0 = .ok (.aload_n 0, 1) := by decide +kernel
theorem dX5_lost_1 : decode cX5_lost 1 = .ok (.iload_n 1, 1) := by decide +kernel
theorem dX5_lost_2 : decode cX5_lost 2 = .ok (.iload_n 2, 1) := by decide +kernel
theorem dX5_lost_3 : decode cX5_lost 3 = .ok (.invokevirtual 152, 3) := by decide +kernel
theorem dX5_lost_6 : decode cX5_lost 6 = .ok (.getfield 257, 3) := by decide +kernel
theorem dX5_lost_9 : decode cX5_lost 9 = .ok (.ireturn, 1) := by decide +kernel
theorem dX5_units_0 : decode cX5_units 0 = .ok (.lconst 0, 1) := by decide +kernel
theorem dX5_units_1 : decode cX5_units 1 = .ok (.lstore_n 1, 1) := by decide +kernel
theorem dX5_units_2 : decode cX5_units 2 = .ok (.iconst 0, 1) := by decide +kernel
theorem dX5_units_3 : decode cX5_units 3 = .ok (.istore_n 3, 1) := by decide +kernel
theorem dX5_units_4 : decode cX5_units 4 = .ok (.iload_n 3, 1) := by decide +kernel
theorem dX5_units_5 : decode cX5_units 5 = .ok (.aload_n 0, 1) := by decide +kernel
theorem dX5_units_6 : decode cX5_units 6 = .ok (.getfield 15, 3) := by decide +kernel
theorem dX5_units_9 : decode cX5_units 9 = .ok (.arraylength, 1) := by decide +kernel
theorem dX5_units_10 : decode cX5_units 10 = .ok (.if_icmp .ge 31, 3) := by decide +kernel
theorem dX5_units_13 : decode cX5_units 13 = .ok (.aload_n 0, 1) := by decide +kernel
theorem dX5_units_14 : decode cX5_units 14 = .ok (.getfield 15, 3) := by decide +kernel
theorem dX5_units_17 : decode cX5_units 17 = .ok (.iload_n 3, 1) := by decide +kernel
theorem dX5_units_18 : decode cX5_units 18 = .ok (.aaload, 1) := by decide +kernel
theorem dX5_units_19 : decode cX5_units 19 = .ok (.astore 4, 2) := by decide +kernel
theorem dX5_units_21 : decode cX5_units 21 = .ok (.aload 4, 2) := by decide +kernel
theorem dX5_units_23 : decode cX5_units 23 = .ok (.ifnull 12, 3) := by decide +kernel
theorem dX5_units_26 : decode cX5_units 26 = .ok (.lload_n 1, 1) := by decide +kernel
theorem dX5_units_27 : decode cX5_units 27 = .ok (.aload 4, 2) := by decide +kernel
theorem dX5_units_29 : decode cX5_units 29 = .ok (.getfield 124, 3) := by decide +kernel
theorem dX5_units_32 : decode cX5_units 32 = .ok (.i2l, 1) := by decide +kernel
theorem dX5_units_33 : decode cX5_units 33 = .ok (.ladd, 1) := by decide +kernel
theorem dX5_units_34 : decode cX5_units 34 = .ok (.lstore_n 1, 1) := by decide +kernel
theorem dX5_units_35 : decode cX5_units 35 = .ok (.iinc 3 1, 3) := by decide +kernel
theorem dX5_units_38 : decode cX5_units 38 = .ok (.goto (-34), 3) := by decide +kernel
theorem dX5_units_41 : decode cX5_units 41 = .ok (.iconst 0, 1) := by decide +kernel
theorem dX5_units_42 : decode cX5_units 42 = .ok (.istore_n 3, 1) := by decide +kernel
theorem dX5_units_43 : decode cX5_units 43 = .ok (.iload_n 3, 1) := by decide +kernel
theorem dX5_units_44 : decode cX5_units 44 = .ok (.aload_n 0, 1) := by decide +kernel
theorem dX5_units_45 : decode cX5_units 45 = .ok (.getfield 21, 3) := by decide +kernel
theorem dX5_units_48 : decode cX5_units 48 = .ok (.arraylength, 1) := by decide +kernel
theorem dX5_units_49 : decode cX5_units 49 = .ok (.if_icmp .ge 44, 3) := by decide +kernel
theorem dX5_units_52 : decode cX5_units 52 = .ok (.aload_n 0, 1) := by decide +kernel
theorem dX5_units_53 : decode cX5_units 53 = .ok (.getfield 21, 3) := by decide +kernel
theorem dX5_units_56 : decode cX5_units 56 = .ok (.iload_n 3, 1) := by decide +kernel
theorem dX5_units_57 : decode cX5_units 57 = .ok (.aaload, 1) := by decide +kernel
theorem dX5_units_58 : decode cX5_units 58 = .ok (.astore 4, 2) := by decide +kernel
theorem dX5_units_60 : decode cX5_units 60 = .ok (.aload 4, 2) := by decide +kernel
theorem dX5_units_62 : decode cX5_units 62 = .ok (.ifnull 25, 3) := by decide +kernel
theorem dX5_units_65 : decode cX5_units 65 = .ok (.lload_n 1, 1) := by decide +kernel
theorem dX5_units_66 : decode cX5_units 66 = .ok (.aload 4, 2) := by decide +kernel
theorem dX5_units_68 : decode cX5_units 68 = .ok (.getfield 223, 3) := by decide +kernel
theorem dX5_units_71 : decode cX5_units 71 = .ok (.i2l, 1) := by decide +kernel
theorem dX5_units_72 : decode cX5_units 72 = .ok (.ladd, 1) := by decide +kernel
theorem dX5_units_73 : decode cX5_units 73 = .ok (.lstore_n 1, 1) := by decide +kernel
theorem dX5_units_74 : decode cX5_units 74 = .ok (.lload_n 1, 1) := by decide +kernel
theorem dX5_units_75 : decode cX5_units 75 = .ok (.aload 4, 2) := by decide +kernel
theorem dX5_units_77 : decode cX5_units 77 = .ok (.aload_n 0, 1) := by decide +kernel
theorem dX5_units_78 : decode cX5_units 78 = .ok (.getfield 59, 3) := by decide +kernel
theorem dX5_units_81 : decode cX5_units 81 = .ok (.invokevirtual 227, 3) := by decide +kernel
theorem dX5_units_84 : decode cX5_units 84 = .ok (.i2l, 1) := by decide +kernel
theorem dX5_units_85 : decode cX5_units 85 = .ok (.ladd, 1) := by decide +kernel
theorem dX5_units_86 : decode cX5_units 86 = .ok (.lstore_n 1, 1) := by decide +kernel
theorem dX5_units_87 : decode cX5_units 87 = .ok (.iinc 3 1, 3) := by decide +kernel
theorem dX5_units_90 : decode cX5_units 90 = .ok (.goto (-47), 3) := by decide +kernel
theorem dX5_units_93 : decode cX5_units 93 = .ok (.lload_n 1, 1) := by decide +kernel
theorem dX5_units_94 : decode cX5_units 94 = .ok (.lreturn, 1) := by decide +kernel
theorem dX5_isShop_0 : decode cX5_isShop 0 = .ok (.iload_n 1, 1) := by decide +kernel
theorem dX5_isShop_1 : decode cX5_isShop 1 = .ok (.ifCond .lt 24, 3) := by decide +kernel
theorem dX5_isShop_4 : decode cX5_isShop 4 = .ok (.iload_n 1, 1) := by decide +kernel
theorem dX5_isShop_5 : decode cX5_isShop 5 = .ok (.aload_n 0, 1) := by decide +kernel
theorem dX5_isShop_6 : decode cX5_isShop 6 = .ok (.getfield 49, 3) := by decide +kernel
theorem dX5_isShop_9 : decode cX5_isShop 9 = .ok (.if_icmp .ge 16, 3) := by decide +kernel
theorem dX5_isShop_12 : decode cX5_isShop 12 = .ok (.iload_n 1, 1) := by decide +kernel
theorem dX5_isShop_13 : decode cX5_isShop 13 = .ok (.aload_n 0, 1) := by decide +kernel
theorem dX5_isShop_14 : decode cX5_isShop 14 = .ok (.getfield 9, 3) := by decide +kernel
theorem dX5_isShop_17 : decode cX5_isShop 17 = .ok (.arraylength, 1) := by decide +kernel
theorem dX5_isShop_18 : decode cX5_isShop 18 = .ok (.if_icmp .ge 7, 3) := by decide +kernel
theorem dX5_isShop_21 : decode cX5_isShop 21 = .ok (.iconst 1, 1) := by decide +kernel
theorem dX5_isShop_22 : decode cX5_isShop 22 = .ok (.goto 4, 3) := by decide +kernel
theorem dX5_isShop_25 : decode cX5_isShop 25 = .ok (.iconst 0, 1) := by decide +kernel
theorem dX5_isShop_26 : decode cX5_isShop 26 = .ok (.ireturn, 1) := by decide +kernel
theorem dX5_isItem_0 : decode cX5_isItem 0 = .ok (.iload_n 1, 1) := by decide +kernel
theorem dX5_isItem_1 : decode cX5_isItem 1 = .ok (.ifCond .lt 24, 3) := by decide +kernel
theorem dX5_isItem_4 : decode cX5_isItem 4 = .ok (.iload_n 1, 1) := by decide +kernel
theorem dX5_isItem_5 : decode cX5_isItem 5 = .ok (.aload_n 0, 1) := by decide +kernel
theorem dX5_isItem_6 : decode cX5_isItem 6 = .ok (.getfield 53, 3) := by decide +kernel
theorem dX5_isItem_9 : decode cX5_isItem 9 = .ok (.if_icmp .ge 16, 3) := by decide +kernel
theorem dX5_isItem_12 : decode cX5_isItem 12 = .ok (.iload_n 1, 1) := by decide +kernel
theorem dX5_isItem_13 : decode cX5_isItem 13 = .ok (.aload_n 0, 1) := by decide +kernel
theorem dX5_isItem_14 : decode cX5_isItem 14 = .ok (.getfield 15, 3) := by decide +kernel
theorem dX5_isItem_17 : decode cX5_isItem 17 = .ok (.arraylength, 1) := by decide +kernel
theorem dX5_isItem_18 : decode cX5_isItem 18 = .ok (.if_icmp .ge 7, 3) := by decide +kernel
theorem dX5_isItem_21 : decode cX5_isItem 21 = .ok (.iconst 1, 1) := by decide +kernel
theorem dX5_isItem_22 : decode cX5_isItem 22 = .ok (.goto 4, 3) := by decide +kernel
theorem dX5_isItem_25 : decode cX5_isItem 25 = .ok (.iconst 0, 1) := by decide +kernel
theorem dX5_isItem_26 : decode cX5_isItem 26 = .ok (.ireturn, 1) := by decide +kernel
theorem dX5_requireShop_0 : decode cX5_requireShop 0 = .ok (.aload_n 0, 1) := by decide +kernel
theorem dX5_requireShop_1 : decode cX5_requireShop 1 = .ok (.iload_n 1, 1) := by decide +kernel
theorem dX5_requireShop_2 : decode cX5_requireShop 2 = .ok (.invokevirtual 262, 3) := by decide +kernel
theorem dX5_requireShop_5 : decode cX5_requireShop 5 = .ok (.ifCond .ne 14, 3) := by decide +kernel
theorem dX5_requireShop_8 : decode cX5_requireShop 8 = .ok (.new 265, 3) := by decide +kernel
theorem dX5_requireShop_11 : decode cX5_requireShop 11 = .ok (.dup, 1) := by decide +kernel
theorem dX5_requireShop_12 : decode cX5_requireShop 12 = .ok (.ldc_w 267, 3) := by decide +kernel
theorem dX5_requireShop_15 : decode cX5_requireShop 15 = .ok (.invokespecial 269, 3) := by decide +kernel
theorem dX5_requireShop_18 : decode cX5_requireShop 18 = .ok (.athrow, 1) := by decide +kernel
theorem dX5_requireShop_19 : decode cX5_requireShop 19 = .ok (.return_, 1) := by decide +kernel
theorem dX5_requireItem_0 : decode cX5_requireItem 0 = .ok (.aload_n 0, 1) := by decide +kernel
theorem dX5_requireItem_1 : decode cX5_requireItem 1 = .ok (.iload_n 1, 1) := by decide +kernel
theorem dX5_requireItem_2 : decode cX5_requireItem 2 = .ok (.invokevirtual 270, 3) := by decide +kernel
theorem dX5_requireItem_5 : decode cX5_requireItem 5 = .ok (.astore_n 2, 1) := by decide +kernel
theorem dX5_requireItem_6 : decode cX5_requireItem 6 = .ok (.aload_n 2, 1) := by decide +kernel
theorem dX5_requireItem_7 : decode cX5_requireItem 7 = .ok (.ifnonnull 14, 3) := by decide +kernel
theorem dX5_requireItem_10 : decode cX5_requireItem 10 = .ok (.new 265, 3) := by decide +kernel
theorem dX5_requireItem_13 : decode cX5_requireItem 13 = .ok (.dup, 1) := by decide +kernel
theorem dX5_requireItem_14 : decode cX5_requireItem 14 = .ok (.ldc_w 273, 3) := by decide +kernel
theorem dX5_requireItem_17 : decode cX5_requireItem 17 = .ok (.invokespecial 269, 3) := by decide +kernel
theorem dX5_requireItem_20 : decode cX5_requireItem 20 = .ok (.athrow, 1) := by decide +kernel
theorem dX5_requireItem_21 : decode cX5_requireItem 21 = .ok (.aload_n 2, 1) := by decide +kernel
theorem dX5_requireItem_22 : decode cX5_requireItem 22 = .ok (.areturn, 1) := by decide +kernel
theorem dX5_itemOrNull_0 : decode cX5_itemOrNull 0 = .ok (.aload_n 0, 1) := by decide +kernel
theorem dX5_itemOrNull_1 : decode cX5_itemOrNull 1 = .ok (.iload_n 1, 1) := by decide +kernel
theorem dX5_itemOrNull_2 : decode cX5_itemOrNull 2 = .ok (.invokevirtual 275, 3) := by decide +kernel
theorem dX5_itemOrNull_5 : decode cX5_itemOrNull 5 = .ok (.ifCond .eq 12, 3) := by decide +kernel
theorem dX5_itemOrNull_8 : decode cX5_itemOrNull 8 = .ok (.aload_n 0, 1) := by decide +kernel
theorem dX5_itemOrNull_9 : decode cX5_itemOrNull 9 = .ok (.getfield 15, 3) := by decide +kernel
theorem dX5_itemOrNull_12 : decode cX5_itemOrNull 12 = .ok (.iload_n 1, 1) := by decide +kernel
theorem dX5_itemOrNull_13 : decode cX5_itemOrNull 13 = .ok (.aaload, 1) := by decide +kernel
theorem dX5_itemOrNull_14 : decode cX5_itemOrNull 14 = .ok (.goto 4, 3) := by decide +kernel
theorem dX5_itemOrNull_17 : decode cX5_itemOrNull 17 = .ok (.aconst_null, 1) := by decide +kernel
theorem dX5_itemOrNull_18 : decode cX5_itemOrNull 18 = .ok (.areturn, 1) := by decide +kernel
theorem dX5_requireLine_0 : decode cX5_requireLine 0 = .ok (.aload_n 0, 1) := by decide +kernel
theorem dX5_requireLine_1 : decode cX5_requireLine 1 = .ok (.iload_n 1, 1) := by decide +kernel
theorem dX5_requireLine_2 : decode cX5_requireLine 2 = .ok (.invokevirtual 92, 3) := by decide +kernel
theorem dX5_requireLine_5 : decode cX5_requireLine 5 = .ok (.aload_n 0, 1) := by decide +kernel
theorem dX5_requireLine_6 : decode cX5_requireLine 6 = .ok (.iload_n 2, 1) := by decide +kernel
theorem dX5_requireLine_7 : decode cX5_requireLine 7 = .ok (.invokevirtual 96, 3) := by decide +kernel
theorem dX5_requireLine_10 : decode cX5_requireLine 10 = .ok (.pop, 1) := by decide +kernel
theorem dX5_requireLine_11 : decode cX5_requireLine 11 = .ok (.aload_n 0, 1) := by decide +kernel
theorem dX5_requireLine_12 : decode cX5_requireLine 12 = .ok (.iload_n 1, 1) := by decide +kernel
theorem dX5_requireLine_13 : decode cX5_requireLine 13 = .ok (.iload_n 2, 1) := by decide +kernel
theorem dX5_requireLine_14 : decode cX5_requireLine 14 = .ok (.invokevirtual 118, 3) := by decide +kernel
theorem dX5_requireLine_17 : decode cX5_requireLine 17 = .ok (.astore_n 3, 1) := by decide +kernel
theorem dX5_requireLine_18 : decode cX5_requireLine 18 = .ok (.aload_n 3, 1) := by decide +kernel
theorem dX5_requireLine_19 : decode cX5_requireLine 19 = .ok (.ifnonnull 14, 3) := by decide +kernel
theorem dX5_requireLine_22 : decode cX5_requireLine 22 = .ok (.new 233, 3) := by decide +kernel
theorem dX5_requireLine_25 : decode cX5_requireLine 25 = .ok (.dup, 1) := by decide +kernel
theorem dX5_requireLine_26 : decode cX5_requireLine 26 = .ok (.ldc_w 278, 3) := by decide +kernel
theorem dX5_requireLine_29 : decode cX5_requireLine 29 = .ok (.invokespecial 237, 3) := by decide +kernel
theorem dX5_requireLine_32 : decode cX5_requireLine 32 = .ok (.athrow, 1) := by decide +kernel
theorem dX5_requireLine_33 : decode cX5_requireLine 33 = .ok (.aload_n 3, 1) := by decide +kernel
theorem dX5_requireLine_34 : decode cX5_requireLine 34 = .ok (.areturn, 1) := by decide +kernel
theorem dX5_lineOrNull_0 : decode cX5_lineOrNull 0 = .ok (.aload_n 0, 1) := by decide +kernel
theorem dX5_lineOrNull_1 : decode cX5_lineOrNull 1 = .ok (.iload_n 1, 1) := by decide +kernel
theorem dX5_lineOrNull_2 : decode cX5_lineOrNull 2 = .ok (.iload_n 2, 1) := by decide +kernel
theorem dX5_lineOrNull_3 : decode cX5_lineOrNull 3 = .ok (.invokevirtual 105, 3) := by decide +kernel
theorem dX5_lineOrNull_6 : decode cX5_lineOrNull 6 = .ok (.istore_n 3, 1) := by decide +kernel
theorem dX5_lineOrNull_7 : decode cX5_lineOrNull 7 = .ok (.iload_n 3, 1) := by decide +kernel
theorem dX5_lineOrNull_8 : decode cX5_lineOrNull 8 = .ok (.ifCond .lt 21, 3) := by decide +kernel
theorem dX5_lineOrNull_11 : decode cX5_lineOrNull 11 = .ok (.iload_n 3, 1) := by decide +kernel
theorem dX5_lineOrNull_12 : decode cX5_lineOrNull 12 = .ok (.aload_n 0, 1) := by decide +kernel
theorem dX5_lineOrNull_13 : decode cX5_lineOrNull 13 = .ok (.getfield 21, 3) := by decide +kernel
theorem dX5_lineOrNull_16 : decode cX5_lineOrNull 16 = .ok (.arraylength, 1) := by decide +kernel
theorem dX5_lineOrNull_17 : decode cX5_lineOrNull 17 = .ok (.if_icmp .ge 12, 3) := by decide +kernel
theorem dX5_lineOrNull_20 : decode cX5_lineOrNull 20 = .ok (.aload_n 0, 1) := by decide +kernel
theorem dX5_lineOrNull_21 : decode cX5_lineOrNull 21 = .ok (.getfield 21, 3) := by decide +kernel
theorem dX5_lineOrNull_24 : decode cX5_lineOrNull 24 = .ok (.iload_n 3, 1) := by decide +kernel
theorem dX5_lineOrNull_25 : decode cX5_lineOrNull 25 = .ok (.aaload, 1) := by decide +kernel
theorem dX5_lineOrNull_26 : decode cX5_lineOrNull 26 = .ok (.goto 4, 3) := by decide +kernel
theorem dX5_lineOrNull_29 : decode cX5_lineOrNull 29 = .ok (.aconst_null, 1) := by decide +kernel
theorem dX5_lineOrNull_30 : decode cX5_lineOrNull 30 = .ok (.areturn, 1) := by decide +kernel
theorem dX5_placeOf_0 : decode cX5_placeOf 0 = .ok (.aload_n 0, 1) := by decide +kernel
theorem dX5_placeOf_1 : decode cX5_placeOf 1 = .ok (.iload_n 1, 1) := by decide +kernel
theorem dX5_placeOf_2 : decode cX5_placeOf 2 = .ok (.invokevirtual 262, 3) := by decide +kernel
theorem dX5_placeOf_5 : decode cX5_placeOf 5 = .ok (.ifCond .eq 19, 3) := by decide +kernel
theorem dX5_placeOf_8 : decode cX5_placeOf 8 = .ok (.aload_n 0, 1) := by decide +kernel
theorem dX5_placeOf_9 : decode cX5_placeOf 9 = .ok (.iload_n 2, 1) := by decide +kernel
theorem dX5_placeOf_10 : decode cX5_placeOf 10 = .ok (.invokevirtual 275, 3) := by decide +kernel
theorem dX5_placeOf_13 : decode cX5_placeOf 13 = .ok (.ifCond .eq 11, 3) := by decide +kernel
theorem dX5_placeOf_16 : decode cX5_placeOf 16 = .ok (.iload_n 1, 1) := by decide +kernel
theorem dX5_placeOf_17 : decode cX5_placeOf 17 = .ok (.iconst 5, 1) := by decide +kernel
theorem dX5_placeOf_18 : decode cX5_placeOf 18 = .ok (.imul, 1) := by decide +kernel
theorem dX5_placeOf_19 : decode cX5_placeOf 19 = .ok (.iload_n 2, 1) := by decide +kernel
theorem dX5_placeOf_20 : decode cX5_placeOf 20 = .ok (.iadd, 1) := by decide +kernel
theorem dX5_placeOf_21 : decode cX5_placeOf 21 = .ok (.goto 4, 3) := by decide +kernel
theorem dX5_placeOf_24 : decode cX5_placeOf 24 = .ok (.iconst (-1), 1) := by decide +kernel
theorem dX5_placeOf_25 : decode cX5_placeOf 25 = .ok (.ireturn, 1) := by decide +kernel
theorem dX5_leadOf_0 : decode cX5_leadOf 0 = .ok (.aload_n 0, 1) := by decide +kernel
theorem dX5_leadOf_1 : decode cX5_leadOf 1 = .ok (.iload_n 1, 1) := by decide +kernel
theorem dX5_leadOf_2 : decode cX5_leadOf 2 = .ok (.invokevirtual 262, 3) := by decide +kernel
theorem dX5_leadOf_5 : decode cX5_leadOf 5 = .ok (.ifCond .eq 12, 3) := by decide +kernel
theorem dX5_leadOf_8 : decode cX5_leadOf 8 = .ok (.aload_n 0, 1) := by decide +kernel
theorem dX5_leadOf_9 : decode cX5_leadOf 9 = .ok (.getfield 9, 3) := by decide +kernel
theorem dX5_leadOf_12 : decode cX5_leadOf 12 = .ok (.iload_n 1, 1) := by decide +kernel
theorem dX5_leadOf_13 : decode cX5_leadOf 13 = .ok (.iaload, 1) := by decide +kernel
theorem dX5_leadOf_14 : decode cX5_leadOf 14 = .ok (.goto 4, 3) := by decide +kernel
theorem dX5_leadOf_17 : decode cX5_leadOf 17 = .ok (.iconst 1, 1) := by decide +kernel
theorem dX5_leadOf_18 : decode cX5_leadOf 18 = .ok (.ireturn, 1) := by decide +kernel
theorem dX5_learnToday_0 : decode cX5_learnToday 0 = .ok (.aload_n 0, 1) := by decide +kernel
theorem dX5_learnToday_1 : decode cX5_learnToday 1 = .ok (.getfield 28, 3) := by decide +kernel
theorem dX5_learnToday_4 : decode cX5_learnToday 4 = .ok (.aload_n 0, 1) := by decide +kernel
theorem dX5_learnToday_5 : decode cX5_learnToday 5 = .ok (.getfield 59, 3) := by decide +kernel
theorem dX5_learnToday_8 : decode cX5_learnToday 8 = .ok (.aload_n 0, 1) := by decide +kernel
theorem dX5_learnToday_9 : decode cX5_learnToday 9 = .ok (.getfield 65, 3) := by decide +kernel
theorem dX5_learnToday_12 : decode cX5_learnToday 12 = .ok (.invokevirtual 147, 3) := by decide +kernel
theorem dX5_learnToday_15 : decode cX5_learnToday 15 = .ok (.aload_n 0, 1) := by decide +kernel
theorem dX5_learnToday_16 : decode cX5_learnToday 16 = .ok (.getfield 32, 3) := by decide +kernel
theorem dX5_learnToday_19 : decode cX5_learnToday 19 = .ok (.aload_n 0, 1) := by decide +kernel
theorem dX5_learnToday_20 : decode cX5_learnToday 20 = .ok (.getfield 59, 3) := by decide +kernel
theorem dX5_learnToday_23 : decode cX5_learnToday 23 = .ok (.aload_n 0, 1) := by decide +kernel
theorem dX5_learnToday_24 : decode cX5_learnToday 24 = .ok (.getfield 68, 3) := by decide +kernel
theorem dX5_learnToday_27 : decode cX5_learnToday 27 = .ok (.invokevirtual 147, 3) := by decide +kernel
theorem dX5_learnToday_30 : decode cX5_learnToday 30 = .ok (.iconst 0, 1) := by decide +kernel
theorem dX5_learnToday_31 : decode cX5_learnToday 31 = .ok (.istore_n 1, 1) := by decide +kernel
theorem dX5_learnToday_32 : decode cX5_learnToday 32 = .ok (.iload_n 1, 1) := by decide +kernel
theorem dX5_learnToday_33 : decode cX5_learnToday 33 = .ok (.aload_n 0, 1) := by decide +kernel
theorem dX5_learnToday_34 : decode cX5_learnToday 34 = .ok (.getfield 21, 3) := by decide +kernel
theorem dX5_learnToday_37 : decode cX5_learnToday 37 = .ok (.arraylength, 1) := by decide +kernel
theorem dX5_learnToday_38 : decode cX5_learnToday 38 = .ok (.if_icmp .ge 50, 3) := by decide +kernel
theorem dX5_learnToday_41 : decode cX5_learnToday 41 = .ok (.aload_n 0, 1) := by decide +kernel
theorem dX5_learnToday_42 : decode cX5_learnToday 42 = .ok (.getfield 21, 3) := by decide +kernel
theorem dX5_learnToday_45 : decode cX5_learnToday 45 = .ok (.iload_n 1, 1) := by decide +kernel
theorem dX5_learnToday_46 : decode cX5_learnToday 46 = .ok (.aaload, 1) := by decide +kernel
theorem dX5_learnToday_47 : decode cX5_learnToday 47 = .ok (.astore_n 2, 1) := by decide +kernel
theorem dX5_learnToday_48 : decode cX5_learnToday 48 = .ok (.aload_n 2, 1) := by decide +kernel
theorem dX5_learnToday_49 : decode cX5_learnToday 49 = .ok (.ifnull 33, 3) := by decide +kernel
theorem dX5_learnToday_52 : decode cX5_learnToday 52 = .ok (.aload_n 2, 1) := by decide +kernel
theorem dX5_learnToday_53 : decode cX5_learnToday 53 = .ok (.getfield 197, 3) := by decide +kernel
theorem dX5_learnToday_56 : decode cX5_learnToday 56 = .ok (.aload_n 0, 1) := by decide +kernel
theorem dX5_learnToday_57 : decode cX5_learnToday 57 = .ok (.getfield 59, 3) := by decide +kernel
theorem dX5_learnToday_60 : decode cX5_learnToday 60 = .ok (.invokevirtual 140, 3) := by decide +kernel
theorem dX5_learnToday_63 : decode cX5_learnToday 63 = .ok (.ifCond .ne 19, 3) := by decide +kernel
theorem dX5_learnToday_66 : decode cX5_learnToday 66 = .ok (.aload_n 2, 1) := by decide +kernel
theorem dX5_learnToday_67 : decode cX5_learnToday 67 = .ok (.aload_n 0, 1) := by decide +kernel
theorem dX5_learnToday_68 : decode cX5_learnToday 68 = .ok (.getfield 59, 3) := by decide +kernel
theorem dX5_learnToday_71 : decode cX5_learnToday 71 = .ok (.aload_n 0, 1) := by decide +kernel
theorem dX5_learnToday_72 : decode cX5_learnToday 72 = .ok (.getfield 65, 3) := by decide +kernel
theorem dX5_learnToday_75 : decode cX5_learnToday 75 = .ok (.aload_n 0, 1) := by decide +kernel
theorem dX5_learnToday_76 : decode cX5_learnToday 76 = .ok (.getfield 68, 3) := by decide +kernel
theorem dX5_learnToday_79 : decode cX5_learnToday 79 = .ok (.invokevirtual 280, 3) := by decide +kernel
theorem dX5_learnToday_82 : decode cX5_learnToday 82 = .ok (.iinc 1 1, 3) := by decide +kernel
theorem dX5_learnToday_85 : decode cX5_learnToday 85 = .ok (.goto (-53), 3) := by decide +kernel
theorem dX5_learnToday_88 : decode cX5_learnToday 88 = .ok (.return_, 1) := by decide +kernel
theorem dX5_receiveToday_0 : decode cX5_receiveToday 0 = .ok (.iconst 0, 1) := by decide +kernel
theorem dX5_receiveToday_1 : decode cX5_receiveToday 1 = .ok (.istore_n 1, 1) := by decide +kernel
theorem dX5_receiveToday_2 : decode cX5_receiveToday 2 = .ok (.iload_n 1, 1) := by decide +kernel
theorem dX5_receiveToday_3 : decode cX5_receiveToday 3 = .ok (.aload_n 0, 1) := by decide +kernel
theorem dX5_receiveToday_4 : decode cX5_receiveToday 4 = .ok (.getfield 21, 3) := by decide +kernel
theorem dX5_receiveToday_7 : decode cX5_receiveToday 7 = .ok (.arraylength, 1) := by decide +kernel
theorem dX5_receiveToday_8 : decode cX5_receiveToday 8 = .ok (.if_icmp .ge 40, 3) := by decide +kernel
theorem dX5_receiveToday_11 : decode cX5_receiveToday 11 = .ok (.aload_n 0, 1) := by decide +kernel
theorem dX5_receiveToday_12 : decode cX5_receiveToday 12 = .ok (.getfield 21, 3) := by decide +kernel
theorem dX5_receiveToday_15 : decode cX5_receiveToday 15 = .ok (.iload_n 1, 1) := by decide +kernel
theorem dX5_receiveToday_16 : decode cX5_receiveToday 16 = .ok (.aaload, 1) := by decide +kernel
theorem dX5_receiveToday_17 : decode cX5_receiveToday 17 = .ok (.astore_n 2, 1) := by decide +kernel
theorem dX5_receiveToday_18 : decode cX5_receiveToday 18 = .ok (.aload_n 2, 1) := by decide +kernel
theorem dX5_receiveToday_19 : decode cX5_receiveToday 19 = .ok (.ifnull 23, 3) := by decide +kernel
theorem dX5_receiveToday_22 : decode cX5_receiveToday 22 = .ok (.aload_n 2, 1) := by decide +kernel
theorem dX5_receiveToday_23 : decode cX5_receiveToday 23 = .ok (.dup, 1) := by decide +kernel
theorem dX5_receiveToday_24 : decode cX5_receiveToday 24 = .ok (.getfield 223, 3) := by decide +kernel
theorem dX5_receiveToday_27 : decode cX5_receiveToday 27 = .ok (.aload_n 2, 1) := by decide +kernel
theorem dX5_receiveToday_28 : decode cX5_receiveToday 28 = .ok (.getfield 284, 3) := by decide +kernel
theorem dX5_receiveToday_31 : decode cX5_receiveToday 31 = .ok (.aload_n 0, 1) := by decide +kernel
theorem dX5_receiveToday_32 : decode cX5_receiveToday 32 = .ok (.getfield 59, 3) := by decide +kernel
theorem dX5_receiveToday_35 : decode cX5_receiveToday 35 = .ok (.invokevirtual 160, 3) := by decide +kernel
theorem dX5_receiveToday_38 : decode cX5_receiveToday 38 = .ok (.iadd, 1) := by decide +kernel
theorem dX5_receiveToday_39 : decode cX5_receiveToday 39 = .ok (.putfield 223, 3) := by decide +kernel
theorem dX5_receiveToday_42 : decode cX5_receiveToday 42 = .ok (.iinc 1 1, 3) := by decide +kernel
theorem dX5_receiveToday_45 : decode cX5_receiveToday 45 = .ok (.goto (-43), 3) := by decide +kernel
theorem dX5_receiveToday_48 : decode cX5_receiveToday 48 = .ok (.return_, 1) := by decide +kernel
theorem dX5_askForAll_0 : decode cX5_askForAll 0 = .ok (.aload_n 0, 1) := by decide +kernel
theorem dX5_askForAll_1 : decode cX5_askForAll 1 = .ok (.iload_n 1, 1) := by decide +kernel
theorem dX5_askForAll_2 : decode cX5_askForAll 2 = .ok (.invokevirtual 270, 3) := by decide +kernel
theorem dX5_askForAll_5 : decode cX5_askForAll 5 = .ok (.astore_n 2, 1) := by decide +kernel
theorem dX5_askForAll_6 : decode cX5_askForAll 6 = .ok (.aload_n 0, 1) := by decide +kernel
theorem dX5_askForAll_7 : decode cX5_askForAll 7 = .ok (.getfield 45, 3) := by decide +kernel
theorem dX5_askForAll_10 : decode cX5_askForAll 10 = .ok (.aload_n 2, 1) := by decide +kernel
theorem dX5_askForAll_11 : decode cX5_askForAll 11 = .ok (.ifnonnull 7, 3) := by decide +kernel
theorem dX5_askForAll_14 : decode cX5_askForAll 14 = .ok (.iconst 0, 1) := by decide +kernel
theorem dX5_askForAll_15 : decode cX5_askForAll 15 = .ok (.goto 7, 3) := by decide +kernel
theorem dX5_askForAll_18 : decode cX5_askForAll 18 = .ok (.aload_n 2, 1) := by decide +kernel
theorem dX5_askForAll_19 : decode cX5_askForAll 19 = .ok (.invokevirtual 287, 3) := by decide +kernel
theorem dX5_askForAll_22 : decode cX5_askForAll 22 = .ok (.invokevirtual 291, 3) := by decide +kernel
theorem dX5_askForAll_25 : decode cX5_askForAll 25 = .ok (.iconst 0, 1) := by decide +kernel
theorem dX5_askForAll_26 : decode cX5_askForAll 26 = .ok (.istore_n 3, 1) := by decide +kernel
theorem dX5_askForAll_27 : decode cX5_askForAll 27 = .ok (.iload_n 3, 1) := by decide +kernel
theorem dX5_askForAll_28 : decode cX5_askForAll 28 = .ok (.aload_n 0, 1) := by decide +kernel
theorem dX5_askForAll_29 : decode cX5_askForAll 29 = .ok (.getfield 49, 3) := by decide +kernel
theorem dX5_askForAll_32 : decode cX5_askForAll 32 = .ok (.if_icmp .ge 43, 3) := by decide +kernel
theorem dX5_askForAll_35 : decode cX5_askForAll 35 = .ok (.aload_n 0, 1) := by decide +kernel
theorem dX5_askForAll_36 : decode cX5_askForAll 36 = .ok (.iload_n 3, 1) := by decide +kernel
theorem dX5_askForAll_37 : decode cX5_askForAll 37 = .ok (.iload_n 1, 1) := by decide +kernel
theorem dX5_askForAll_38 : decode cX5_askForAll 38 = .ok (.invokevirtual 118, 3) := by decide +kernel
theorem dX5_askForAll_41 : decode cX5_askForAll 41 = .ok (.astore 4, 2) := by decide +kernel
theorem dX5_askForAll_43 : decode cX5_askForAll 43 = .ok (.aload 4, 2) := by decide +kernel
theorem dX5_askForAll_45 : decode cX5_askForAll 45 = .ok (.ifnull 24, 3) := by decide +kernel
theorem dX5_askForAll_48 : decode cX5_askForAll 48 = .ok (.aload_n 0, 1) := by decide +kernel
theorem dX5_askForAll_49 : decode cX5_askForAll 49 = .ok (.getfield 45, 3) := by decide +kernel
theorem dX5_askForAll_52 : decode cX5_askForAll 52 = .ok (.iload_n 3, 1) := by decide +kernel
theorem dX5_askForAll_53 : decode cX5_askForAll 53 = .ok (.aload 4, 2) := by decide +kernel
theorem dX5_askForAll_55 : decode cX5_askForAll 55 = .ok (.aload_n 0, 1) := by decide +kernel
theorem dX5_askForAll_56 : decode cX5_askForAll 56 = .ok (.getfield 59, 3) := by decide +kernel
theorem dX5_askForAll_59 : decode cX5_askForAll 59 = .ok (.aload_n 0, 1) := by decide +kernel
theorem dX5_askForAll_60 : decode cX5_askForAll 60 = .ok (.getfield 62, 3) := by decide +kernel
theorem dX5_askForAll_63 : decode cX5_askForAll 63 = .ok (.invokevirtual 241, 3) := by decide +kernel
theorem dX5_askForAll_66 : decode cX5_askForAll 66 = .ok (.invokevirtual 292, 3) := by decide +kernel
theorem dX5_askForAll_69 : decode cX5_askForAll 69 = .ok (.iinc 3 1, 3) := by decide +kernel
theorem dX5_askForAll_72 : decode cX5_askForAll 72 = .ok (.goto (-45), 3) := by decide +kernel
theorem dX5_askForAll_75 : decode cX5_askForAll 75 = .ok (.return_, 1) := by decide +kernel
theorem dX5_sendPacks_0 : decode cX5_sendPacks 0 = .ok (.aload_n 0, 1) := by decide +kernel
theorem dX5_sendPacks_1 : decode cX5_sendPacks 1 = .ok (.iload_n 1, 1) := by decide +kernel
theorem dX5_sendPacks_2 : decode cX5_sendPacks 2 = .ok (.invokevirtual 244, 3) := by decide +kernel
theorem dX5_sendPacks_5 : decode cX5_sendPacks 5 = .ok (.iconst 0, 1) := by decide +kernel
theorem dX5_sendPacks_6 : decode cX5_sendPacks 6 = .ok (.istore_n 2, 1) := by decide +kernel
theorem dX5_sendPacks_7 : decode cX5_sendPacks 7 = .ok (.iconst 0, 1) := by decide +kernel
theorem dX5_sendPacks_8 : decode cX5_sendPacks 8 = .ok (.istore_n 3, 1) := by decide +kernel
theorem dX5_sendPacks_9 : decode cX5_sendPacks 9 = .ok (.iload_n 3, 1) := by decide +kernel
theorem dX5_sendPacks_10 : decode cX5_sendPacks 10 = .ok (.aload_n 0, 1) := by decide +kernel
theorem dX5_sendPacks_11 : decode cX5_sendPacks 11 = .ok (.getfield 49, 3) := by decide +kernel
theorem dX5_sendPacks_14 : decode cX5_sendPacks 14 = .ok (.if_icmp .ge 48, 3) := by decide +kernel
theorem dX5_sendPacks_17 : decode cX5_sendPacks 17 = .ok (.aload_n 0, 1) := by decide +kernel
theorem dX5_sendPacks_18 : decode cX5_sendPacks 18 = .ok (.iload_n 3, 1) := by decide +kernel
theorem dX5_sendPacks_19 : decode cX5_sendPacks 19 = .ok (.iload_n 1, 1) := by decide +kernel
theorem dX5_sendPacks_20 : decode cX5_sendPacks 20 = .ok (.invokevirtual 118, 3) := by decide +kernel
theorem dX5_sendPacks_23 : decode cX5_sendPacks 23 = .ok (.astore 4, 2) := by decide +kernel
theorem dX5_sendPacks_25 : decode cX5_sendPacks 25 = .ok (.aload 4, 2) := by decide +kernel
theorem dX5_sendPacks_27 : decode cX5_sendPacks 27 = .ok (.ifnull 29, 3) := by decide +kernel
theorem dX5_sendPacks_30 : decode cX5_sendPacks 30 = .ok (.aload_n 0, 1) := by decide +kernel
theorem dX5_sendPacks_31 : decode cX5_sendPacks 31 = .ok (.getfield 45, 3) := by decide +kernel
theorem dX5_sendPacks_34 : decode cX5_sendPacks 34 = .ok (.iload_n 3, 1) := by decide +kernel
theorem dX5_sendPacks_35 : decode cX5_sendPacks 35 = .ok (.invokevirtual 247, 3) := by decide +kernel
theorem dX5_sendPacks_38 : decode cX5_sendPacks 38 = .ok (.istore 5, 2) := by decide +kernel
theorem dX5_sendPacks_40 : decode cX5_sendPacks 40 = .ok (.aload 4, 2) := by decide +kernel
theorem dX5_sendPacks_42 : decode cX5_sendPacks 42 = .ok (.aload_n 0, 1) := by decide +kernel
theorem dX5_sendPacks_43 : decode cX5_sendPacks 43 = .ok (.getfield 59, 3) := by decide +kernel
theorem dX5_sendPacks_46 : decode cX5_sendPacks 46 = .ok (.iload 5, 2) := by decide +kernel
theorem dX5_sendPacks_48 : decode cX5_sendPacks 48 = .ok (.invokevirtual 295, 3) := by decide +kernel
theorem dX5_sendPacks_51 : decode cX5_sendPacks 51 = .ok (.iload_n 2, 1) := by decide +kernel
theorem dX5_sendPacks_52 : decode cX5_sendPacks 52 = .ok (.iload 5, 2) := by decide +kernel
theorem dX5_sendPacks_54 : decode cX5_sendPacks 54 = .ok (.iadd, 1) := by decide +kernel
theorem dX5_sendPacks_55 : decode cX5_sendPacks 55 = .ok (.istore_n 2, 1) := by decide +kernel
theorem dX5_sendPacks_56 : decode cX5_sendPacks 56 = .ok (.iinc 3 1, 3) := by decide +kernel
theorem dX5_sendPacks_59 : decode cX5_sendPacks 59 = .ok (.goto (-50), 3) := by decide +kernel
theorem dX5_sendPacks_62 : decode cX5_sendPacks 62 = .ok (.iload_n 2, 1) := by decide +kernel
theorem dX5_sendPacks_63 : decode cX5_sendPacks 63 = .ok (.ireturn, 1) := by decide +kernel
theorem dJ9_floorDiv_f86c9_0 : decode cJ9_floorDiv_f86c9 0 = .ok (.lload_n 0, 1) := by decide +kernel
theorem dJ9_floorDiv_f86c9_1 : decode cJ9_floorDiv_f86c9 1 = .ok (.lload_n 2, 1) := by decide +kernel
theorem dJ9_floorDiv_f86c9_2 : decode cJ9_floorDiv_f86c9 2 = .ok (.ldiv, 1) := by decide +kernel
theorem dJ9_floorDiv_f86c9_3 : decode cJ9_floorDiv_f86c9 3 = .ok (.lstore 4, 2) := by decide +kernel
theorem dJ9_floorDiv_f86c9_5 : decode cJ9_floorDiv_f86c9 5 = .ok (.lload_n 0, 1) := by decide +kernel
theorem dJ9_floorDiv_f86c9_6 : decode cJ9_floorDiv_f86c9 6 = .ok (.lload_n 2, 1) := by decide +kernel
theorem dJ9_floorDiv_f86c9_7 : decode cJ9_floorDiv_f86c9 7 = .ok (.lxor, 1) := by decide +kernel
theorem dJ9_floorDiv_f86c9_8 : decode cJ9_floorDiv_f86c9 8 = .ok (.lconst 0, 1) := by decide +kernel
theorem dJ9_floorDiv_f86c9_9 : decode cJ9_floorDiv_f86c9 9 = .ok (.lcmp, 1) := by decide +kernel
theorem dJ9_floorDiv_f86c9_10 : decode cJ9_floorDiv_f86c9 10 = .ok (.ifCond .ge 17, 3) := by decide +kernel
theorem dJ9_floorDiv_f86c9_13 : decode cJ9_floorDiv_f86c9 13 = .ok (.lload 4, 2) := by decide +kernel
theorem dJ9_floorDiv_f86c9_15 : decode cJ9_floorDiv_f86c9 15 = .ok (.lload_n 2, 1) := by decide +kernel
theorem dJ9_floorDiv_f86c9_16 : decode cJ9_floorDiv_f86c9 16 = .ok (.lmul, 1) := by decide +kernel
theorem dJ9_floorDiv_f86c9_17 : decode cJ9_floorDiv_f86c9 17 = .ok (.lload_n 0, 1) := by decide +kernel
theorem dJ9_floorDiv_f86c9_18 : decode cJ9_floorDiv_f86c9 18 = .ok (.lcmp, 1) := by decide +kernel
theorem dJ9_floorDiv_f86c9_19 : decode cJ9_floorDiv_f86c9 19 = .ok (.ifCond .eq 8, 3) := by decide +kernel
theorem dJ9_floorDiv_f86c9_22 : decode cJ9_floorDiv_f86c9 22 = .ok (.lload 4, 2) := by decide +kernel
theorem dJ9_floorDiv_f86c9_24 : decode cJ9_floorDiv_f86c9 24 = .ok (.lconst 1, 1) := by decide +kernel
theorem dJ9_floorDiv_f86c9_25 : decode cJ9_floorDiv_f86c9 25 = .ok (.lsub, 1) := by decide +kernel
theorem dJ9_floorDiv_f86c9_26 : decode cJ9_floorDiv_f86c9 26 = .ok (.lreturn, 1) := by decide +kernel
theorem dJ9_floorDiv_f86c9_27 : decode cJ9_floorDiv_f86c9 27 = .ok (.lload 4, 2) := by decide +kernel
theorem dJ9_floorDiv_f86c9_29 : decode cJ9_floorDiv_f86c9 29 = .ok (.lreturn, 1) := by decide +kernel
theorem dJ9_abs_0f7a4_0 : decode cJ9_abs_0f7a4 0 = .ok (.iload_n 0, 1) := by decide +kernel
theorem dJ9_abs_0f7a4_1 : decode cJ9_abs_0f7a4 1 = .ok (.ifCond .ge 8, 3) := by decide +kernel
theorem dJ9_abs_0f7a4_4 : decode cJ9_abs_0f7a4 4 = .ok (.iload_n 0, 1) := by decide +kernel
theorem dJ9_abs_0f7a4_5 : decode cJ9_abs_0f7a4 5 = .ok (.ineg, 1) := by decide +kernel
theorem dJ9_abs_0f7a4_6 : decode cJ9_abs_0f7a4 6 = .ok (.goto 4, 3) := by decide +kernel
theorem dJ9_abs_0f7a4_9 : decode cJ9_abs_0f7a4 9 = .ok (.iload_n 0, 1) := by decide +kernel
theorem dJ9_abs_0f7a4_10 : decode cJ9_abs_0f7a4 10 = .ok (.ireturn, 1) := by decide +kernel
theorem dJ9_max_f86c9_0 : decode cJ9_max_f86c9 0 = .ok (.lload_n 0, 1) := by decide +kernel
theorem dJ9_max_f86c9_1 : decode cJ9_max_f86c9 1 = .ok (.lload_n 2, 1) := by decide +kernel
theorem dJ9_max_f86c9_2 : decode cJ9_max_f86c9 2 = .ok (.lcmp, 1) := by decide +kernel
theorem dJ9_max_f86c9_3 : decode cJ9_max_f86c9 3 = .ok (.ifCond .lt 7, 3) := by decide +kernel
theorem dJ9_max_f86c9_6 : decode cJ9_max_f86c9 6 = .ok (.lload_n 0, 1) := by decide +kernel
theorem dJ9_max_f86c9_7 : decode cJ9_max_f86c9 7 = .ok (.goto 4, 3) := by decide +kernel
theorem dJ9_max_f86c9_10 : decode cJ9_max_f86c9 10 = .ok (.lload_n 2, 1) := by decide +kernel
theorem dJ9_max_f86c9_11 : decode cJ9_max_f86c9 11 = .ok (.lreturn, 1) := by decide +kernel
theorem dJ9_min_7cf53_0 : decode cJ9_min_7cf53 0 = .ok (.iload_n 0, 1) := by decide +kernel
theorem dJ9_min_7cf53_1 : decode cJ9_min_7cf53 1 = .ok (.iload_n 1, 1) := by decide +kernel
theorem dJ9_min_7cf53_2 : decode cJ9_min_7cf53 2 = .ok (.if_icmp .gt 7, 3) := by decide +kernel
theorem dJ9_min_7cf53_5 : decode cJ9_min_7cf53 5 = .ok (.iload_n 0, 1) := by decide +kernel
theorem dJ9_min_7cf53_6 : decode cJ9_min_7cf53 6 = .ok (.goto 4, 3) := by decide +kernel
theorem dJ9_min_7cf53_9 : decode cJ9_min_7cf53 9 = .ok (.iload_n 1, 1) := by decide +kernel
theorem dJ9_min_7cf53_10 : decode cJ9_min_7cf53 10 = .ok (.ireturn, 1) := by decide +kernel
theorem dJ9_min_f86c9_0 : decode cJ9_min_f86c9 0 = .ok (.lload_n 0, 1) := by decide +kernel
theorem dJ9_min_f86c9_1 : decode cJ9_min_f86c9 1 = .ok (.lload_n 2, 1) := by decide +kernel
theorem dJ9_min_f86c9_2 : decode cJ9_min_f86c9 2 = .ok (.lcmp, 1) := by decide +kernel
theorem dJ9_min_f86c9_3 : decode cJ9_min_f86c9 3 = .ok (.ifCond .gt 7, 3) := by decide +kernel
theorem dJ9_min_f86c9_6 : decode cJ9_min_f86c9 6 = .ok (.lload_n 0, 1) := by decide +kernel
theorem dJ9_min_f86c9_7 : decode cJ9_min_f86c9 7 = .ok (.goto 4, 3) := by decide +kernel
theorem dJ9_min_f86c9_10 : decode cJ9_min_f86c9 10 = .ok (.lload_n 2, 1) := by decide +kernel
theorem dJ9_min_f86c9_11 : decode cJ9_min_f86c9 11 = .ok (.lreturn, 1) := by decide +kernel
abbrev vwCl : List vw_C := [(RX0, TX0, 1), (RX1, TX1, 6), (RX2, TX2, 2), (RX3, TX3, 14), (RX4, TX4, 3), (RX5, TX5, 14)]
